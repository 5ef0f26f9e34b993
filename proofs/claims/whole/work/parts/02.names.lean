def RX0 : String := "ShadowTax$Image"
def TX0 : u_T := fun k => match k with
  | 0 => ("ShadowTax$Image", "any", "Z", false)
  | 1 => ("ShadowTax$Image", "many", "I", false)
  | 2 => ("ShadowTax$Image", "ruling", "I", false)
  | 3 => ("ShadowTax$Image", "day", "I", false)
  | 4 => ("ShadowTax$Image", "clouds", "I", false)
  | 5 => ("ShadowTax$Image", "numbers", "[I", true)
  | 6 => ("ShadowTax$Image", "heights", "[I", true)
  | _ => ("ShadowTax$Image", "cells", "[I", true)
def tyX0 : Nat → FieldType := fun k => match k with
  | 0 => .boolean
  | 1 => .int
  | 2 => .int
  | 3 => .int
  | 4 => .int
  | 5 => .array .int
  | 6 => .array .int
  | _ => .array .int
theorem nmX0 : ∀ a, a < 8 → ∀ b, b < 8 → a ≠ b → (TX0 a).2.1 ≠ (TX0 b).2.1 := by decide +kernel
theorem tyX0_ok : ∀ k, k < 8 → parseFieldDescriptor (TX0 k).2.2.1 = some (tyX0 k) := by decide +kernel
def RX1 : String := "ShadowTax$Reader"
def TX1 : u_T := fun k => match k with
  | 0 => ("ShadowTax$Reader", "size", "I", false)
  | 1 => ("ShadowTax$Reader", "tape", "[I", true)
  | 2 => ("ShadowTax$Reader", "next", "I", false)
  | 3 => ("ShadowTax$Reader", "begin", "I", false)
  | 4 => ("ShadowTax$Reader", "token", "I", false)
  | 5 => ("ShadowTax$Reader", "fault", "I", false)
  | _ => ("ShadowTax$Reader", "rule", "LShadowTax$Rule;", false)
def tyX1 : Nat → FieldType := fun k => match k with
  | 0 => .int
  | 1 => .array .int
  | 2 => .int
  | 3 => .int
  | 4 => .int
  | 5 => .int
  | _ => .object "ShadowTax$Rule"
theorem nmX1 : ∀ a, a < 7 → ∀ b, b < 7 → a ≠ b → (TX1 a).2.1 ≠ (TX1 b).2.1 := by decide +kernel
theorem tyX1_ok : ∀ k, k < 7 → parseFieldDescriptor (TX1 k).2.2.1 = some (tyX1 k) := by decide +kernel
def RX2 : String := "ShadowTax$Rule"
def TX2 : u_T := fun k => match k with
  | 0 => ("ShadowTax$Rule", "steps", "[I", true)
  | 1 => ("ShadowTax$Rule", "ends", "[I", true)
  | 2 => ("ShadowTax$Rule", "size", "I", false)
  | _ => ("ShadowTax$Rule", "parts", "I", false)
def tyX2 : Nat → FieldType := fun k => match k with
  | 0 => .array .int
  | 1 => .array .int
  | 2 => .int
  | _ => .int
theorem nmX2 : ∀ a, a < 4 → ∀ b, b < 4 → a ≠ b → (TX2 a).2.1 ≠ (TX2 b).2.1 := by decide +kernel
theorem tyX2_ok : ∀ k, k < 4 → parseFieldDescriptor (TX2 k).2.2.1 = some (tyX2 k) := by decide +kernel
def RX3 : String := "ShadowTax$Sheet"
def TX3 : u_T := fun k => match k with
  | 0 => ("ShadowTax$Sheet", "numbers", "[I", true)
  | 1 => ("ShadowTax$Sheet", "sort", "I", false)
  | _ => ("ShadowTax$Sheet", "size", "I", false)
def tyX3 : Nat → FieldType := fun k => match k with
  | 0 => .array .int
  | 1 => .int
  | _ => .int
theorem nmX3 : ∀ a, a < 3 → ∀ b, b < 3 → a ≠ b → (TX3 a).2.1 ≠ (TX3 b).2.1 := by decide +kernel
theorem tyX3_ok : ∀ k, k < 3 → parseFieldDescriptor (TX3 k).2.2.1 = some (tyX3 k) := by decide +kernel
def RX4 : String := "ShadowTax$Square"
def TX4 : u_T := fun k => match k with
  | 0 => ("ShadowTax$Square", "things", "[LShadowTax$Thing;", true)
  | 1 => ("ShadowTax$Square", "texts", "[LShadowTax$Rule;", true)
  | 2 => ("ShadowTax$Square", "many", "I", false)
  | 3 => ("ShadowTax$Square", "made", "I", false)
  | 4 => ("ShadowTax$Square", "ruling", "I", false)
  | 5 => ("ShadowTax$Square", "day", "I", false)
  | 6 => ("ShadowTax$Square", "clouds", "I", false)
  | 7 => ("ShadowTax$Square", "longs", "[I", true)
  | 8 => ("ShadowTax$Square", "dues", "[I", true)
  | 9 => ("ShadowTax$Square", "hidden", "I", false)
  | 10 => ("ShadowTax$Square", "shadowed", "I", false)
  | 11 => ("ShadowTax$Square", "away", "I", false)
  | 12 => ("ShadowTax$Square", "values", "[I", true)
  | _ => ("ShadowTax$Square", "stack", "[I", true)
def tyX4 : Nat → FieldType := fun k => match k with
  | 0 => .array (.object "ShadowTax$Thing")
  | 1 => .array (.object "ShadowTax$Rule")
  | 2 => .int
  | 3 => .int
  | 4 => .int
  | 5 => .int
  | 6 => .int
  | 7 => .array .int
  | 8 => .array .int
  | 9 => .int
  | 10 => .int
  | 11 => .int
  | 12 => .array .int
  | _ => .array .int
theorem nmX4 : ∀ a, a < 14 → ∀ b, b < 14 → a ≠ b → (TX4 a).2.1 ≠ (TX4 b).2.1 := by decide +kernel
theorem tyX4_ok : ∀ k, k < 14 → parseFieldDescriptor (TX4 k).2.2.1 = some (tyX4 k) := by decide +kernel
def RX5 : String := "ShadowTax$Thing"
def TX5 : u_T := fun k => match k with
  | 0 => ("ShadowTax$Thing", "kind", "I", false)
  | 1 => ("ShadowTax$Thing", "number", "I", false)
  | 2 => ("ShadowTax$Thing", "height", "I", false)
  | _ => ("ShadowTax$Thing", "on", "I", false)
def tyX5 : Nat → FieldType := fun k => match k with
  | 0 => .int
  | 1 => .int
  | 2 => .int
  | _ => .int
theorem nmX5 : ∀ a, a < 4 → ∀ b, b < 4 → a ≠ b → (TX5 a).2.1 ≠ (TX5 b).2.1 := by decide +kernel
theorem tyX5_ok : ∀ k, k < 4 → parseFieldDescriptor (TX5 k).2.2.1 = some (tyX5 k) := by decide +kernel
def RX6 : String := "ShadowTax"
def TX6 : u_T := fun k => match k with
  | 0 => ("ShadowTax", "square", "LShadowTax$Square;", true)
  | 1 => ("ShadowTax", "reader", "LShadowTax$Reader;", true)
  | 2 => ("ShadowTax", "kept", "LShadowTax$Image;", true)
  | 3 => ("ShadowTax", "sheets", "[LShadowTax$Sheet;", true)
  | _ => ("ShadowTax", "clear", "[I", true)
def tyX6 : Nat → FieldType := fun k => match k with
  | 0 => .object "ShadowTax$Square"
  | 1 => .object "ShadowTax$Reader"
  | 2 => .object "ShadowTax$Image"
  | 3 => .array (.object "ShadowTax$Sheet")
  | _ => .array .int
theorem nmX6 : ∀ a, a < 5 → ∀ b, b < 5 → a ≠ b → (TX6 a).2.1 ≠ (TX6 b).2.1 := by decide +kernel
theorem tyX6_ok : ∀ k, k < 5 → parseFieldDescriptor (TX6 k).2.2.1 = some (tyX6 k) := by decide +kernel
def RX7 : String := "ShadowTaxModel"
def TX7 : u_T := fun k => match k with
  | 0 => ("ShadowTaxModel", "thrown", "I", false)
  | 1 => ("ShadowTaxModel", "texts", "[I", true)
  | 2 => ("ShadowTaxModel", "textSize", "[I", true)
  | 3 => ("ShadowTaxModel", "textCount", "I", false)
  | 4 => ("ShadowTaxModel", "rule", "I", false)
  | 5 => ("ShadowTaxModel", "tape", "[I", true)
  | 6 => ("ShadowTaxModel", "taped", "I", false)
  | 7 => ("ShadowTaxModel", "dayNow", "I", false)
  | 8 => ("ShadowTaxModel", "clouds", "I", false)
  | 9 => ("ShadowTaxModel", "kinds", "[I", true)
  | 10 => ("ShadowTaxModel", "rows", "[I", true)
  | 11 => ("ShadowTaxModel", "many", "I", false)
  | 12 => ("ShadowTaxModel", "ofHour", "I", false)
  | 13 => ("ShadowTaxModel", "ofHeight", "I", false)
  | 14 => ("ShadowTaxModel", "ofNumber", "I", false)
  | 15 => ("ShadowTaxModel", "ofLong", "I", false)
  | 16 => ("ShadowTaxModel", "ofDay", "I", false)
  | 17 => ("ShadowTaxModel", "ofCell", "I", false)
  | 18 => ("ShadowTaxModel", "from", "I", false)
  | 19 => ("ShadowTaxModel", "size", "I", false)
  | 20 => ("ShadowTaxModel", "here", "I", false)
  | 21 => ("ShadowTaxModel", "token", "I", false)
  | 22 => ("ShadowTaxModel", "tokenAt", "I", false)
  | 23 => ("ShadowTaxModel", "tokenWorth", "J", false)
  | 24 => ("ShadowTaxModel", "open", "I", false)
  | 25 => ("ShadowTaxModel", "bad", "Z", false)
  | 26 => ("ShadowTaxModel", "fault", "I", false)
  | 27 => ("ShadowTaxModel", "gone", "I", false)
  | 28 => ("ShadowTaxModel", "longs", "[I", true)
  | 29 => ("ShadowTaxModel", "hidden", "[I", true)
  | 30 => ("ShadowTaxModel", "due", "[I", true)
  | 31 => ("ShadowTaxModel", "darkSet", "I", false)
  | 32 => ("ShadowTaxModel", "found", "I", false)
  | 33 => ("ShadowTaxModel", "value", "I", false)
  | 34 => ("ShadowTaxModel", "rowsKept", "[I", true)
  | 35 => ("ShadowTaxModel", "manyKept", "I", false)
  | 36 => ("ShadowTaxModel", "dayKept", "I", false)
  | 37 => ("ShadowTaxModel", "cloudsKept", "I", false)
  | 38 => ("ShadowTaxModel", "ruleKept", "I", false)
  | 39 => ("ShadowTaxModel", "isThere", "[Z", true)
  | 40 => ("ShadowTaxModel", "sorts", "[I", true)
  | 41 => ("ShadowTaxModel", "sheetSize", "[I", true)
  | _ => ("ShadowTaxModel", "items", "[I", true)
def tyX7 : Nat → FieldType := fun k => match k with
  | 0 => .int
  | 1 => .array .int
  | 2 => .array .int
  | 3 => .int
  | 4 => .int
  | 5 => .array .int
  | 6 => .int
  | 7 => .int
  | 8 => .int
  | 9 => .array .int
  | 10 => .array .int
  | 11 => .int
  | 12 => .int
  | 13 => .int
  | 14 => .int
  | 15 => .int
  | 16 => .int
  | 17 => .int
  | 18 => .int
  | 19 => .int
  | 20 => .int
  | 21 => .int
  | 22 => .int
  | 23 => .long
  | 24 => .int
  | 25 => .boolean
  | 26 => .int
  | 27 => .int
  | 28 => .array .int
  | 29 => .array .int
  | 30 => .array .int
  | 31 => .int
  | 32 => .int
  | 33 => .int
  | 34 => .array .int
  | 35 => .int
  | 36 => .int
  | 37 => .int
  | 38 => .int
  | 39 => .array .boolean
  | 40 => .array .int
  | 41 => .array .int
  | _ => .array .int
theorem nmX7 : ∀ a, a < 43 → ∀ b, b < 43 → a ≠ b → (TX7 a).2.1 ≠ (TX7 b).2.1 := by decide +kernel
theorem tyX7_ok : ∀ k, k < 43 → parseFieldDescriptor (TX7 k).2.2.1 = some (tyX7 k) := by decide +kernel
/-! the classes whose objects the worlds hold, by number: 0 Image, 1 Reader, 2 Rule, 3 Sheet, 4 Square, 5 Thing, 6 ShadowTax, 7 ShadowTaxModel -/
def clT : List vw_C := [(RX0, TX0, 8), (RX1, TX1, 7), (RX2, TX2, 4), (RX3, TX3, 3), (RX4, TX4, 14), (RX5, TX5, 4), (RX6, TX6, 5), (RX7, TX7, 43)]
def ctT : List (Nat → FieldType) := [tyX0, tyX1, tyX2, tyX3, tyX4, tyX5, tyX6, tyX7]
/-- the words that are good at every state behind the start -/
def tbG : List Cond := lw_tbl.filter goodWord
theorem tbG_mem {w : Cond} (i : Nat) (h : lw_tbl[i]? = some w) (hg : goodWord w = true) : w ∈ tbG := List.mem_filter.mpr ⟨List.mem_of_getElem? h, hg⟩
theorem tbG_good {w : Cond} (h : w ∈ tbG) : (w.onTables && w.keeps) = true ∨ ∃ ty, w = .arrayClass ty := good_of_word (List.mem_filter.mp h).2
theorem tbG_sub {ws : List Cond} (ps : List Nat) (hp : ws = ps.filterMap (fun i => lw_tbl[i]?)) (h : ws.all goodWord = true) : ∀ w ∈ ws, w ∈ tbG := by
  intro w hw
  have h1 := List.all_eq_true.mp h w hw
  rw [hp] at hw
  obtain ⟨i, -, hi⟩ := List.mem_filterMap.mp hw
  exact List.mem_filter.mpr ⟨List.mem_of_getElem? hi, h1⟩
theorem u_X0 : ∀ w ∈ u_ws RX0 TX0 8, w ∈ tbG := tbG_sub [282, 284, 286, 288, 290, 292, 294, 296] (by decide +kernel) (by decide +kernel)
theorem u_X1 : ∀ w ∈ u_ws RX1 TX1 7, w ∈ tbG := tbG_sub [252, 254, 256, 258, 260, 262, 264] (by decide +kernel) (by decide +kernel)
theorem u_X2 : ∀ w ∈ u_ws RX2 TX2 4, w ∈ tbG := tbG_sub [155, 157, 159, 161] (by decide +kernel) (by decide +kernel)
theorem u_X3 : ∀ w ∈ u_ws RX3 TX3 3, w ∈ tbG := tbG_sub [312, 314, 316] (by decide +kernel) (by decide +kernel)
theorem u_X4 : ∀ w ∈ u_ws RX4 TX4 14, w ∈ tbG := tbG_sub [209, 211, 213, 215, 217, 219, 221, 223, 225, 227, 229, 231, 233, 235] (by decide +kernel) (by decide +kernel)
theorem u_X5 : ∀ w ∈ u_ws RX5 TX5 4, w ∈ tbG := tbG_sub [136, 138, 140, 142] (by decide +kernel) (by decide +kernel)
theorem u_X6 : ∀ w ∈ u_ws RX6 TX6 5, w ∈ tbG := tbG_sub [324, 326, 328, 330, 332] (by decide +kernel) (by decide +kernel)
theorem u_X7 : ∀ w ∈ u_ws RX7 TX7 43, w ∈ tbG := tbG_sub [828, 830, 832, 834, 836, 838, 840, 842, 844, 846, 848, 850, 852, 854, 856, 858, 860, 862, 864, 866, 868, 870, 872, 874, 876, 878, 880, 882, 884, 886, 888, 890, 892, 894, 896, 898, 900, 902, 904, 906, 908, 910, 912] (by decide +kernel) (by decide +kernel)
