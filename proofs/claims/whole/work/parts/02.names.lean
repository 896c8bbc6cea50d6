def RX0 : String := "ChairViews$Bench"
def TX0 : u_T := fun k => match k with
  | _ => ("ChairViews$Chair", "trace", "LChairViews$Row;", true)
def tyX0 : Nat → FieldType := fun k => match k with
  | _ => .object "ChairViews$Row"
theorem nmX0 : ∀ a, a < 1 → ∀ b, b < 1 → a ≠ b → (TX0 a).2.1 ≠ (TX0 b).2.1 := by decide +kernel
theorem tyX0_ok : ∀ k, k < 1 → parseFieldDescriptor (TX0 k).2.2.1 = some (tyX0 k) := by decide +kernel
def RX1 : String := "ChairViews$Chair"
def TX1 : u_T := fun k => match k with
  | _ => ("ChairViews$Chair", "trace", "LChairViews$Row;", true)
def tyX1 : Nat → FieldType := fun k => match k with
  | _ => .object "ChairViews$Row"
theorem nmX1 : ∀ a, a < 1 → ∀ b, b < 1 → a ≠ b → (TX1 a).2.1 ≠ (TX1 b).2.1 := by decide +kernel
theorem tyX1_ok : ∀ k, k < 1 → parseFieldDescriptor (TX1 k).2.2.1 = some (tyX1 k) := by decide +kernel
def RX2 : String := "ChairViews$Crown"
def TX2 : u_T := fun k => match k with
  | _ => ("ChairViews$Chair", "trace", "LChairViews$Row;", true)
def tyX2 : Nat → FieldType := fun k => match k with
  | _ => .object "ChairViews$Row"
theorem nmX2 : ∀ a, a < 1 → ∀ b, b < 1 → a ≠ b → (TX2 a).2.1 ≠ (TX2 b).2.1 := by decide +kernel
theorem tyX2_ok : ∀ k, k < 1 → parseFieldDescriptor (TX2 k).2.2.1 = some (tyX2 k) := by decide +kernel
def RX3 : String := "ChairViews$Glued"
def TX3 : u_T := fun k => match k with
  | _ => ("ChairViews$Chair", "trace", "LChairViews$Row;", true)
def tyX3 : Nat → FieldType := fun k => match k with
  | _ => .object "ChairViews$Row"
theorem nmX3 : ∀ a, a < 1 → ∀ b, b < 1 → a ≠ b → (TX3 a).2.1 ≠ (TX3 b).2.1 := by decide +kernel
theorem tyX3_ok : ∀ k, k < 1 → parseFieldDescriptor (TX3 k).2.2.1 = some (tyX3 k) := by decide +kernel
def RX4 : String := "ChairViews$House"
def TX4 : u_T := fun k => match k with
  | 0 => ("ChairViews$House", "kinds", "[LChairViews$Chair;", true)
  | 1 => ("ChairViews$House", "chairs", "I", false)
  | 2 => ("ChairViews$House", "kind", "[I", true)
  | 3 => ("ChairViews$House", "m", "[I", true)
  | 4 => ("ChairViews$House", "views", "[I", true)
  | 5 => ("ChairViews$House", "cushion", "[I", true)
  | 6 => ("ChairViews$House", "weight", "[I", true)
  | 7 => ("ChairViews$House", "members", "I", false)
  | 8 => ("ChairViews$House", "speed", "[I", true)
  | 9 => ("ChairViews$House", "hobby", "[I", true)
  | 10 => ("ChairViews$House", "at", "[I", true)
  | 11 => ("ChairViews$House", "weightText", "LChairViews$Text;", true)
  | 12 => ("ChairViews$House", "zealText", "LChairViews$Text;", true)
  | 13 => ("ChairViews$House", "tape", "LChairViews$Row;", true)
  | 14 => ("ChairViews$House", "waiting", "LChairViews$Row;", true)
  | 15 => ("ChairViews$House", "laws", "I", false)
  | 16 => ("ChairViews$House", "sitting", "I", false)
  | _ => ("ChairViews$House", "z", "I", false)
def tyX4 : Nat → FieldType := fun k => match k with
  | 0 => .array (.object "ChairViews$Chair")
  | 1 => .int
  | 2 => .array .int
  | 3 => .array .int
  | 4 => .array .int
  | 5 => .array .int
  | 6 => .array .int
  | 7 => .int
  | 8 => .array .int
  | 9 => .array .int
  | 10 => .array .int
  | 11 => .object "ChairViews$Text"
  | 12 => .object "ChairViews$Text"
  | 13 => .object "ChairViews$Row"
  | 14 => .object "ChairViews$Row"
  | 15 => .int
  | 16 => .int
  | _ => .int
theorem nmX4 : ∀ a, a < 18 → ∀ b, b < 18 → a ≠ b → (TX4 a).2.1 ≠ (TX4 b).2.1 := by decide +kernel
theorem tyX4_ok : ∀ k, k < 18 → parseFieldDescriptor (TX4 k).2.2.1 = some (tyX4 k) := by decide +kernel
def RX5 : String := "ChairViews$Reader"
def TX5 : u_T := fun k => match k with
  | 0 => ("ChairViews$Reader", "steps", "LChairViews$Row;", true)
  | 1 => ("ChairViews$Reader", "bytes", "LChairViews$Row;", true)
  | 2 => ("ChairViews$Reader", "names", "Ljava/lang/String;", false)
  | 3 => ("ChairViews$Reader", "place", "I", false)
  | _ => ("ChairViews$Reader", "fault", "I", false)
def tyX5 : Nat → FieldType := fun k => match k with
  | 0 => .object "ChairViews$Row"
  | 1 => .object "ChairViews$Row"
  | 2 => .object "java/lang/String"
  | 3 => .int
  | _ => .int
theorem nmX5 : ∀ a, a < 5 → ∀ b, b < 5 → a ≠ b → (TX5 a).2.1 ≠ (TX5 b).2.1 := by decide +kernel
theorem tyX5_ok : ∀ k, k < 5 → parseFieldDescriptor (TX5 k).2.2.1 = some (tyX5 k) := by decide +kernel
def RX6 : String := "ChairViews$Repaired"
def TX6 : u_T := fun k => match k with
  | _ => ("ChairViews$Chair", "trace", "LChairViews$Row;", true)
def tyX6 : Nat → FieldType := fun k => match k with
  | _ => .object "ChairViews$Row"
theorem nmX6 : ∀ a, a < 1 → ∀ b, b < 1 → a ≠ b → (TX6 a).2.1 ≠ (TX6 b).2.1 := by decide +kernel
theorem tyX6_ok : ∀ k, k < 1 → parseFieldDescriptor (TX6 k).2.2.1 = some (tyX6 k) := by decide +kernel
def RX7 : String := "ChairViews$Row"
def TX7 : u_T := fun k => match k with
  | 0 => ("ChairViews$Row", "numbers", "[I", true)
  | 1 => ("ChairViews$Row", "bits", "I", false)
  | _ => ("ChairViews$Row", "length", "I", false)
def tyX7 : Nat → FieldType := fun k => match k with
  | 0 => .array .int
  | 1 => .int
  | _ => .int
theorem nmX7 : ∀ a, a < 3 → ∀ b, b < 3 → a ≠ b → (TX7 a).2.1 ≠ (TX7 b).2.1 := by decide +kernel
theorem tyX7_ok : ∀ k, k < 3 → parseFieldDescriptor (TX7 k).2.2.1 = some (tyX7 k) := by decide +kernel
def RX8 : String := "ChairViews$Soaked"
def TX8 : u_T := fun k => match k with
  | _ => ("ChairViews$Chair", "trace", "LChairViews$Row;", true)
def tyX8 : Nat → FieldType := fun k => match k with
  | _ => .object "ChairViews$Row"
theorem nmX8 : ∀ a, a < 1 → ∀ b, b < 1 → a ≠ b → (TX8 a).2.1 ≠ (TX8 b).2.1 := by decide +kernel
theorem tyX8_ok : ∀ k, k < 1 → parseFieldDescriptor (TX8 k).2.2.1 = some (tyX8 k) := by decide +kernel
def RX9 : String := "ChairViews$Text"
def TX9 : u_T := fun k => match k with
  | 0 => ("ChairViews$Text", "steps", "LChairViews$Row;", true)
  | 1 => ("ChairViews$Text", "pile", "[I", true)
  | 2 => ("ChairViews$Text", "least", "I", true)
  | _ => ("ChairViews$Text", "most", "I", true)
def tyX9 : Nat → FieldType := fun k => match k with
  | 0 => .object "ChairViews$Row"
  | 1 => .array .int
  | 2 => .int
  | _ => .int
theorem nmX9 : ∀ a, a < 4 → ∀ b, b < 4 → a ≠ b → (TX9 a).2.1 ≠ (TX9 b).2.1 := by decide +kernel
theorem tyX9_ok : ∀ k, k < 4 → parseFieldDescriptor (TX9 k).2.2.1 = some (tyX9 k) := by decide +kernel
def RX10 : String := "ChairViews$Wet"
def TX10 : u_T := fun k => match k with
  | _ => ("ChairViews$Chair", "trace", "LChairViews$Row;", true)
def tyX10 : Nat → FieldType := fun k => match k with
  | _ => .object "ChairViews$Row"
theorem nmX10 : ∀ a, a < 1 → ∀ b, b < 1 → a ≠ b → (TX10 a).2.1 ≠ (TX10 b).2.1 := by decide +kernel
theorem tyX10_ok : ∀ k, k < 1 → parseFieldDescriptor (TX10 k).2.2.1 = some (tyX10 k) := by decide +kernel
def RX11 : String := "ChairViews"
def TX11 : u_T := fun k => match k with
  | 0 => ("ChairViews", "trace", "LChairViews$Row;", true)
  | 1 => ("ChairViews", "kinds", "[LChairViews$Chair;", true)
  | 2 => ("ChairViews", "house", "LChairViews$House;", true)
  | 3 => ("ChairViews", "thought", "LChairViews$House;", true)
  | 4 => ("ChairViews", "kept", "LChairViews$House;", true)
  | 5 => ("ChairViews", "reader", "LChairViews$Reader;", true)
  | 6 => ("ChairViews", "sheets", "[LChairViews$Row;", true)
  | 7 => ("ChairViews", "unlike", "LChairViews$Row;", true)
  | 8 => ("ChairViews", "errorsTold", "[I", true)
  | _ => ("ChairViews", "imagesMade", "I", false)
def tyX11 : Nat → FieldType := fun k => match k with
  | 0 => .object "ChairViews$Row"
  | 1 => .array (.object "ChairViews$Chair")
  | 2 => .object "ChairViews$House"
  | 3 => .object "ChairViews$House"
  | 4 => .object "ChairViews$House"
  | 5 => .object "ChairViews$Reader"
  | 6 => .array (.object "ChairViews$Row")
  | 7 => .object "ChairViews$Row"
  | 8 => .array .int
  | _ => .int
theorem nmX11 : ∀ a, a < 10 → ∀ b, b < 10 → a ≠ b → (TX11 a).2.1 ≠ (TX11 b).2.1 := by decide +kernel
theorem tyX11_ok : ∀ k, k < 10 → parseFieldDescriptor (TX11 k).2.2.1 = some (tyX11 k) := by decide +kernel
def RX12 : String := "ChairViewsModel"
def TX12 : u_T := fun k => match k with
  | 0 => ("ChairViewsModel", "row", "[I", true)
  | 1 => ("ChairViewsModel", "kept", "[I", true)
  | 2 => ("ChairViewsModel", "before", "[I", true)
  | 3 => ("ChairViewsModel", "images", "I", false)
  | 4 => ("ChairViewsModel", "errors", "[I", true)
  | 5 => ("ChairViewsModel", "act", "[I", true)
  | 6 => ("ChairViewsModel", "with", "[I", true)
  | 7 => ("ChairViewsModel", "facts", "[I", true)
  | 8 => ("ChairViewsModel", "pile", "[I", true)
  | 9 => ("ChairViewsModel", "laid", "I", false)
  | 10 => ("ChairViewsModel", "here", "I", false)
  | 11 => ("ChairViewsModel", "opened", "I", false)
  | 12 => ("ChairViewsModel", "bad", "Z", false)
  | 13 => ("ChairViewsModel", "using", "I", false)
  | 14 => ("ChairViewsModel", "trace", "[I", true)
  | 15 => ("ChairViewsModel", "traced", "I", false)
  | 16 => ("ChairViewsModel", "bitsOf", "[I", true)
  | 17 => ("ChairViewsModel", "sizeOf", "[I", true)
  | _ => ("ChairViewsModel", "cells", "[I", true)
def tyX12 : Nat → FieldType := fun k => match k with
  | 0 => .array .int
  | 1 => .array .int
  | 2 => .array .int
  | 3 => .int
  | 4 => .array .int
  | 5 => .array .int
  | 6 => .array .int
  | 7 => .array .int
  | 8 => .array .int
  | 9 => .int
  | 10 => .int
  | 11 => .int
  | 12 => .boolean
  | 13 => .int
  | 14 => .array .int
  | 15 => .int
  | 16 => .array .int
  | 17 => .array .int
  | _ => .array .int
theorem nmX12 : ∀ a, a < 19 → ∀ b, b < 19 → a ≠ b → (TX12 a).2.1 ≠ (TX12 b).2.1 := by decide +kernel
theorem tyX12_ok : ∀ k, k < 19 → parseFieldDescriptor (TX12 k).2.2.1 = some (tyX12 k) := by decide +kernel
def RL : String := "ChairViewsLaw"
abbrev vwCl : List vw_C := [(RX0, TX0, 1), (RX1, TX1, 1), (RX2, TX2, 1), (RX3, TX3, 1), (RX4, TX4, 18), (RX5, TX5, 5), (RX6, TX6, 1), (RX7, TX7, 3), (RX8, TX8, 1), (RX9, TX9, 4), (RX10, TX10, 1), (RX11, TX11, 10), (RX12, TX12, 19)]
