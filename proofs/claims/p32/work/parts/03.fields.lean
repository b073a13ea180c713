def RX0 : String := "LeafCradles$Archive"
def TX0 : u_T := fun k => match k with
  | 0 => ("LeafCradles$Archive", "volumes", "LLeafCradles$Table;", true)
  | 1 => ("LeafCradles$Archive", "leaves", "LLeafCradles$Table;", true)
  | 2 => ("LeafCradles$Archive", "cradles", "LLeafCradles$Table;", true)
  | 3 => ("LeafCradles$Archive", "carriers", "LLeafCradles$Table;", true)
  | 4 => ("LeafCradles$Archive", "entries", "LLeafCradles$Table;", true)
  | 5 => ("LeafCradles$Archive", "numbers", "LLeafCradles$Table;", true)
  | 6 => ("LeafCradles$Archive", "oldestSave", "I", false)
  | _ => ("LeafCradles$Archive", "saveCount", "I", false)
def tyX0 : Nat → FieldType := fun k => match k with
  | 0 => .object "LeafCradles$Table"
  | 1 => .object "LeafCradles$Table"
  | 2 => .object "LeafCradles$Table"
  | 3 => .object "LeafCradles$Table"
  | 4 => .object "LeafCradles$Table"
  | 5 => .object "LeafCradles$Table"
  | 6 => .int
  | _ => .int
theorem nmX0 : ∀ a, a < 8 → ∀ b, b < 8 → a ≠ b → (TX0 a).2.1 ≠ (TX0 b).2.1 := by decide +kernel
theorem tyX0_ok : ∀ k, k < 8 → parseFieldDescriptor (TX0 k).2.2.1 = some (tyX0 k) := by decide +kernel
def RX1 : String := "LeafCradles$BarText"
def TX1 : u_T := fun k => match k with
  | 0 => ("LeafCradles$BarText", "codes", "[I", true)
  | 1 => ("LeafCradles$BarText", "parts", "LLeafCradles$Table;", true)
  | 2 => ("LeafCradles$BarText", "length", "I", false)
  | 3 => ("LeafCradles$BarText", "partCount", "I", false)
  | 4 => ("LeafCradles$BarText", "reading", "I", false)
  | 5 => ("LeafCradles$BarText", "value", "I", false)
  | 6 => ("LeafCradles$BarText", "digits", "I", false)
  | 7 => ("LeafCradles$BarText", "first", "I", false)
  | _ => ("LeafCradles$BarText", "last", "I", false)
def tyX1 : Nat → FieldType := fun k => match k with
  | 0 => .array .int
  | 1 => .object "LeafCradles$Table"
  | 2 => .int
  | 3 => .int
  | 4 => .int
  | 5 => .int
  | 6 => .int
  | 7 => .int
  | _ => .int
theorem nmX1 : ∀ a, a < 9 → ∀ b, b < 9 → a ≠ b → (TX1 a).2.1 ≠ (TX1 b).2.1 := by decide +kernel
theorem tyX1_ok : ∀ k, k < 9 → parseFieldDescriptor (TX1 k).2.2.1 = some (tyX1 k) := by decide +kernel
def RX2 : String := "LeafCradles$LoadPlan"
def TX2 : u_T := fun k => match k with
  | 0 => ("LeafCradles$LoadPlan", "gains", "LLeafCradles$Table;", true)
  | 1 => ("LeafCradles$LoadPlan", "hopes", "LLeafCradles$Table;", true)
  | 2 => ("LeafCradles$LoadPlan", "chosen", "LLeafCradles$Table;", true)
  | _ => ("LeafCradles$LoadPlan", "most", "I", false)
def tyX2 : Nat → FieldType := fun k => match k with
  | 0 => .object "LeafCradles$Table"
  | 1 => .object "LeafCradles$Table"
  | 2 => .object "LeafCradles$Table"
  | _ => .int
theorem nmX2 : ∀ a, a < 4 → ∀ b, b < 4 → a ≠ b → (TX2 a).2.1 ≠ (TX2 b).2.1 := by decide +kernel
theorem tyX2_ok : ∀ k, k < 4 → parseFieldDescriptor (TX2 k).2.2.1 = some (tyX2 k) := by decide +kernel
def RX3 : String := "LeafCradles$Table"
def TX3 : u_T := fun k => match k with
  | 0 => ("LeafCradles$Table", "rows", "I", true)
  | 1 => ("LeafCradles$Table", "width", "I", true)
  | 2 => ("LeafCradles$Table", "cells", "[I", true)
  | _ => ("LeafCradles$Table", "copies", "[I", true)
def tyX3 : Nat → FieldType := fun k => match k with
  | 0 => .int
  | 1 => .int
  | 2 => .array .int
  | _ => .array .int
theorem nmX3 : ∀ a, a < 4 → ∀ b, b < 4 → a ≠ b → (TX3 a).2.1 ≠ (TX3 b).2.1 := by decide +kernel
theorem tyX3_ok : ∀ k, k < 4 → parseFieldDescriptor (TX3 k).2.2.1 = some (tyX3 k) := by decide +kernel
def RX4 : String := "LeafCradles"
def TX4 : u_T := fun k => match k with
  | 0 => ("LeafCradles", "archive", "LLeafCradles$Archive;", true)
  | 1 => ("LeafCradles", "text", "LLeafCradles$BarText;", true)
  | _ => ("LeafCradles", "plan", "LLeafCradles$LoadPlan;", true)
def tyX4 : Nat → FieldType := fun k => match k with
  | 0 => .object "LeafCradles$Archive"
  | 1 => .object "LeafCradles$BarText"
  | _ => .object "LeafCradles$LoadPlan"
theorem nmX4 : ∀ a, a < 3 → ∀ b, b < 3 → a ≠ b → (TX4 a).2.1 ≠ (TX4 b).2.1 := by decide +kernel
theorem tyX4_ok : ∀ k, k < 3 → parseFieldDescriptor (TX4 k).2.2.1 = some (tyX4 k) := by decide +kernel
abbrev vwCl : List vw_C := [(RX0, TX0, 8), (RX1, TX1, 9), (RX2, TX2, 4), (RX3, TX3, 4), (RX4, TX4, 3)]
