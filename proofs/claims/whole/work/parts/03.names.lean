/-! names, fields: rows of the claim's printed names (claim/NAMES.whole.lean.txt) -/
def RX0 : String := "ValueDays$Course"
def TX0 : u_T := fun k => match k with
  | 0 => ("ValueDays$Course", "ledger", "LValueDays$Ledger;", true)
  | _ => ("ValueDays$Course", "terms", "LValueDays$Terms;", true)
def tyX0 : Nat → FieldType := fun k => match k with
  | 0 => .object "ValueDays$Ledger"
  | _ => .object "ValueDays$Terms"
abbrev wsX00 : List Cond := u_ws RX0 TX0 2
theorem nmX0 : ∀ a, a < 2 → ∀ b, b < 2 → a ≠ b → (TX0 a).2.1 ≠ (TX0 b).2.1 := by decide +kernel
theorem tyX0_ok : ∀ k, k < 2 → parseFieldDescriptor (TX0 k).2.2.1 = some (tyX0 k) := by decide +kernel
def RX1 : String := "ValueDays$Entries"
def TX1 : u_T := fun k => match k with
  | 0 => ("ValueDays$Entries", "sorts", "[I", true)
  | 1 => ("ValueDays$Entries", "amounts", "[J", true)
  | 2 => ("ValueDays$Entries", "values", "[I", true)
  | 3 => ("ValueDays$Entries", "pages", "[I", true)
  | 4 => ("ValueDays$Entries", "origins", "[I", true)
  | 5 => ("ValueDays$Entries", "order", "[I", true)
  | _ => ("ValueDays$Entries", "size", "I", false)
def tyX1 : Nat → FieldType := fun k => match k with
  | 0 => .array .int
  | 1 => .array .long
  | 2 => .array .int
  | 3 => .array .int
  | 4 => .array .int
  | 5 => .array .int
  | _ => .int
abbrev wsX10 : List Cond := u_ws RX1 TX1 7
theorem nmX1 : ∀ a, a < 7 → ∀ b, b < 7 → a ≠ b → (TX1 a).2.1 ≠ (TX1 b).2.1 := by decide +kernel
theorem tyX1_ok : ∀ k, k < 7 → parseFieldDescriptor (TX1 k).2.2.1 = some (tyX1 k) := by decide +kernel
def RX2 : String := "ValueDays$Ledger"
def TX2 : u_T := fun k => match k with
  | 0 => ("ValueDays$Ledger", "terms", "LValueDays$Terms;", true)
  | 1 => ("ValueDays$Ledger", "entries", "LValueDays$Entries;", true)
  | 2 => ("ValueDays$Ledger", "balances", "[J", true)
  | 3 => ("ValueDays$Ledger", "trial", "[J", true)
  | 4 => ("ValueDays$Ledger", "span", "I", false)
  | 5 => ("ValueDays$Ledger", "periods", "I", false)
  | 6 => ("ValueDays$Ledger", "cycle", "I", false)
  | _ => ("ValueDays$Ledger", "closed", "I", false)
def tyX2 : Nat → FieldType := fun k => match k with
  | 0 => .object "ValueDays$Terms"
  | 1 => .object "ValueDays$Entries"
  | 2 => .array .long
  | 3 => .array .long
  | 4 => .int
  | 5 => .int
  | 6 => .int
  | _ => .int
abbrev wsX20 : List Cond := u_ws RX2 TX2 8
theorem nmX2 : ∀ a, a < 8 → ∀ b, b < 8 → a ≠ b → (TX2 a).2.1 ≠ (TX2 b).2.1 := by decide +kernel
theorem tyX2_ok : ∀ k, k < 8 → parseFieldDescriptor (TX2 k).2.2.1 = some (tyX2 k) := by decide +kernel
def RX3 : String := "ValueDays$PaidOff"
def TX3 : u_T := fun k => match k with
  | 0 => ("ValueDays$PaidOff", "entries", "LValueDays$Entries;", true)
  | 1 => ("ValueDays$PaidOff", "rests", "[J", true)
  | _ => ("ValueDays$PaidOff", "lastDays", "[I", true)
def tyX3 : Nat → FieldType := fun k => match k with
  | 0 => .object "ValueDays$Entries"
  | 1 => .array .long
  | _ => .array .int
abbrev wsX30 : List Cond := u_ws RX3 TX3 3
theorem nmX3 : ∀ a, a < 3 → ∀ b, b < 3 → a ≠ b → (TX3 a).2.1 ≠ (TX3 b).2.1 := by decide +kernel
theorem tyX3_ok : ∀ k, k < 3 → parseFieldDescriptor (TX3 k).2.2.1 = some (tyX3 k) := by decide +kernel
def RX4 : String := "ValueDays$Reader"
def TX4 : u_T := fun k => match k with
  | 0 => ("ValueDays$Reader", "tape", "LValueDays$Tape;", true)
  | 1 => ("ValueDays$Reader", "tokens", "LValueDays$Tokens;", true)
  | 2 => ("ValueDays$Reader", "draft", "LValueDays$Script;", true)
  | 3 => ("ValueDays$Reader", "fault", "I", false)
  | 4 => ("ValueDays$Reader", "place", "I", false)
  | 5 => ("ValueDays$Reader", "days", "I", false)
  | 6 => ("ValueDays$Reader", "periods", "I", false)
  | 7 => ("ValueDays$Reader", "tiers", "I", false)
  | 8 => ("ValueDays$Reader", "lastTop", "I", false)
  | 9 => ("ValueDays$Reader", "topless", "Z", false)
  | 10 => ("ValueDays$Reader", "debitTold", "Z", false)
  | 11 => ("ValueDays$Reader", "changes", "I", false)
  | 12 => ("ValueDays$Reader", "moneys", "I", false)
  | 13 => ("ValueDays$Reader", "closes", "I", false)
  | _ => ("ValueDays$Reader", "reruns", "I", false)
def tyX4 : Nat → FieldType := fun k => match k with
  | 0 => .object "ValueDays$Tape"
  | 1 => .object "ValueDays$Tokens"
  | 2 => .object "ValueDays$Script"
  | 3 => .int
  | 4 => .int
  | 5 => .int
  | 6 => .int
  | 7 => .int
  | 8 => .int
  | 9 => .boolean
  | 10 => .boolean
  | 11 => .int
  | 12 => .int
  | 13 => .int
  | _ => .int
abbrev wsX40 : List Cond := u_ws RX4 TX4 15
theorem nmX4 : ∀ a, a < 15 → ∀ b, b < 15 → a ≠ b → (TX4 a).2.1 ≠ (TX4 b).2.1 := by decide +kernel
theorem tyX4_ok : ∀ k, k < 15 → parseFieldDescriptor (TX4 k).2.2.1 = some (tyX4 k) := by decide +kernel
def RX5 : String := "ValueDays$Script"
def TX5 : u_T := fun k => match k with
  | 0 => ("ValueDays$Script", "cells", "[I", true)
  | 1 => ("ValueDays$Script", "lines", "I", false)
  | _ => ("ValueDays$Script", "acts", "I", false)
def tyX5 : Nat → FieldType := fun k => match k with
  | 0 => .array .int
  | 1 => .int
  | _ => .int
abbrev wsX50 : List Cond := u_ws RX5 TX5 3
theorem nmX5 : ∀ a, a < 3 → ∀ b, b < 3 → a ≠ b → (TX5 a).2.1 ≠ (TX5 b).2.1 := by decide +kernel
theorem tyX5_ok : ∀ k, k < 3 → parseFieldDescriptor (TX5 k).2.2.1 = some (tyX5 k) := by decide +kernel
def RX6 : String := "ValueDays$Tape"
def TX6 : u_T := fun k => match k with
  | 0 => ("ValueDays$Tape", "bytes", "[B", true)
  | _ => ("ValueDays$Tape", "length", "I", false)
def tyX6 : Nat → FieldType := fun k => match k with
  | 0 => .array .byte
  | _ => .int
abbrev wsX60 : List Cond := u_ws RX6 TX6 2
theorem nmX6 : ∀ a, a < 2 → ∀ b, b < 2 → a ≠ b → (TX6 a).2.1 ≠ (TX6 b).2.1 := by decide +kernel
theorem tyX6_ok : ∀ k, k < 2 → parseFieldDescriptor (TX6 k).2.2.1 = some (tyX6 k) := by decide +kernel
def RX7 : String := "ValueDays$Terms"
def TX7 : u_T := fun k => match k with
  | 0 => ("ValueDays$Terms", "rules", "[[I", true)
  | 1 => ("ValueDays$Terms", "tops", "[I", true)
  | 2 => ("ValueDays$Terms", "changeDays", "[I", true)
  | 3 => ("ValueDays$Terms", "changeRules", "[I", true)
  | 4 => ("ValueDays$Terms", "tiers", "I", false)
  | _ => ("ValueDays$Terms", "changes", "I", false)
def tyX7 : Nat → FieldType := fun k => match k with
  | 0 => .array (.array .int)
  | 1 => .array .int
  | 2 => .array .int
  | 3 => .array .int
  | 4 => .int
  | _ => .int
abbrev wsX70 : List Cond := u_ws RX7 TX7 6
theorem nmX7 : ∀ a, a < 6 → ∀ b, b < 6 → a ≠ b → (TX7 a).2.1 ≠ (TX7 b).2.1 := by decide +kernel
theorem tyX7_ok : ∀ k, k < 6 → parseFieldDescriptor (TX7 k).2.2.1 = some (tyX7 k) := by decide +kernel
def RX8 : String := "ValueDays$Tokens"
def TX8 : u_T := fun k => match k with
  | 0 => ("ValueDays$Tokens", "tape", "LValueDays$Tape;", true)
  | 1 => ("ValueDays$Tokens", "kind", "I", false)
  | 2 => ("ValueDays$Tokens", "start", "I", false)
  | 3 => ("ValueDays$Tokens", "stop", "I", false)
  | _ => ("ValueDays$Tokens", "number", "I", false)
def tyX8 : Nat → FieldType := fun k => match k with
  | 0 => .object "ValueDays$Tape"
  | 1 => .int
  | 2 => .int
  | 3 => .int
  | _ => .int
abbrev wsX80 : List Cond := u_ws RX8 TX8 5
theorem nmX8 : ∀ a, a < 5 → ∀ b, b < 5 → a ≠ b → (TX8 a).2.1 ≠ (TX8 b).2.1 := by decide +kernel
theorem tyX8_ok : ∀ k, k < 5 → parseFieldDescriptor (TX8 k).2.2.1 = some (tyX8 k) := by decide +kernel
def RX9 : String := "ValueDays$WhatIf"
def TX9 : u_T := fun k => match k with
  | 0 => ("ValueDays$WhatIf", "ledger", "LValueDays$Ledger;", true)
  | 1 => ("ValueDays$WhatIf", "terms", "LValueDays$Terms;", true)
  | _ => ("ValueDays$WhatIf", "entries", "LValueDays$Entries;", true)
def tyX9 : Nat → FieldType := fun k => match k with
  | 0 => .object "ValueDays$Ledger"
  | 1 => .object "ValueDays$Terms"
  | _ => .object "ValueDays$Entries"
abbrev wsX90 : List Cond := u_ws RX9 TX9 3
theorem nmX9 : ∀ a, a < 3 → ∀ b, b < 3 → a ≠ b → (TX9 a).2.1 ≠ (TX9 b).2.1 := by decide +kernel
theorem tyX9_ok : ∀ k, k < 3 → parseFieldDescriptor (TX9 k).2.2.1 = some (tyX9 k) := by decide +kernel
def RX10 : String := "ValueDays"
def TX10 : u_T := fun k => match k with
  | 0 => ("ValueDays", "tape", "LValueDays$Tape;", true)
  | 1 => ("ValueDays", "reader", "LValueDays$Reader;", true)
  | 2 => ("ValueDays", "script", "LValueDays$Script;", true)
  | 3 => ("ValueDays", "images", "[LValueDays$Script;", true)
  | 4 => ("ValueDays", "ledger", "LValueDays$Ledger;", true)
  | 5 => ("ValueDays", "course", "LValueDays$Course;", true)
  | 6 => ("ValueDays", "whatIf", "LValueDays$WhatIf;", true)
  | _ => ("ValueDays", "paidOff", "LValueDays$PaidOff;", true)
def tyX10 : Nat → FieldType := fun k => match k with
  | 0 => .object "ValueDays$Tape"
  | 1 => .object "ValueDays$Reader"
  | 2 => .object "ValueDays$Script"
  | 3 => .array (.object "ValueDays$Script")
  | 4 => .object "ValueDays$Ledger"
  | 5 => .object "ValueDays$Course"
  | 6 => .object "ValueDays$WhatIf"
  | _ => .object "ValueDays$PaidOff"
abbrev wsX100 : List Cond := u_ws RX10 TX10 8
theorem nmX10 : ∀ a, a < 8 → ∀ b, b < 8 → a ≠ b → (TX10 a).2.1 ≠ (TX10 b).2.1 := by decide +kernel
theorem tyX10_ok : ∀ k, k < 8 → parseFieldDescriptor (TX10 k).2.2.1 = some (tyX10 k) := by decide +kernel
def RX11 : String := "ValueDaysModel"
def TX11 : u_T := fun k => match k with
  | 0 => ("ValueDaysModel", "thrown", "I", false)
  | 1 => ("ValueDaysModel", "world", "[I", false)
  | 2 => ("ValueDaysModel", "fresh", "[I", false)
  | 3 => ("ValueDaysModel", "images", "[I", true)
  | 4 => ("ValueDaysModel", "hasImage", "[Z", true)
  | 5 => ("ValueDaysModel", "tierRate", "[I", true)
  | 6 => ("ValueDaysModel", "tierTo", "[I", true)
  | 7 => ("ValueDaysModel", "tiers", "I", false)
  | 8 => ("ValueDaysModel", "debit", "[I", true)
  | 9 => ("ValueDaysModel", "hasDebit", "Z", false)
  | 10 => ("ValueDaysModel", "changeDay", "[I", true)
  | 11 => ("ValueDaysModel", "changeOf", "[I", true)
  | 12 => ("ValueDaysModel", "changeTo", "[I", true)
  | 13 => ("ValueDaysModel", "changes", "I", false)
  | 14 => ("ValueDaysModel", "sortOf", "[I", true)
  | 15 => ("ValueDaysModel", "amountOf", "[J", true)
  | 16 => ("ValueDaysModel", "valueOf", "[I", true)
  | 17 => ("ValueDaysModel", "bookedIn", "[I", true)
  | 18 => ("ValueDaysModel", "isOf", "[I", true)
  | 19 => ("ValueDaysModel", "entries", "I", false)
  | 20 => ("ValueDaysModel", "closed", "I", false)
  | 21 => ("ValueDaysModel", "tilt", "I", false)
  | 22 => ("ValueDaysModel", "tiltBy", "I", false)
  | 23 => ("ValueDaysModel", "forced", "I", false)
  | 24 => ("ValueDaysModel", "balances", "[J", true)
  | 25 => ("ValueDaysModel", "tape", "[B", true)
  | 26 => ("ValueDaysModel", "taped", "I", false)
  | 27 => ("ValueDaysModel", "five", "[I", true)
  | 28 => ("ValueDaysModel", "size", "I", false)
  | 29 => ("ValueDaysModel", "at", "I", false)
  | 30 => ("ValueDaysModel", "from", "I", false)
  | 31 => ("ValueDaysModel", "token", "I", false)
  | 32 => ("ValueDaysModel", "value", "I", false)
  | 33 => ("ValueDaysModel", "faultKind", "I", false)
  | 34 => ("ValueDaysModel", "faultPlace", "I", false)
  | 35 => ("ValueDaysModel", "toldEntries", "I", false)
  | 36 => ("ValueDaysModel", "toldReruns", "I", false)
  | 37 => ("ValueDaysModel", "leftOf", "[J", true)
  | 38 => ("ValueDaysModel", "lastBy", "[I", true)
  | _ => ("ValueDaysModel", "kept", "[J", true)
def tyX11 : Nat → FieldType := fun k => match k with
  | 0 => .int
  | 1 => .array .int
  | 2 => .array .int
  | 3 => .array .int
  | 4 => .array .boolean
  | 5 => .array .int
  | 6 => .array .int
  | 7 => .int
  | 8 => .array .int
  | 9 => .boolean
  | 10 => .array .int
  | 11 => .array .int
  | 12 => .array .int
  | 13 => .int
  | 14 => .array .int
  | 15 => .array .long
  | 16 => .array .int
  | 17 => .array .int
  | 18 => .array .int
  | 19 => .int
  | 20 => .int
  | 21 => .int
  | 22 => .int
  | 23 => .int
  | 24 => .array .long
  | 25 => .array .byte
  | 26 => .int
  | 27 => .array .int
  | 28 => .int
  | 29 => .int
  | 30 => .int
  | 31 => .int
  | 32 => .int
  | 33 => .int
  | 34 => .int
  | 35 => .int
  | 36 => .int
  | 37 => .array .long
  | 38 => .array .int
  | _ => .array .long
abbrev wsX110 : List Cond := u_ws RX11 TX11 40
theorem nmX11 : ∀ a, a < 40 → ∀ b, b < 40 → a ≠ b → (TX11 a).2.1 ≠ (TX11 b).2.1 := by decide +kernel
theorem tyX11_ok : ∀ k, k < 40 → parseFieldDescriptor (TX11 k).2.2.1 = some (tyX11 k) := by decide +kernel
abbrev vwCl : List vw_C := [(RX0, TX0, 2), (RX1, TX1, 7), (RX2, TX2, 8), (RX3, TX3, 3), (RX4, TX4, 15), (RX5, TX5, 3), (RX6, TX6, 2), (RX7, TX7, 6), (RX8, TX8, 5), (RX9, TX9, 3), (RX10, TX10, 8), (RX11, TX11, 40)]
