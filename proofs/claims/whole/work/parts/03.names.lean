def RX1 : String := "ListDesk$Code"
def TX1 : u_T := fun k => match k with
  | 0 => ("ListDesk$Code", "order", "[I", true)
  | 1 => ("ListDesk$Code", "operand", "[I", true)
  | 2 => ("ListDesk$Code", "place", "[I", true)
  | _ => ("ListDesk$Code", "size", "I", false)
def tyX1 : Nat → FieldType := fun k => match k with
  | 0 => .array .int
  | 1 => .array .int
  | 2 => .array .int
  | _ => .int
abbrev wsX10 : List Cond := u_ws RX1 TX1 4
theorem nmX1 : ∀ a, a < 4 → ∀ b, b < 4 → a ≠ b → (TX1 a).2.1 ≠ (TX1 b).2.1 := by decide +kernel
theorem tyX1_ok : ∀ k, k < 4 → parseFieldDescriptor (TX1 k).2.2.1 = some (tyX1 k) := by decide +kernel
def RX2 : String := "ListDesk$Functions"
def TX2 : u_T := fun k => match k with
  | 0 => ("ListDesk$Functions", "entry", "[I", true)
  | 1 => ("ListDesk$Functions", "after", "[I", true)
  | 2 => ("ListDesk$Functions", "parameters", "[I", true)
  | 3 => ("ListDesk$Functions", "firstParameter", "[I", true)
  | 4 => ("ListDesk$Functions", "takenCount", "[I", true)
  | 5 => ("ListDesk$Functions", "taken", "[I", true)
  | 6 => ("ListDesk$Functions", "takenSource", "[I", true)
  | 7 => ("ListDesk$Functions", "count", "I", false)
  | 8 => ("ListDesk$Functions", "open", "[I", true)
  | _ => ("ListDesk$Functions", "level", "I", false)
def tyX2 : Nat → FieldType := fun k => match k with
  | 0 => .array .int
  | 1 => .array .int
  | 2 => .array .int
  | 3 => .array .int
  | 4 => .array .int
  | 5 => .array .int
  | 6 => .array .int
  | 7 => .int
  | 8 => .array .int
  | _ => .int
abbrev wsX20 : List Cond := u_ws RX2 TX2 10
theorem nmX2 : ∀ a, a < 10 → ∀ b, b < 10 → a ≠ b → (TX2 a).2.1 ≠ (TX2 b).2.1 := by decide +kernel
theorem tyX2_ok : ∀ k, k < 10 → parseFieldDescriptor (TX2 k).2.2.1 = some (tyX2 k) := by decide +kernel
def RX3 : String := "ListDesk$Heap"
def TX3 : u_T := fun k => match k with
  | 0 => ("ListDesk$Heap", "first", "[J", true)
  | 1 => ("ListDesk$Heap", "second", "[J", true)
  | 2 => ("ListDesk$Heap", "taken", "[J", true)
  | 3 => ("ListDesk$Heap", "made", "I", false)
  | _ => ("ListDesk$Heap", "takenCount", "I", false)
def tyX3 : Nat → FieldType := fun k => match k with
  | 0 => .array .long
  | 1 => .array .long
  | 2 => .array .long
  | 3 => .int
  | _ => .int
abbrev wsX30 : List Cond := u_ws RX3 TX3 5
theorem nmX3 : ∀ a, a < 5 → ∀ b, b < 5 → a ≠ b → (TX3 a).2.1 ≠ (TX3 b).2.1 := by decide +kernel
theorem tyX3_ok : ∀ k, k < 5 → parseFieldDescriptor (TX3 k).2.2.1 = some (tyX3 k) := by decide +kernel
def RX4 : String := "ListDesk$Machine"
def TX4 : u_T := fun k => match k with
  | 0 => ("ListDesk$Machine", "code", "LListDesk$Code;", true)
  | 1 => ("ListDesk$Machine", "names", "LListDesk$Names;", true)
  | 2 => ("ListDesk$Machine", "functions", "LListDesk$Functions;", true)
  | 3 => ("ListDesk$Machine", "heap", "LListDesk$Heap;", true)
  | 4 => ("ListDesk$Machine", "output", "LListDesk$Output;", true)
  | 5 => ("ListDesk$Machine", "stack", "[J", true)
  | 6 => ("ListDesk$Machine", "nextBehind", "[I", true)
  | 7 => ("ListDesk$Machine", "baseBehind", "[I", true)
  | 8 => ("ListDesk$Machine", "top", "I", false)
  | 9 => ("ListDesk$Machine", "base", "I", false)
  | 10 => ("ListDesk$Machine", "next", "I", false)
  | 11 => ("ListDesk$Machine", "waiting", "I", false)
  | 12 => ("ListDesk$Machine", "begun", "I", false)
  | 13 => ("ListDesk$Machine", "status", "I", false)
  | _ => ("ListDesk$Machine", "faultAt", "I", false)
def tyX4 : Nat → FieldType := fun k => match k with
  | 0 => .object "ListDesk$Code"
  | 1 => .object "ListDesk$Names"
  | 2 => .object "ListDesk$Functions"
  | 3 => .object "ListDesk$Heap"
  | 4 => .object "ListDesk$Output"
  | 5 => .array .long
  | 6 => .array .int
  | 7 => .array .int
  | 8 => .int
  | 9 => .int
  | 10 => .int
  | 11 => .int
  | 12 => .int
  | 13 => .int
  | _ => .int
abbrev wsX40 : List Cond := u_ws RX4 TX4 15
theorem nmX4 : ∀ a, a < 15 → ∀ b, b < 15 → a ≠ b → (TX4 a).2.1 ≠ (TX4 b).2.1 := by decide +kernel
theorem tyX4_ok : ∀ k, k < 15 → parseFieldDescriptor (TX4 k).2.2.1 = some (tyX4 k) := by decide +kernel
def RX5 : String := "ListDesk$Names"
def TX5 : u_T := fun k => match k with
  | 0 => ("ListDesk$Names", "letter", "[I", true)
  | 1 => ("ListDesk$Names", "slot", "[I", true)
  | 2 => ("ListDesk$Names", "level", "[I", true)
  | 3 => ("ListDesk$Names", "boxed", "[Z", true)
  | 4 => ("ListDesk$Names", "count", "I", false)
  | 5 => ("ListDesk$Names", "inForce", "[I", true)
  | 6 => ("ListDesk$Names", "inForceCount", "I", false)
  | 7 => ("ListDesk$Names", "pending", "[I", true)
  | _ => ("ListDesk$Names", "pendingCount", "I", false)
def tyX5 : Nat → FieldType := fun k => match k with
  | 0 => .array .int
  | 1 => .array .int
  | 2 => .array .int
  | 3 => .array .boolean
  | 4 => .int
  | 5 => .array .int
  | 6 => .int
  | 7 => .array .int
  | _ => .int
abbrev wsX50 : List Cond := u_ws RX5 TX5 9
theorem nmX5 : ∀ a, a < 9 → ∀ b, b < 9 → a ≠ b → (TX5 a).2.1 ≠ (TX5 b).2.1 := by decide +kernel
theorem tyX5_ok : ∀ k, k < 9 → parseFieldDescriptor (TX5 k).2.2.1 = some (tyX5 k) := by decide +kernel
def RX6 : String := "ListDesk$Output"
def TX6 : u_T := fun k => match k with
  | 0 => ("ListDesk$Output", "kept", "[I", true)
  | _ => ("ListDesk$Output", "total", "I", false)
def tyX6 : Nat → FieldType := fun k => match k with
  | 0 => .array .int
  | _ => .int
abbrev wsX60 : List Cond := u_ws RX6 TX6 2
theorem nmX6 : ∀ a, a < 2 → ∀ b, b < 2 → a ≠ b → (TX6 a).2.1 ≠ (TX6 b).2.1 := by decide +kernel
theorem tyX6_ok : ∀ k, k < 2 → parseFieldDescriptor (TX6 k).2.2.1 = some (tyX6 k) := by decide +kernel
def RX7 : String := "ListDesk$Reader"
def TX7 : u_T := fun k => match k with
  | 0 => ("ListDesk$Reader", "tape", "LListDesk$Tape;", true)
  | 1 => ("ListDesk$Reader", "code", "LListDesk$Code;", true)
  | 2 => ("ListDesk$Reader", "names", "LListDesk$Names;", true)
  | 3 => ("ListDesk$Reader", "functions", "LListDesk$Functions;", true)
  | 4 => ("ListDesk$Reader", "height", "I", false)
  | _ => ("ListDesk$Reader", "wrongAt", "I", false)
def tyX7 : Nat → FieldType := fun k => match k with
  | 0 => .object "ListDesk$Tape"
  | 1 => .object "ListDesk$Code"
  | 2 => .object "ListDesk$Names"
  | 3 => .object "ListDesk$Functions"
  | 4 => .int
  | _ => .int
abbrev wsX70 : List Cond := u_ws RX7 TX7 6
theorem nmX7 : ∀ a, a < 6 → ∀ b, b < 6 → a ≠ b → (TX7 a).2.1 ≠ (TX7 b).2.1 := by decide +kernel
theorem tyX7_ok : ∀ k, k < 6 → parseFieldDescriptor (TX7 k).2.2.1 = some (tyX7 k) := by decide +kernel
def RX9 : String := "ListDesk$Tape"
def TX9 : u_T := fun k => match k with
  | 0 => ("ListDesk$Tape", "bytes", "[I", true)
  | 1 => ("ListDesk$Tape", "fed", "I", false)
  | 2 => ("ListDesk$Tape", "length", "I", false)
  | _ => ("ListDesk$Tape", "at", "I", false)
def tyX9 : Nat → FieldType := fun k => match k with
  | 0 => .array .int
  | 1 => .int
  | 2 => .int
  | _ => .int
abbrev wsX90 : List Cond := u_ws RX9 TX9 4
theorem nmX9 : ∀ a, a < 4 → ∀ b, b < 4 → a ≠ b → (TX9 a).2.1 ≠ (TX9 b).2.1 := by decide +kernel
theorem tyX9_ok : ∀ k, k < 4 → parseFieldDescriptor (TX9 k).2.2.1 = some (tyX9 k) := by decide +kernel
def RX12 : String := "ListDesk"
def TX12 : u_T := fun k => match k with
  | 0 => ("ListDesk", "tape", "LListDesk$Tape;", true)
  | 1 => ("ListDesk", "reader", "LListDesk$Reader;", true)
  | _ => ("ListDesk", "machine", "LListDesk$Machine;", true)
def tyX12 : Nat → FieldType := fun k => match k with
  | 0 => .object "ListDesk$Tape"
  | 1 => .object "ListDesk$Reader"
  | _ => .object "ListDesk$Machine"
abbrev wsX120 : List Cond := u_ws RX12 TX12 3
theorem nmX12 : ∀ a, a < 3 → ∀ b, b < 3 → a ≠ b → (TX12 a).2.1 ≠ (TX12 b).2.1 := by decide +kernel
theorem tyX12_ok : ∀ k, k < 3 → parseFieldDescriptor (TX12 k).2.2.1 = some (tyX12 k) := by decide +kernel
def RX13 : String := "ListDeskModel"
def TX13 : u_T := fun k => match k with
  | 0 => ("ListDeskModel", "thrown", "I", false)
  | 1 => ("ListDeskModel", "tape", "[I", true)
  | 2 => ("ListDeskModel", "taped", "I", false)
  | 3 => ("ListDeskModel", "length", "I", false)
  | 4 => ("ListDeskModel", "at", "I", false)
  | 5 => ("ListDeskModel", "wrong", "Z", false)
  | 6 => ("ListDeskModel", "place", "I", false)
  | 7 => ("ListDeskModel", "nodes", "I", false)
  | 8 => ("ListDeskModel", "kind", "[I", true)
  | 9 => ("ListDeskModel", "where", "[I", true)
  | 10 => ("ListDeskModel", "of", "[I", true)
  | 11 => ("ListDeskModel", "firstChild", "[I", true)
  | 12 => ("ListDeskModel", "lastChild", "[I", true)
  | 13 => ("ListDeskModel", "next", "[I", true)
  | 14 => ("ListDeskModel", "children", "[I", true)
  | 15 => ("ListDeskModel", "variables", "[I", true)
  | 16 => ("ListDeskModel", "variableCount", "[I", true)
  | 17 => ("ListDeskModel", "atEnd", "[Z", true)
  | 18 => ("ListDeskModel", "counts", "[Z", true)
  | 19 => ("ListDeskModel", "numbers", "I", false)
  | 20 => ("ListDeskModel", "open", "[I", true)
  | 21 => ("ListDeskModel", "telling", "[Z", true)
  | 22 => ("ListDeskModel", "mark", "[I", true)
  | 23 => ("ListDeskModel", "depth", "I", false)
  | 24 => ("ListDeskModel", "letter", "[I", true)
  | 25 => ("ListDeskModel", "binder", "[I", true)
  | 26 => ("ListDeskModel", "bound", "I", false)
  | 27 => ("ListDeskModel", "wordFrom", "I", false)
  | 28 => ("ListDeskModel", "wordTo", "I", false)
  | 29 => ("ListDeskModel", "status", "I", false)
  | 30 => ("ListDeskModel", "steps", "I", false)
  | 31 => ("ListDeskModel", "objects", "I", false)
  | 32 => ("ListDeskModel", "waiting", "I", false)
  | 33 => ("ListDeskModel", "fuel", "I", false)
  | 34 => ("ListDeskModel", "left", "[J", true)
  | 35 => ("ListDeskModel", "right", "[J", true)
  | 36 => ("ListDeskModel", "things", "I", false)
  | 37 => ("ListDeskModel", "functionNode", "[I", true)
  | 38 => ("ListDeskModel", "functionLink", "[I", true)
  | 39 => ("ListDeskModel", "functions", "I", false)
  | 40 => ("ListDeskModel", "linkOf", "[I", true)
  | 41 => ("ListDeskModel", "linkValue", "[J", true)
  | 42 => ("ListDeskModel", "linkNext", "[I", true)
  | 43 => ("ListDeskModel", "linkSeen", "[Z", true)
  | 44 => ("ListDeskModel", "freeLink", "I", false)
  | 45 => ("ListDeskModel", "wait", "[I", true)
  | 46 => ("ListDeskModel", "waitNode", "[I", true)
  | 47 => ("ListDeskModel", "waitLink", "[I", true)
  | 48 => ("ListDeskModel", "waitCount", "[I", true)
  | 49 => ("ListDeskModel", "waits", "I", false)
  | 50 => ("ListDeskModel", "values", "[J", true)
  | 51 => ("ListDeskModel", "held", "I", false)
  | 52 => ("ListDeskModel", "link", "I", false)
  | 53 => ("ListDeskModel", "now", "I", false)
  | 54 => ("ListDeskModel", "value", "J", false)
  | 55 => ("ListDeskModel", "said", "I", false)
  | 56 => ("ListDeskModel", "out", "[I", true)
  | _ => ("ListDeskModel", "told", "[I", true)
def tyX13 : Nat → FieldType := fun k => match k with
  | 0 => .int
  | 1 => .array .int
  | 2 => .int
  | 3 => .int
  | 4 => .int
  | 5 => .boolean
  | 6 => .int
  | 7 => .int
  | 8 => .array .int
  | 9 => .array .int
  | 10 => .array .int
  | 11 => .array .int
  | 12 => .array .int
  | 13 => .array .int
  | 14 => .array .int
  | 15 => .array .int
  | 16 => .array .int
  | 17 => .array .boolean
  | 18 => .array .boolean
  | 19 => .int
  | 20 => .array .int
  | 21 => .array .boolean
  | 22 => .array .int
  | 23 => .int
  | 24 => .array .int
  | 25 => .array .int
  | 26 => .int
  | 27 => .int
  | 28 => .int
  | 29 => .int
  | 30 => .int
  | 31 => .int
  | 32 => .int
  | 33 => .int
  | 34 => .array .long
  | 35 => .array .long
  | 36 => .int
  | 37 => .array .int
  | 38 => .array .int
  | 39 => .int
  | 40 => .array .int
  | 41 => .array .long
  | 42 => .array .int
  | 43 => .array .boolean
  | 44 => .int
  | 45 => .array .int
  | 46 => .array .int
  | 47 => .array .int
  | 48 => .array .int
  | 49 => .int
  | 50 => .array .long
  | 51 => .int
  | 52 => .int
  | 53 => .int
  | 54 => .long
  | 55 => .int
  | 56 => .array .int
  | _ => .array .int
abbrev wsX130 : List Cond := u_ws RX13 TX13 58
theorem nmX13 : ∀ a, a < 58 → ∀ b, b < 58 → a ≠ b → (TX13 a).2.1 ≠ (TX13 b).2.1 := by decide +kernel
theorem tyX13_ok : ∀ k, k < 58 → parseFieldDescriptor (TX13 k).2.2.1 = some (tyX13 k) := by decide +kernel
abbrev vwCl : List vw_C := [(RX1, TX1, 4), (RX2, TX2, 10), (RX3, TX3, 5), (RX4, TX4, 15), (RX5, TX5, 9), (RX6, TX6, 2), (RX7, TX7, 6), (RX9, TX9, 4), (RX12, TX12, 3), (RX13, TX13, 58)]
/-- the words that hold in every state of a run -/
def amTb : List Cond := lw_tbl.filter goodWord
theorem amTb_in {w : Cond} (h : w ∈ lw_tbl) (hg : goodWord w = true) : w ∈ amTb := List.mem_filter.mpr ⟨h, hg⟩
theorem inX1 : ∀ w ∈ wsX10, w ∈ amTb := fun w h => List.mem_filter.mpr ⟨(show ∀ w ∈ wsX10, w ∈ lw_tbl by decide +kernel) w h, (show ∀ w ∈ wsX10, goodWord w = true by decide +kernel) w h⟩
theorem inX2 : ∀ w ∈ wsX20, w ∈ amTb := fun w h => List.mem_filter.mpr ⟨(show ∀ w ∈ wsX20, w ∈ lw_tbl by decide +kernel) w h, (show ∀ w ∈ wsX20, goodWord w = true by decide +kernel) w h⟩
theorem inX3 : ∀ w ∈ wsX30, w ∈ amTb := fun w h => List.mem_filter.mpr ⟨(show ∀ w ∈ wsX30, w ∈ lw_tbl by decide +kernel) w h, (show ∀ w ∈ wsX30, goodWord w = true by decide +kernel) w h⟩
theorem inX4 : ∀ w ∈ wsX40, w ∈ amTb := fun w h => List.mem_filter.mpr ⟨(show ∀ w ∈ wsX40, w ∈ lw_tbl by decide +kernel) w h, (show ∀ w ∈ wsX40, goodWord w = true by decide +kernel) w h⟩
theorem inX5 : ∀ w ∈ wsX50, w ∈ amTb := fun w h => List.mem_filter.mpr ⟨(show ∀ w ∈ wsX50, w ∈ lw_tbl by decide +kernel) w h, (show ∀ w ∈ wsX50, goodWord w = true by decide +kernel) w h⟩
theorem inX6 : ∀ w ∈ wsX60, w ∈ amTb := fun w h => List.mem_filter.mpr ⟨(show ∀ w ∈ wsX60, w ∈ lw_tbl by decide +kernel) w h, (show ∀ w ∈ wsX60, goodWord w = true by decide +kernel) w h⟩
theorem inX7 : ∀ w ∈ wsX70, w ∈ amTb := fun w h => List.mem_filter.mpr ⟨(show ∀ w ∈ wsX70, w ∈ lw_tbl by decide +kernel) w h, (show ∀ w ∈ wsX70, goodWord w = true by decide +kernel) w h⟩
theorem inX9 : ∀ w ∈ wsX90, w ∈ amTb := fun w h => List.mem_filter.mpr ⟨(show ∀ w ∈ wsX90, w ∈ lw_tbl by decide +kernel) w h, (show ∀ w ∈ wsX90, goodWord w = true by decide +kernel) w h⟩
theorem inX12 : ∀ w ∈ wsX120, w ∈ amTb := fun w h => List.mem_filter.mpr ⟨(show ∀ w ∈ wsX120, w ∈ lw_tbl by decide +kernel) w h, (show ∀ w ∈ wsX120, goodWord w = true by decide +kernel) w h⟩
theorem inX13 : ∀ w ∈ wsX130, w ∈ amTb := fun w h => List.mem_filter.mpr ⟨(show ∀ w ∈ wsX130, w ∈ lw_tbl by decide +kernel) w h, (show ∀ w ∈ wsX130, goodWord w = true by decide +kernel) w h⟩
