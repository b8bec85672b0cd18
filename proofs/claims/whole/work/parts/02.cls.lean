def RX0 : String := "MayMust$Joiner"
def TX0 : u_T := fun k => match k with
  | 0 => ("MayMust$Joiner", "pairs", "LMayMust$Pairs;", true)
  | 1 => ("MayMust$Joiner", "numbers", "[I", true)
  | 2 => ("MayMust$Joiner", "order", "[I", true)
  | _ => ("MayMust$Joiner", "size", "I", false)
def tyX0 : Nat → FieldType := fun k => match k with
  | 0 => .object "MayMust$Pairs"
  | 1 => .array .int
  | 2 => .array .int
  | _ => .int
abbrev wsX00 : List Cond := u_ws RX0 TX0 4
theorem nmX0 : ∀ a, a < 4 → ∀ b, b < 4 → a ≠ b → (TX0 a).2.1 ≠ (TX0 b).2.1 := by decide +kernel
theorem tyX0_ok : ∀ k, k < 4 → parseFieldDescriptor (TX0 k).2.2.1 = some (tyX0 k) := by decide +kernel
def RX1 : String := "MayMust$Pairs"
def TX1 : u_T := fun k => match k with
  | 0 => ("MayMust$Pairs", "ofLeft", "[I", true)
  | _ => ("MayMust$Pairs", "ofRight", "[I", true)
def tyX1 : Nat → FieldType := fun k => match k with
  | 0 => .array .int
  | _ => .array .int
abbrev wsX10 : List Cond := u_ws RX1 TX1 2
theorem nmX1 : ∀ a, a < 2 → ∀ b, b < 2 → a ≠ b → (TX1 a).2.1 ≠ (TX1 b).2.1 := by decide +kernel
theorem tyX1_ok : ∀ k, k < 2 → parseFieldDescriptor (TX1 k).2.2.1 = some (tyX1 k) := by decide +kernel
def RX2 : String := "MayMust$Plan"
def TX2 : u_T := fun k => match k with
  | 0 => ("MayMust$Plan", "size", "I", false)
  | 1 => ("MayMust$Plan", "any", "[I", true)
  | _ => ("MayMust$Plan", "must", "[I", true)
def tyX2 : Nat → FieldType := fun k => match k with
  | 0 => .int
  | 1 => .array .int
  | _ => .array .int
abbrev wsX20 : List Cond := u_ws RX2 TX2 3
theorem nmX2 : ∀ a, a < 3 → ∀ b, b < 3 → a ≠ b → (TX2 a).2.1 ≠ (TX2 b).2.1 := by decide +kernel
theorem tyX2_ok : ∀ k, k < 3 → parseFieldDescriptor (TX2 k).2.2.1 = some (tyX2 k) := by decide +kernel
def RX3 : String := "MayMust$Reader"
def TX3 : u_T := fun k => match k with
  | _ => ("MayMust$Reader", "tokens", "LMayMust$Tokens;", true)
def tyX3 : Nat → FieldType := fun k => match k with
  | _ => .object "MayMust$Tokens"
abbrev wsX30 : List Cond := u_ws RX3 TX3 1
theorem nmX3 : ∀ a, a < 1 → ∀ b, b < 1 → a ≠ b → (TX3 a).2.1 ≠ (TX3 b).2.1 := by decide +kernel
theorem tyX3_ok : ∀ k, k < 1 → parseFieldDescriptor (TX3 k).2.2.1 = some (tyX3 k) := by decide +kernel
def RX4 : String := "MayMust$Rounds"
def TX4 : u_T := fun k => match k with
  | 0 => ("MayMust$Rounds", "pairs", "LMayMust$Pairs;", true)
  | 1 => ("MayMust$Rounds", "went", "[I", true)
  | 2 => ("MayMust$Rounds", "whyLetter", "I", false)
  | _ => ("MayMust$Rounds", "whySide", "I", false)
def tyX4 : Nat → FieldType := fun k => match k with
  | 0 => .object "MayMust$Pairs"
  | 1 => .array .int
  | 2 => .int
  | _ => .int
abbrev wsX40 : List Cond := u_ws RX4 TX4 4
theorem nmX4 : ∀ a, a < 4 → ∀ b, b < 4 → a ≠ b → (TX4 a).2.1 ≠ (TX4 b).2.1 := by decide +kernel
theorem tyX4_ok : ∀ k, k < 4 → parseFieldDescriptor (TX4 k).2.2.1 = some (tyX4 k) := by decide +kernel
def RX5 : String := "MayMust$Saying"
def TX5 : u_T := fun k => match k with
  | 0 => ("MayMust$Saying", "steps", "[I", true)
  | 1 => ("MayMust$Saying", "size", "I", false)
  | 2 => ("MayMust$Saying", "bits", "I", false)
  | 3 => ("MayMust$Saying", "stack", "[I", true)
  | _ => ("MayMust$Saying", "height", "I", false)
def tyX5 : Nat → FieldType := fun k => match k with
  | 0 => .array .int
  | 1 => .int
  | 2 => .int
  | 3 => .array .int
  | _ => .int
abbrev wsX50 : List Cond := u_ws RX5 TX5 5
theorem nmX5 : ∀ a, a < 5 → ∀ b, b < 5 → a ≠ b → (TX5 a).2.1 ≠ (TX5 b).2.1 := by decide +kernel
theorem tyX5_ok : ∀ k, k < 5 → parseFieldDescriptor (TX5 k).2.2.1 = some (tyX5 k) := by decide +kernel
def RX6 : String := "MayMust$Shrinker"
def TX6 : u_T := fun k => match k with
  | _ => ("MayMust$Shrinker", "least", "[I", true)
def tyX6 : Nat → FieldType := fun k => match k with
  | _ => .array .int
abbrev wsX60 : List Cond := u_ws RX6 TX6 1
theorem nmX6 : ∀ a, a < 1 → ∀ b, b < 1 → a ≠ b → (TX6 a).2.1 ≠ (TX6 b).2.1 := by decide +kernel
theorem tyX6_ok : ∀ k, k < 1 → parseFieldDescriptor (TX6 k).2.2.1 = some (tyX6 k) := by decide +kernel
def RX7 : String := "MayMust$Text"
def TX7 : u_T := fun k => match k with
  | 0 => ("MayMust$Text", "bytes", "[I", true)
  | _ => ("MayMust$Text", "size", "I", false)
def tyX7 : Nat → FieldType := fun k => match k with
  | 0 => .array .int
  | _ => .int
abbrev wsX70 : List Cond := u_ws RX7 TX7 2
theorem nmX7 : ∀ a, a < 2 → ∀ b, b < 2 → a ≠ b → (TX7 a).2.1 ≠ (TX7 b).2.1 := by decide +kernel
theorem tyX7_ok : ∀ k, k < 2 → parseFieldDescriptor (TX7 k).2.2.1 = some (tyX7 k) := by decide +kernel
def RX8 : String := "MayMust$Tokens"
def TX8 : u_T := fun k => match k with
  | 0 => ("MayMust$Tokens", "kinds", "[I", true)
  | 1 => ("MayMust$Tokens", "places", "[I", true)
  | 2 => ("MayMust$Tokens", "worths", "[I", true)
  | 3 => ("MayMust$Tokens", "size", "I", false)
  | _ => ("MayMust$Tokens", "here", "I", false)
def tyX8 : Nat → FieldType := fun k => match k with
  | 0 => .array .int
  | 1 => .array .int
  | 2 => .array .int
  | 3 => .int
  | _ => .int
abbrev wsX80 : List Cond := u_ws RX8 TX8 5
theorem nmX8 : ∀ a, a < 5 → ∀ b, b < 5 → a ≠ b → (TX8 a).2.1 ≠ (TX8 b).2.1 := by decide +kernel
theorem tyX8_ok : ∀ k, k < 5 → parseFieldDescriptor (TX8 k).2.2.1 = some (tyX8 k) := by decide +kernel
def RX9 : String := "MayMust$Walker"
def TX9 : u_T := fun k => match k with
  | 0 => ("MayMust$Walker", "ground", "LMayMust$Plan;", true)
  | 1 => ("MayMust$Walker", "where", "I", false)
  | _ => ("MayMust$Walker", "gone", "I", false)
def tyX9 : Nat → FieldType := fun k => match k with
  | 0 => .object "MayMust$Plan"
  | 1 => .int
  | _ => .int
abbrev wsX90 : List Cond := u_ws RX9 TX9 3
theorem nmX9 : ∀ a, a < 3 → ∀ b, b < 3 → a ≠ b → (TX9 a).2.1 ≠ (TX9 b).2.1 := by decide +kernel
theorem tyX9_ok : ∀ k, k < 3 → parseFieldDescriptor (TX9 k).2.2.1 = some (tyX9 k) := by decide +kernel
def RX10 : String := "MayMust"
def TX10 : u_T := fun k => match k with
  | 0 => ("MayMust", "plans", "[LMayMust$Plan;", true)
  | 1 => ("MayMust", "draft", "LMayMust$Plan;", true)
  | 2 => ("MayMust", "text", "LMayMust$Text;", true)
  | 3 => ("MayMust", "reader", "LMayMust$Reader;", true)
  | 4 => ("MayMust", "saying", "LMayMust$Saying;", true)
  | 5 => ("MayMust", "draftSaying", "LMayMust$Saying;", true)
  | 6 => ("MayMust", "rounds", "LMayMust$Rounds;", true)
  | 7 => ("MayMust", "shrinker", "LMayMust$Shrinker;", true)
  | 8 => ("MayMust", "joiner", "LMayMust$Joiner;", true)
  | _ => ("MayMust", "walker", "LMayMust$Walker;", true)
def tyX10 : Nat → FieldType := fun k => match k with
  | 0 => .array (.object "MayMust$Plan")
  | 1 => .object "MayMust$Plan"
  | 2 => .object "MayMust$Text"
  | 3 => .object "MayMust$Reader"
  | 4 => .object "MayMust$Saying"
  | 5 => .object "MayMust$Saying"
  | 6 => .object "MayMust$Rounds"
  | 7 => .object "MayMust$Shrinker"
  | 8 => .object "MayMust$Joiner"
  | _ => .object "MayMust$Walker"
abbrev wsX100 : List Cond := u_ws RX10 TX10 10
theorem nmX10 : ∀ a, a < 10 → ∀ b, b < 10 → a ≠ b → (TX10 a).2.1 ≠ (TX10 b).2.1 := by decide +kernel
theorem tyX10_ok : ∀ k, k < 10 → parseFieldDescriptor (TX10 k).2.2.1 = some (tyX10 k) := by decide +kernel
def RX11 : String := "MayMustModel"
def TX11 : u_T := fun k => match k with
  | 0 => ("MayMustModel", "thrown", "I", false)
  | 1 => ("MayMustModel", "arrow", "[I", true)
  | 2 => ("MayMustModel", "size", "[I", true)
  | 3 => ("MayMustModel", "text", "[I", true)
  | 4 => ("MayMustModel", "typed", "I", false)
  | 5 => ("MayMustModel", "next", "I", false)
  | 6 => ("MayMustModel", "token", "I", false)
  | 7 => ("MayMustModel", "place", "I", false)
  | 8 => ("MayMustModel", "value", "I", false)
  | 9 => ("MayMustModel", "fault", "I", false)
  | 10 => ("MayMustModel", "post", "[I", true)
  | 11 => ("MayMustModel", "draft", "[I", true)
  | 12 => ("MayMustModel", "posts", "I", false)
  | 13 => ("MayMustModel", "draftMany", "I", false)
  | 14 => ("MayMustModel", "plains", "I", false)
  | 15 => ("MayMustModel", "draftPlains", "I", false)
  | 16 => ("MayMustModel", "signs", "[I", true)
  | 17 => ("MayMustModel", "signMany", "I", false)
  | 18 => ("MayMustModel", "open", "I", false)
  | 19 => ("MayMustModel", "stack", "[I", true)
  | 20 => ("MayMustModel", "went", "[I", true)
  | 21 => ("MayMustModel", "queue", "[I", true)
  | 22 => ("MayMustModel", "number", "[I", true)
  | 23 => ("MayMustModel", "could", "I", false)
  | _ => ("MayMustModel", "gone", "I", false)
def tyX11 : Nat → FieldType := fun k => match k with
  | 0 => .int
  | 1 => .array .int
  | 2 => .array .int
  | 3 => .array .int
  | 4 => .int
  | 5 => .int
  | 6 => .int
  | 7 => .int
  | 8 => .int
  | 9 => .int
  | 10 => .array .int
  | 11 => .array .int
  | 12 => .int
  | 13 => .int
  | 14 => .int
  | 15 => .int
  | 16 => .array .int
  | 17 => .int
  | 18 => .int
  | 19 => .array .int
  | 20 => .array .int
  | 21 => .array .int
  | 22 => .array .int
  | 23 => .int
  | _ => .int
abbrev wsX110 : List Cond := u_ws RX11 TX11 25
theorem nmX11 : ∀ a, a < 25 → ∀ b, b < 25 → a ≠ b → (TX11 a).2.1 ≠ (TX11 b).2.1 := by decide +kernel
theorem tyX11_ok : ∀ k, k < 25 → parseFieldDescriptor (TX11 k).2.2.1 = some (tyX11 k) := by decide +kernel
abbrev vwCl : List vw_C := [(RX0, TX0, 4), (RX1, TX1, 2), (RX2, TX2, 3), (RX3, TX3, 1), (RX4, TX4, 4), (RX5, TX5, 5), (RX6, TX6, 1), (RX7, TX7, 2), (RX8, TX8, 5), (RX9, TX9, 3), (RX10, TX10, 10), (RX11, TX11, 25)]
/-- the String constants: pool number, text, cell -/
def xa_strs : List (Nat × String × Nat) := [(81, "states", 1), (87, "may", 2), (89, "must", 3), (64, ";|&!()<>[]", 4)]
/-- where the words of the classes' fields stand -/
def xa_clsp : List (List Nat) := [[234, 236, 238, 240], [194, 196], [101, 103, 105], [151], [203, 205, 207, 209], [169, 171, 173, 175, 177], [219], [117, 119], [139, 141, 143, 145, 147], [254, 256, 258], [271, 273, 275, 277, 279, 281, 283, 285, 287, 289], [941, 943, 945, 947, 949, 951, 953, 955, 957, 959, 961, 963, 965, 967, 969, 971, 973, 975, 977, 979, 981, 983, 985, 987, 989]]
