def RX0 : String := "LiftGroup$Building"
def TX0 : u_T := fun k => match k with
  | 0 => ("LiftGroup$Building", "cars", "[LLiftGroup$Car;", true)
  | 1 => ("LiftGroup$Building", "passengers", "[LLiftGroup$Passenger;", true)
  | 2 => ("LiftGroup$Building", "trips", "LLiftGroup$TripLog;", true)
  | 3 => ("LiftGroup$Building", "passengerCount", "I", false)
  | 4 => ("LiftGroup$Building", "latestNumber", "I", false)
  | 5 => ("LiftGroup$Building", "time", "I", false)
  | 6 => ("LiftGroup$Building", "movesUp", "I", false)
  | 7 => ("LiftGroup$Building", "movesDown", "I", false)
  | 8 => ("LiftGroup$Building", "hundredsUp", "I", false)
  | _ => ("LiftGroup$Building", "openings", "I", false)
def tyX0 : Nat → FieldType := fun k => match k with
  | 0 => .array (.object "LiftGroup$Car")
  | 1 => .array (.object "LiftGroup$Passenger")
  | 2 => .object "LiftGroup$TripLog"
  | 3 => .int
  | 4 => .int
  | 5 => .int
  | 6 => .int
  | 7 => .int
  | 8 => .int
  | _ => .int
theorem nmX0 : ∀ a, a < 10 → ∀ b, b < 10 → a ≠ b → (TX0 a).2.1 ≠ (TX0 b).2.1 := by decide +kernel
theorem tyX0_ok : ∀ k, k < 10 → parseFieldDescriptor (TX0 k).2.2.1 = some (tyX0 k) := by decide +kernel
def RX1 : String := "LiftGroup$Car"
def TX1 : u_T := fun k => match k with
  | 0 => ("LiftGroup$Car", "floor", "I", false)
  | 1 => ("LiftGroup$Car", "direction", "I", false)
  | 2 => ("LiftGroup$Car", "capacity", "I", false)
  | 3 => ("LiftGroup$Car", "load", "I", false)
  | 4 => ("LiftGroup$Car", "riders", "I", false)
  | 5 => ("LiftGroup$Car", "openSteps", "I", false)
  | 6 => ("LiftGroup$Car", "energy", "I", false)
  | _ => ("LiftGroup$Car", "inService", "Z", false)
def tyX1 : Nat → FieldType := fun k => match k with
  | 0 => .int
  | 1 => .int
  | 2 => .int
  | 3 => .int
  | 4 => .int
  | 5 => .int
  | 6 => .int
  | _ => .boolean
theorem nmX1 : ∀ a, a < 8 → ∀ b, b < 8 → a ≠ b → (TX1 a).2.1 ≠ (TX1 b).2.1 := by decide +kernel
theorem tyX1_ok : ∀ k, k < 8 → parseFieldDescriptor (TX1 k).2.2.1 = some (tyX1 k) := by decide +kernel
def RX2 : String := "LiftGroup$History"
def TX2 : u_T := fun k => match k with
  | 0 => ("LiftGroup$History", "earlier", "[LLiftGroup$Building;", true)
  | 1 => ("LiftGroup$History", "count", "I", false)
  | _ => ("LiftGroup$History", "next", "I", false)
def tyX2 : Nat → FieldType := fun k => match k with
  | 0 => .array (.object "LiftGroup$Building")
  | 1 => .int
  | _ => .int
theorem nmX2 : ∀ a, a < 3 → ∀ b, b < 3 → a ≠ b → (TX2 a).2.1 ≠ (TX2 b).2.1 := by decide +kernel
theorem tyX2_ok : ∀ k, k < 3 → parseFieldDescriptor (TX2 k).2.2.1 = some (tyX2 k) := by decide +kernel
def RX3 : String := "LiftGroup$Passenger"
def TX3 : u_T := fun k => match k with
  | 0 => ("LiftGroup$Passenger", "number", "I", false)
  | 1 => ("LiftGroup$Passenger", "start", "I", false)
  | 2 => ("LiftGroup$Passenger", "destination", "I", false)
  | 3 => ("LiftGroup$Passenger", "weight", "I", false)
  | 4 => ("LiftGroup$Passenger", "waited", "I", false)
  | 5 => ("LiftGroup$Passenger", "car", "I", false)
  | _ => ("LiftGroup$Passenger", "rides", "Z", false)
def tyX3 : Nat → FieldType := fun k => match k with
  | 0 => .int
  | 1 => .int
  | 2 => .int
  | 3 => .int
  | 4 => .int
  | 5 => .int
  | _ => .boolean
theorem nmX3 : ∀ a, a < 7 → ∀ b, b < 7 → a ≠ b → (TX3 a).2.1 ≠ (TX3 b).2.1 := by decide +kernel
theorem tyX3_ok : ∀ k, k < 7 → parseFieldDescriptor (TX3 k).2.2.1 = some (tyX3 k) := by decide +kernel
def RX4 : String := "LiftGroup$Script"
def TX4 : u_T := fun k => match k with
  | 0 => ("LiftGroup$Script", "text", "Ljava/lang/StringBuilder;", true)
  | 1 => ("LiftGroup$Script", "kinds", "[I", true)
  | 2 => ("LiftGroup$Script", "arguments", "[[I", true)
  | 3 => ("LiftGroup$Script", "commandCount", "I", false)
  | _ => ("LiftGroup$Script", "error", "I", false)
def tyX4 : Nat → FieldType := fun k => match k with
  | 0 => .object "java/lang/StringBuilder"
  | 1 => .array .int
  | 2 => .array (.array .int)
  | 3 => .int
  | _ => .int
theorem nmX4 : ∀ a, a < 5 → ∀ b, b < 5 → a ≠ b → (TX4 a).2.1 ≠ (TX4 b).2.1 := by decide +kernel
theorem tyX4_ok : ∀ k, k < 5 → parseFieldDescriptor (TX4 k).2.2.1 = some (tyX4 k) := by decide +kernel
def RX5 : String := "LiftGroup$TripLog"
def TX5 : u_T := fun k => match k with
  | 0 => ("LiftGroup$TripLog", "numbers", "[I", true)
  | 1 => ("LiftGroup$TripLog", "cars", "[I", true)
  | 2 => ("LiftGroup$TripLog", "waits", "[I", true)
  | 3 => ("LiftGroup$TripLog", "count", "I", false)
  | _ => ("LiftGroup$TripLog", "sumOfWaits", "I", false)
def tyX5 : Nat → FieldType := fun k => match k with
  | 0 => .array .int
  | 1 => .array .int
  | 2 => .array .int
  | 3 => .int
  | _ => .int
theorem nmX5 : ∀ a, a < 5 → ∀ b, b < 5 → a ≠ b → (TX5 a).2.1 ≠ (TX5 b).2.1 := by decide +kernel
theorem tyX5_ok : ∀ k, k < 5 → parseFieldDescriptor (TX5 k).2.2.1 = some (tyX5 k) := by decide +kernel
def RX6 : String := "LiftGroup"
def TX6 : u_T := fun k => match k with
  | 0 => ("LiftGroup", "now", "LLiftGroup$Building;", true)
  | 1 => ("LiftGroup", "trial", "LLiftGroup$Building;", true)
  | 2 => ("LiftGroup", "snapshot", "LLiftGroup$Building;", true)
  | 3 => ("LiftGroup", "history", "LLiftGroup$History;", true)
  | 4 => ("LiftGroup", "script", "LLiftGroup$Script;", true)
  | 5 => ("LiftGroup", "output", "Ljava/lang/StringBuilder;", true)
  | 6 => ("LiftGroup", "hasSnapshot", "Z", false)
  | 7 => ("LiftGroup", "latestError", "I", false)
  | _ => ("LiftGroup", "latestFailure", "I", false)
def tyX6 : Nat → FieldType := fun k => match k with
  | 0 => .object "LiftGroup$Building"
  | 1 => .object "LiftGroup$Building"
  | 2 => .object "LiftGroup$Building"
  | 3 => .object "LiftGroup$History"
  | 4 => .object "LiftGroup$Script"
  | 5 => .object "java/lang/StringBuilder"
  | 6 => .boolean
  | 7 => .int
  | _ => .int
theorem nmX6 : ∀ a, a < 9 → ∀ b, b < 9 → a ≠ b → (TX6 a).2.1 ≠ (TX6 b).2.1 := by decide +kernel
theorem tyX6_ok : ∀ k, k < 9 → parseFieldDescriptor (TX6 k).2.2.1 = some (tyX6 k) := by decide +kernel
def RJx4a65c : String := "java/util/ArrayList"
def TJx4a65c : u_T := fun k => match k with
  | 0 => ("java/util/AbstractList", "modCount", "I", false)
  | 1 => ("java/util/ArrayList", "elementData", "[Ljava/lang/Object;", false)
  | _ => ("java/util/ArrayList", "size", "I", false)
def tyJx4a65c : Nat → FieldType := fun k => match k with
  | 0 => .int
  | 1 => .array (.object "java/lang/Object")
  | _ => .int
theorem nmJx4a65c : ∀ a, a < 3 → ∀ b, b < 3 → a ≠ b → (TJx4a65c a).2.1 ≠ (TJx4a65c b).2.1 := by decide +kernel
theorem tyJx4a65c_ok : ∀ k, k < 3 → parseFieldDescriptor (TJx4a65c k).2.2.1 = some (tyJx4a65c k) := by decide +kernel
def RJ4 : String := "java/lang/StringBuilder"
def TJ4 : u_T := fun k => match k with
  | 0 => ("java/lang/AbstractStringBuilder", "value", "[B", false)
  | 1 => ("java/lang/AbstractStringBuilder", "coder", "B", false)
  | 2 => ("java/lang/AbstractStringBuilder", "maybeLatin1", "Z", false)
  | _ => ("java/lang/AbstractStringBuilder", "count", "I", false)
def tyJ4 : Nat → FieldType := fun k => match k with
  | 0 => .array .byte
  | 1 => .byte
  | 2 => .boolean
  | _ => .int
theorem nmJ4 : ∀ a, a < 4 → ∀ b, b < 4 → a ≠ b → (TJ4 a).2.1 ≠ (TJ4 b).2.1 := by decide +kernel
theorem tyJ4_ok : ∀ k, k < 4 → parseFieldDescriptor (TJ4 k).2.2.1 = some (tyJ4 k) := by decide +kernel
def RJ0 : String := "java/lang/String"
def TJ0 : u_T := fun k => match k with
  | 0 => ("java/lang/String", "value", "[B", true)
  | 1 => ("java/lang/String", "coder", "B", true)
  | 2 => ("java/lang/String", "hash", "I", false)
  | _ => ("java/lang/String", "hashIsZero", "Z", false)
def tyJ0 : Nat → FieldType := fun k => match k with
  | 0 => .array .byte
  | 1 => .byte
  | 2 => .int
  | _ => .boolean
theorem nmJ0 : ∀ a, a < 4 → ∀ b, b < 4 → a ≠ b → (TJ0 a).2.1 ≠ (TJ0 b).2.1 := by decide +kernel
theorem tyJ0_ok : ∀ k, k < 4 → parseFieldDescriptor (TJ0 k).2.2.1 = some (tyJ0 k) := by decide +kernel
def RJx35411 : String := "java/util/ArrayList$Itr"
def TJx35411 : u_T := fun k => match k with
  | 0 => ("java/util/ArrayList$Itr", "cursor", "I", false)
  | 1 => ("java/util/ArrayList$Itr", "lastRet", "I", false)
  | 2 => ("java/util/ArrayList$Itr", "expectedModCount", "I", false)
  | _ => ("java/util/ArrayList$Itr", "this$0", "Ljava/util/ArrayList;", true)
def tyJx35411 : Nat → FieldType := fun k => match k with
  | 0 => .int
  | 1 => .int
  | 2 => .int
  | _ => .object "java/util/ArrayList"
theorem nmJx35411 : ∀ a, a < 4 → ∀ b, b < 4 → a ≠ b → (TJx35411 a).2.1 ≠ (TJx35411 b).2.1 := by decide +kernel
theorem tyJx35411_ok : ∀ k, k < 4 → parseFieldDescriptor (TJx35411 k).2.2.1 = some (tyJx35411 k) := by decide +kernel
