/-! names of the classes whose objects the world holds: fields, types, words (rows of the claim's printed names; of these classes alone) -/
def RX0 : String := "Orbithouse$Board"
def TX0 : u_T := fun k => match k with
  | 0 => ("Orbithouse$Board", "world", "LOrbithouse$World;", true)
  | 1 => ("Orbithouse$Board", "commands", "LOrbithouse$Commands;", true)
  | 2 => ("Orbithouse$Board", "telemetry", "LOrbithouse$Telemetry;", true)
  | 3 => ("Orbithouse$Board", "memory", "LOrbithouse$Memory;", true)
  | 4 => ("Orbithouse$Board", "units", "LOrbithouse$Units;", true)
  | 5 => ("Orbithouse$Board", "procedures", "[LOrbithouse$Procedure;", true)
  | 6 => ("Orbithouse$Board", "isLevelOff", "[Z", true)
  | 7 => ("Orbithouse$Board", "resetIn", "[I", true)
  | 8 => ("Orbithouse$Board", "mode", "I", false)
  | 9 => ("Orbithouse$Board", "safeSince", "I", false)
  | 10 => ("Orbithouse$Board", "state", "C", false)
  | 11 => ("Orbithouse$Board", "counted", "I", false)
  | 12 => ("Orbithouse$Board", "resets", "I", false)
  | 13 => ("Orbithouse$Board", "next", "I", false)
  | 14 => ("Orbithouse$Board", "turn", "I", false)
  | 15 => ("Orbithouse$Board", "isLocked", "Z", false)
  | 16 => ("Orbithouse$Board", "isWaiting", "Z", false)
  | 17 => ("Orbithouse$Board", "isAgain", "Z", false)
  | 18 => ("Orbithouse$Board", "lastInOrder", "I", false)
  | _ => ("Orbithouse$Board", "isBroken", "Z", false)
def tyX0 : Nat → FieldType := fun k => match k with
  | 0 => .object "Orbithouse$World"
  | 1 => .object "Orbithouse$Commands"
  | 2 => .object "Orbithouse$Telemetry"
  | 3 => .object "Orbithouse$Memory"
  | 4 => .object "Orbithouse$Units"
  | 5 => .array (.object "Orbithouse$Procedure")
  | 6 => .array .boolean
  | 7 => .array .int
  | 8 => .int
  | 9 => .int
  | 10 => .char
  | 11 => .int
  | 12 => .int
  | 13 => .int
  | 14 => .int
  | 15 => .boolean
  | 16 => .boolean
  | 17 => .boolean
  | 18 => .int
  | _ => .boolean
abbrev wsX00 : List Cond := u_ws RX0 TX0 20
theorem nmX0 : ∀ a, a < 20 → ∀ b, b < 20 → a ≠ b → (TX0 a).2.1 ≠ (TX0 b).2.1 := by decide +kernel
theorem tyX0_ok : ∀ k, k < 20 → parseFieldDescriptor (TX0 k).2.2.1 = some (tyX0 k) := by decide +kernel
def RX1 : String := "Orbithouse$Command"
def TX1 : u_T := fun k => match k with
  | 0 => ("Orbithouse$Command", "kind", "I", true)
  | 1 => ("Orbithouse$Command", "x", "I", true)
  | 2 => ("Orbithouse$Command", "y", "I", true)
  | 3 => ("Orbithouse$Command", "z", "I", true)
  | 4 => ("Orbithouse$Command", "u", "I", true)
  | 5 => ("Orbithouse$Command", "v", "I", true)
  | _ => ("Orbithouse$Command", "w", "I", true)
def tyX1 : Nat → FieldType := fun k => match k with
  | 0 => .int
  | 1 => .int
  | 2 => .int
  | 3 => .int
  | 4 => .int
  | 5 => .int
  | _ => .int
abbrev wsX10 : List Cond := u_ws RX1 TX1 7
theorem nmX1 : ∀ a, a < 7 → ∀ b, b < 7 → a ≠ b → (TX1 a).2.1 ≠ (TX1 b).2.1 := by decide +kernel
theorem tyX1_ok : ∀ k, k < 7 → parseFieldDescriptor (TX1 k).2.2.1 = some (tyX1 k) := by decide +kernel
def RX2 : String := "Orbithouse$Commands"
def TX2 : u_T := fun k => match k with
  | 0 => ("Orbithouse$Commands", "nothing", "LOrbithouse$Command;", true)
  | 1 => ("Orbithouse$Commands", "told", "[LOrbithouse$Command;", true)
  | 2 => ("Orbithouse$Commands", "isFast", "[Z", true)
  | 3 => ("Orbithouse$Commands", "ends", "[I", true)
  | 4 => ("Orbithouse$Commands", "orders", "I", false)
  | 5 => ("Orbithouse$Commands", "queue", "[LOrbithouse$Command;", true)
  | 6 => ("Orbithouse$Commands", "queueOrder", "[I", true)
  | 7 => ("Orbithouse$Commands", "queueSource", "[C", true)
  | 8 => ("Orbithouse$Commands", "queueSerial", "[I", true)
  | 9 => ("Orbithouse$Commands", "size", "I", false)
  | 10 => ("Orbithouse$Commands", "serials", "I", false)
  | 11 => ("Orbithouse$Commands", "lost", "I", false)
  | 12 => ("Orbithouse$Commands", "templates", "[LOrbithouse$Command;", true)
  | 13 => ("Orbithouse$Commands", "entryCommand", "[LOrbithouse$Command;", true)
  | 14 => ("Orbithouse$Commands", "entryTick", "[I", true)
  | 15 => ("Orbithouse$Commands", "entryGroup", "[I", true)
  | 16 => ("Orbithouse$Commands", "entries", "I", false)
  | 17 => ("Orbithouse$Commands", "isScheduleOn", "Z", false)
  | _ => ("Orbithouse$Commands", "isGroupOff", "[Z", true)
def tyX2 : Nat → FieldType := fun k => match k with
  | 0 => .object "Orbithouse$Command"
  | 1 => .array (.object "Orbithouse$Command")
  | 2 => .array .boolean
  | 3 => .array .int
  | 4 => .int
  | 5 => .array (.object "Orbithouse$Command")
  | 6 => .array .int
  | 7 => .array .char
  | 8 => .array .int
  | 9 => .int
  | 10 => .int
  | 11 => .int
  | 12 => .array (.object "Orbithouse$Command")
  | 13 => .array (.object "Orbithouse$Command")
  | 14 => .array .int
  | 15 => .array .int
  | 16 => .int
  | 17 => .boolean
  | _ => .array .boolean
abbrev wsX20 : List Cond := u_ws RX2 TX2 19
theorem nmX2 : ∀ a, a < 19 → ∀ b, b < 19 → a ≠ b → (TX2 a).2.1 ≠ (TX2 b).2.1 := by decide +kernel
theorem tyX2_ok : ∀ k, k < 19 → parseFieldDescriptor (TX2 k).2.2.1 = some (tyX2 k) := by decide +kernel
def RX3 : String := "Orbithouse$Ground"
def TX3 : u_T := fun k => match k with
  | 0 => ("Orbithouse$Ground", "world", "LOrbithouse$World;", true)
  | 1 => ("Orbithouse$Ground", "waiting", "[[I", true)
  | 2 => ("Orbithouse$Ground", "waitingSize", "[I", true)
  | 3 => ("Orbithouse$Ground", "sent", "[[I", true)
  | 4 => ("Orbithouse$Ground", "sentSize", "I", false)
  | 5 => ("Orbithouse$Ground", "send", "I", false)
  | 6 => ("Orbithouse$Ground", "turn", "I", false)
  | 7 => ("Orbithouse$Ground", "tries", "I", false)
  | 8 => ("Orbithouse$Ground", "timer", "I", false)
  | 9 => ("Orbithouse$Ground", "window", "I", false)
  | 10 => ("Orbithouse$Ground", "time", "I", false)
  | 11 => ("Orbithouse$Ground", "limit", "I", false)
  | 12 => ("Orbithouse$Ground", "state", "C", false)
  | 13 => ("Orbithouse$Ground", "isControlMarked", "Z", false)
  | 14 => ("Orbithouse$Ground", "controlNumber", "I", false)
  | 15 => ("Orbithouse$Ground", "isControlGivenUp", "Z", false)
  | 16 => ("Orbithouse$Ground", "isToldToWait", "Z", false)
  | 17 => ("Orbithouse$Ground", "markedByWord", "I", false)
  | _ => ("Orbithouse$Ground", "sentInOrder", "I", false)
def tyX3 : Nat → FieldType := fun k => match k with
  | 0 => .object "Orbithouse$World"
  | 1 => .array (.array .int)
  | 2 => .array .int
  | 3 => .array (.array .int)
  | 4 => .int
  | 5 => .int
  | 6 => .int
  | 7 => .int
  | 8 => .int
  | 9 => .int
  | 10 => .int
  | 11 => .int
  | 12 => .char
  | 13 => .boolean
  | 14 => .int
  | 15 => .boolean
  | 16 => .boolean
  | 17 => .int
  | _ => .int
abbrev wsX30 : List Cond := u_ws RX3 TX3 19
theorem nmX3 : ∀ a, a < 19 → ∀ b, b < 19 → a ≠ b → (TX3 a).2.1 ≠ (TX3 b).2.1 := by decide +kernel
theorem tyX3_ok : ∀ k, k < 19 → parseFieldDescriptor (TX3 k).2.2.1 = some (tyX3 k) := by decide +kernel
def RX4 : String := "Orbithouse$Link"
def TX4 : u_T := fun k => match k with
  | 0 => ("Orbithouse$Link", "world", "LOrbithouse$World;", true)
  | 1 => ("Orbithouse$Link", "draft", "[I", true)
  | 2 => ("Orbithouse$Link", "load", "[I", true)
  | 3 => ("Orbithouse$Link", "sentIn", "[I", true)
  | 4 => ("Orbithouse$Link", "arrival", "[I", true)
  | 5 => ("Orbithouse$Link", "secondArrival", "[I", true)
  | 6 => ("Orbithouse$Link", "isBent", "[Z", true)
  | 7 => ("Orbithouse$Link", "delay", "I", false)
  | 8 => ("Orbithouse$Link", "gone", "I", false)
  | 9 => ("Orbithouse$Link", "late", "I", false)
  | 10 => ("Orbithouse$Link", "twice", "I", false)
  | 11 => ("Orbithouse$Link", "bent", "I", false)
  | _ => ("Orbithouse$Link", "count", "I", false)
def tyX4 : Nat → FieldType := fun k => match k with
  | 0 => .object "Orbithouse$World"
  | 1 => .array .int
  | 2 => .array .int
  | 3 => .array .int
  | 4 => .array .int
  | 5 => .array .int
  | 6 => .array .boolean
  | 7 => .int
  | 8 => .int
  | 9 => .int
  | 10 => .int
  | 11 => .int
  | _ => .int
abbrev wsX40 : List Cond := u_ws RX4 TX4 13
theorem nmX4 : ∀ a, a < 13 → ∀ b, b < 13 → a ≠ b → (TX4 a).2.1 ≠ (TX4 b).2.1 := by decide +kernel
theorem tyX4_ok : ∀ k, k < 13 → parseFieldDescriptor (TX4 k).2.2.1 = some (tyX4 k) := by decide +kernel
def RX5 : String := "Orbithouse$Memory"
def TX5 : u_T := fun k => match k with
  | 0 => ("Orbithouse$Memory", "words", "[I", true)
  | 1 => ("Orbithouse$Memory", "isWhole", "[Z", true)
  | 2 => ("Orbithouse$Memory", "isBegun", "[Z", true)
  | 3 => ("Orbithouse$Memory", "imageSum", "[I", true)
  | 4 => ("Orbithouse$Memory", "nextImage", "I", false)
  | 5 => ("Orbithouse$Memory", "startedFrom", "I", false)
  | 6 => ("Orbithouse$Memory", "mended", "I", false)
  | 7 => ("Orbithouse$Memory", "notMended", "I", false)
  | 8 => ("Orbithouse$Memory", "fileCells", "[I", true)
  | 9 => ("Orbithouse$Memory", "isThere", "[Z", true)
  | _ => ("Orbithouse$Memory", "isFileWhole", "[Z", true)
def tyX5 : Nat → FieldType := fun k => match k with
  | 0 => .array .int
  | 1 => .array .boolean
  | 2 => .array .boolean
  | 3 => .array .int
  | 4 => .int
  | 5 => .int
  | 6 => .int
  | 7 => .int
  | 8 => .array .int
  | 9 => .array .boolean
  | _ => .array .boolean
abbrev wsX50 : List Cond := u_ws RX5 TX5 11
theorem nmX5 : ∀ a, a < 11 → ∀ b, b < 11 → a ≠ b → (TX5 a).2.1 ≠ (TX5 b).2.1 := by decide +kernel
theorem tyX5_ok : ∀ k, k < 11 → parseFieldDescriptor (TX5 k).2.2.1 = some (tyX5 k) := by decide +kernel
def RX6 : String := "Orbithouse$Procedure"
def TX6 : u_T := fun k => match k with
  | 0 => ("Orbithouse$Procedure", "cells", "[I", true)
  | 1 => ("Orbithouse$Procedure", "registers", "[I", true)
  | 2 => ("Orbithouse$Procedure", "size", "I", false)
  | 3 => ("Orbithouse$Procedure", "mode", "I", false)
  | 4 => ("Orbithouse$Procedure", "row", "I", false)
  | 5 => ("Orbithouse$Procedure", "ticks", "I", false)
  | 6 => ("Orbithouse$Procedure", "limit", "I", false)
  | 7 => ("Orbithouse$Procedure", "end", "I", false)
  | 8 => ("Orbithouse$Procedure", "ticksAtRow", "I", false)
  | _ => ("Orbithouse$Procedure", "waitsFor", "I", false)
def tyX6 : Nat → FieldType := fun k => match k with
  | 0 => .array .int
  | 1 => .array .int
  | 2 => .int
  | 3 => .int
  | 4 => .int
  | 5 => .int
  | 6 => .int
  | 7 => .int
  | 8 => .int
  | _ => .int
abbrev wsX60 : List Cond := u_ws RX6 TX6 10
theorem nmX6 : ∀ a, a < 10 → ∀ b, b < 10 → a ≠ b → (TX6 a).2.1 ≠ (TX6 b).2.1 := by decide +kernel
theorem tyX6_ok : ∀ k, k < 10 → parseFieldDescriptor (TX6 k).2.2.1 = some (tyX6 k) := by decide +kernel
def RX7 : String := "Orbithouse$ReportRow"
def TX7 : u_T := fun k => match k with
  | 0 => ("Orbithouse$ReportRow", "most", "I", true)
  | 1 => ("Orbithouse$ReportRow", "cells", "[I", true)
  | 2 => ("Orbithouse$ReportRow", "first", "I", false)
  | _ => ("Orbithouse$ReportRow", "size", "I", false)
def tyX7 : Nat → FieldType := fun k => match k with
  | 0 => .int
  | 1 => .array .int
  | 2 => .int
  | _ => .int
abbrev wsX70 : List Cond := u_ws RX7 TX7 4
theorem nmX7 : ∀ a, a < 4 → ∀ b, b < 4 → a ≠ b → (TX7 a).2.1 ≠ (TX7 b).2.1 := by decide +kernel
theorem tyX7_ok : ∀ k, k < 4 → parseFieldDescriptor (TX7 k).2.2.1 = some (tyX7 k) := by decide +kernel
def RX8 : String := "Orbithouse$Telemetry"
def TX8 : u_T := fun k => match k with
  | 0 => ("Orbithouse$Telemetry", "world", "LOrbithouse$World;", true)
  | 1 => ("Orbithouse$Telemetry", "commands", "LOrbithouse$Commands;", true)
  | 2 => ("Orbithouse$Telemetry", "atOnce", "LOrbithouse$ReportRow;", true)
  | 3 => ("Orbithouse$Telemetry", "played", "LOrbithouse$ReportRow;", true)
  | 4 => ("Orbithouse$Telemetry", "stores", "[LOrbithouse$ReportRow;", true)
  | 5 => ("Orbithouse$Telemetry", "isRing", "[Z", true)
  | 6 => ("Orbithouse$Telemetry", "classes", "[I", true)
  | 7 => ("Orbithouse$Telemetry", "draft", "[I", true)
  | 8 => ("Orbithouse$Telemetry", "made", "I", false)
  | 9 => ("Orbithouse$Telemetry", "dropped", "I", false)
  | 10 => ("Orbithouse$Telemetry", "isTold", "[Z", true)
  | 11 => ("Orbithouse$Telemetry", "action", "[I", true)
  | 12 => ("Orbithouse$Telemetry", "isActing", "Z", false)
  | 13 => ("Orbithouse$Telemetry", "structureSize", "[I", true)
  | 14 => ("Orbithouse$Telemetry", "structureCells", "[I", true)
  | 15 => ("Orbithouse$Telemetry", "every", "[I", true)
  | _ => ("Orbithouse$Telemetry", "monitors", "[[I", true)
def tyX8 : Nat → FieldType := fun k => match k with
  | 0 => .object "Orbithouse$World"
  | 1 => .object "Orbithouse$Commands"
  | 2 => .object "Orbithouse$ReportRow"
  | 3 => .object "Orbithouse$ReportRow"
  | 4 => .array (.object "Orbithouse$ReportRow")
  | 5 => .array .boolean
  | 6 => .array .int
  | 7 => .array .int
  | 8 => .int
  | 9 => .int
  | 10 => .array .boolean
  | 11 => .array .int
  | 12 => .boolean
  | 13 => .array .int
  | 14 => .array .int
  | 15 => .array .int
  | _ => .array (.array .int)
abbrev wsX80 : List Cond := u_ws RX8 TX8 17
theorem nmX8 : ∀ a, a < 17 → ∀ b, b < 17 → a ≠ b → (TX8 a).2.1 ≠ (TX8 b).2.1 := by decide +kernel
theorem tyX8_ok : ∀ k, k < 17 → parseFieldDescriptor (TX8 k).2.2.1 = some (tyX8 k) := by decide +kernel
def RX9 : String := "Orbithouse$Units"
def TX9 : u_T := fun k => match k with
  | 0 => ("Orbithouse$Units", "world", "LOrbithouse$World;", true)
  | 1 => ("Orbithouse$Units", "telemetry", "LOrbithouse$Telemetry;", true)
  | 2 => ("Orbithouse$Units", "memory", "LOrbithouse$Memory;", true)
  | 3 => ("Orbithouse$Units", "isOn", "[Z", true)
  | 4 => ("Orbithouse$Units", "isBad", "[Z", true)
  | 5 => ("Orbithouse$Units", "misses", "[I", true)
  | 6 => ("Orbithouse$Units", "still", "[I", true)
  | 7 => ("Orbithouse$Units", "truth", "[C", true)
  | 8 => ("Orbithouse$Units", "lastAnswer", "[I", true)
  | 9 => ("Orbithouse$Units", "hasAnswered", "[Z", true)
  | 10 => ("Orbithouse$Units", "measuredRate", "I", false)
  | 11 => ("Orbithouse$Units", "measuredAngle", "I", false)
  | 12 => ("Orbithouse$Units", "isRateNew", "Z", false)
  | 13 => ("Orbithouse$Units", "isAngleNew", "Z", false)
  | _ => ("Orbithouse$Units", "turnedIn", "I", false)
def tyX9 : Nat → FieldType := fun k => match k with
  | 0 => .object "Orbithouse$World"
  | 1 => .object "Orbithouse$Telemetry"
  | 2 => .object "Orbithouse$Memory"
  | 3 => .array .boolean
  | 4 => .array .boolean
  | 5 => .array .int
  | 6 => .array .int
  | 7 => .array .char
  | 8 => .array .int
  | 9 => .array .boolean
  | 10 => .int
  | 11 => .int
  | 12 => .boolean
  | 13 => .boolean
  | _ => .int
abbrev wsX90 : List Cond := u_ws RX9 TX9 15
theorem nmX9 : ∀ a, a < 15 → ∀ b, b < 15 → a ≠ b → (TX9 a).2.1 ≠ (TX9 b).2.1 := by decide +kernel
theorem tyX9_ok : ∀ k, k < 15 → parseFieldDescriptor (TX9 k).2.2.1 = some (tyX9 k) := by decide +kernel
def RX10 : String := "Orbithouse$World"
def TX10 : u_T := fun k => match k with
  | 0 => ("Orbithouse$World", "tick", "I", false)
  | 1 => ("Orbithouse$World", "sunTicks", "I", false)
  | 2 => ("Orbithouse$World", "passTicks", "I", false)
  | 3 => ("Orbithouse$World", "z", "I", false)
  | 4 => ("Orbithouse$World", "angle", "I", false)
  | 5 => ("Orbithouse$World", "rate", "I", false)
  | 6 => ("Orbithouse$World", "battery", "I", false)
  | 7 => ("Orbithouse$World", "warmth", "I", false)
  | _ => ("Orbithouse$World", "batterySum", "J", false)
def tyX10 : Nat → FieldType := fun k => match k with
  | 0 => .int
  | 1 => .int
  | 2 => .int
  | 3 => .int
  | 4 => .int
  | 5 => .int
  | 6 => .int
  | 7 => .int
  | _ => .long
abbrev wsX100 : List Cond := u_ws RX10 TX10 9
theorem nmX10 : ∀ a, a < 9 → ∀ b, b < 9 → a ≠ b → (TX10 a).2.1 ≠ (TX10 b).2.1 := by decide +kernel
theorem tyX10_ok : ∀ k, k < 9 → parseFieldDescriptor (TX10 k).2.2.1 = some (tyX10 k) := by decide +kernel
def RX11 : String := "Orbithouse"
def TX11 : u_T := fun k => match k with
  | 0 => ("Orbithouse", "world", "LOrbithouse$World;", true)
  | 1 => ("Orbithouse", "commands", "LOrbithouse$Commands;", true)
  | 2 => ("Orbithouse", "telemetry", "LOrbithouse$Telemetry;", true)
  | 3 => ("Orbithouse", "memory", "LOrbithouse$Memory;", true)
  | 4 => ("Orbithouse", "units", "LOrbithouse$Units;", true)
  | 5 => ("Orbithouse", "software", "LOrbithouse$Board;", true)
  | 6 => ("Orbithouse", "base", "LOrbithouse$Ground;", true)
  | 7 => ("Orbithouse", "up", "LOrbithouse$Link;", true)
  | 8 => ("Orbithouse", "down", "LOrbithouse$Link;", true)
  | 9 => ("Orbithouse", "keptReports", "LOrbithouse$ReportRow;", true)
  | 10 => ("Orbithouse", "highestKept", "I", false)
  | 11 => ("Orbithouse", "wellArrived", "I", false)
  | _ => ("Orbithouse", "bentArrived", "I", false)
def tyX11 : Nat → FieldType := fun k => match k with
  | 0 => .object "Orbithouse$World"
  | 1 => .object "Orbithouse$Commands"
  | 2 => .object "Orbithouse$Telemetry"
  | 3 => .object "Orbithouse$Memory"
  | 4 => .object "Orbithouse$Units"
  | 5 => .object "Orbithouse$Board"
  | 6 => .object "Orbithouse$Ground"
  | 7 => .object "Orbithouse$Link"
  | 8 => .object "Orbithouse$Link"
  | 9 => .object "Orbithouse$ReportRow"
  | 10 => .int
  | 11 => .int
  | _ => .int
abbrev wsX110 : List Cond := u_ws RX11 TX11 13
theorem nmX11 : ∀ a, a < 13 → ∀ b, b < 13 → a ≠ b → (TX11 a).2.1 ≠ (TX11 b).2.1 := by decide +kernel
theorem tyX11_ok : ∀ k, k < 13 → parseFieldDescriptor (TX11 k).2.2.1 = some (tyX11 k) := by decide +kernel
def RJx00060 : String := "java/lang/ArrayIndexOutOfBoundsException"
def TJx00060 : u_T := fun k => match k with
  | 0 => ("java/lang/Throwable", "backtrace", "Ljava/lang/Object;", false)
  | 1 => ("java/lang/Throwable", "detailMessage", "Ljava/lang/String;", false)
  | 2 => ("java/lang/Throwable", "cause", "Ljava/lang/Throwable;", false)
  | 3 => ("java/lang/Throwable", "stackTrace", "[Ljava/lang/StackTraceElement;", false)
  | 4 => ("java/lang/Throwable", "depth", "I", false)
  | _ => ("java/lang/Throwable", "suppressedExceptions", "Ljava/util/List;", false)
def tyJx00060 : Nat → FieldType := fun k => match k with
  | 0 => .object "java/lang/Object"
  | 1 => .object "java/lang/String"
  | 2 => .object "java/lang/Throwable"
  | 3 => .array (.object "java/lang/StackTraceElement")
  | 4 => .int
  | _ => .object "java/util/List"
abbrev wsJx000600 : List Cond := u_ws RJx00060 TJx00060 6
theorem nmJx00060 : ∀ a, a < 6 → ∀ b, b < 6 → a ≠ b → (TJx00060 a).2.1 ≠ (TJx00060 b).2.1 := by decide +kernel
theorem tyJx00060_ok : ∀ k, k < 6 → parseFieldDescriptor (TJx00060 k).2.2.1 = some (tyJx00060 k) := by decide +kernel
def RJ0 : String := "java/lang/String"
def TJ0 : u_T := fun k => match k with
  | 0 => ("java/lang/String", "value", "[B", true)
  | _ => ("java/lang/String", "coder", "B", true)
def tyJ0 : Nat → FieldType := fun k => match k with
  | 0 => .array .byte
  | _ => .byte
abbrev wsJ00 : List Cond := u_ws RJ0 TJ0 2
theorem nmJ0 : ∀ a, a < 2 → ∀ b, b < 2 → a ≠ b → (TJ0 a).2.1 ≠ (TJ0 b).2.1 := by decide +kernel
theorem tyJ0_ok : ∀ k, k < 2 → parseFieldDescriptor (TJ0 k).2.2.1 = some (tyJ0 k) := by decide +kernel
abbrev vwCl : List vw_C := [(RJ0, TJ0, 2), (RJx00060, TJx00060, 6), (RX0, TX0, 20), (RX1, TX1, 7), (RX2, TX2, 19), (RX3, TX3, 19), (RX4, TX4, 13), (RX5, TX5, 11), (RX6, TX6, 10), (RX7, TX7, 4), (RX8, TX8, 17), (RX9, TX9, 15), (RX10, TX10, 9), (RX11, TX11, 13)]
theorem in_tbl {ws : List Cond} (ps : List Nat) (h : ws = ps.filterMap (fun i => tables_1[i]?)) : ∀ w ∈ ws, w ∈ lw_tbl := by
  intro w hw
  rw [h] at hw
  obtain ⟨i, -, hi⟩ := List.mem_filterMap.mp hw
  exact List.mem_append_right _ (List.mem_of_getElem? hi)
theorem inJ0 : ∀ w ∈ wsJ00, w ∈ lw_tbl := in_tbl [101, 103] (by decide +kernel)
theorem inJx00060 : ∀ w ∈ wsJx000600, w ∈ lw_tbl := in_tbl [67, 69, 71, 73, 75, 77] (by decide +kernel)
theorem inX0 : ∀ w ∈ wsX00, w ∈ lw_tbl := in_tbl [592, 594, 596, 598, 600, 602, 604, 606, 608, 610, 612, 614, 616, 618, 620, 622, 624, 626, 628, 630] (by decide +kernel)
theorem inX1 : ∀ w ∈ wsX10, w ∈ lw_tbl := in_tbl [206, 208, 210, 212, 214, 216, 218] (by decide +kernel)
theorem inX2 : ∀ w ∈ wsX20, w ∈ lw_tbl := in_tbl [246, 248, 250, 252, 254, 256, 258, 260, 262, 264, 266, 268, 270, 272, 274, 276, 278, 280, 282] (by decide +kernel)
theorem inX3 : ∀ w ∈ wsX30, w ∈ lw_tbl := in_tbl [668, 670, 672, 674, 676, 678, 680, 682, 684, 686, 688, 690, 692, 694, 696, 698, 700, 702, 704] (by decide +kernel)
theorem inX4 : ∀ w ∈ wsX40, w ∈ lw_tbl := in_tbl [735, 737, 739, 741, 743, 745, 747, 749, 751, 753, 755, 757, 759] (by decide +kernel)
theorem inX5 : ∀ w ∈ wsX50, w ∈ lw_tbl := in_tbl [437, 439, 441, 443, 445, 447, 449, 451, 453, 455, 457] (by decide +kernel)
theorem inX6 : ∀ w ∈ wsX60, w ∈ lw_tbl := in_tbl [545, 547, 549, 551, 553, 555, 557, 559, 561, 563] (by decide +kernel)
theorem inX7 : ∀ w ∈ wsX70, w ∈ lw_tbl := in_tbl [311, 313, 315, 317] (by decide +kernel)
theorem inX8 : ∀ w ∈ wsX80, w ∈ lw_tbl := in_tbl [345, 347, 349, 351, 353, 355, 357, 359, 361, 363, 365, 367, 369, 371, 373, 375, 377] (by decide +kernel)
theorem inX9 : ∀ w ∈ wsX90, w ∈ lw_tbl := in_tbl [484, 486, 488, 490, 492, 494, 496, 498, 500, 502, 504, 506, 508, 510, 512] (by decide +kernel)
theorem inX10 : ∀ w ∈ wsX100, w ∈ lw_tbl := in_tbl [143, 145, 147, 149, 151, 153, 155, 157, 159] (by decide +kernel)
theorem inX11 : ∀ w ∈ wsX110, w ∈ lw_tbl := in_tbl [777, 779, 781, 783, 785, 787, 789, 791, 793, 795, 797, 799, 801] (by decide +kernel)
