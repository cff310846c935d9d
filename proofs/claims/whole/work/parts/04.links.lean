/-! SOUNDNESS, 1: what the links of the blocks say, looked up in the tables (written by wip/whole/mk10.py) -/
def cT1 : u_T := fun k => match k with
  | 0 => ("WaterCruise$Acts", "traceRow", "[I", true)
  | 1 => ("WaterCruise$Acts", "traceSize", "I", false)
  | _ => ("WaterCruise$Acts", "cast", "LWaterCruise$Cast;", false)
def cY1 : Nat → FieldType := fun k => match k with
  | 0 => .array (.int)
  | 1 => .int
  | _ => .object "WaterCruise$Cast"
def cT2 : u_T := fun k => match k with
  | 0 => ("WaterCruise$Bottle", "depth", "I", true)
  | 1 => ("WaterCruise$Bottle", "fails", "Z", false)
  | 2 => ("WaterCruise$Bottle", "shutAt", "I", false)
  | _ => ("WaterCruise$Bottle", "left", "I", false)
def cY2 : Nat → FieldType := fun k => match k with
  | 0 => .int
  | 1 => .boolean
  | 2 => .int
  | _ => .int
def cT3 : u_T := fun k => match k with
  | 0 => ("WaterCruise$Cast", "number", "I", true)
  | 1 => ("WaterCruise$Cast", "kind", "I", true)
  | 2 => ("WaterCruise$Cast", "station", "I", true)
  | 3 => ("WaterCruise$Cast", "depth", "I", true)
  | 4 => ("WaterCruise$Cast", "bottles", "[LWaterCruise$Bottle;", true)
  | 5 => ("WaterCruise$Cast", "bottleCount", "I", false)
  | 6 => ("WaterCruise$Cast", "began", "I", false)
  | 7 => ("WaterCruise$Cast", "isLeft", "Z", false)
  | 8 => ("WaterCruise$Cast", "readingRow", "[I", true)
  | _ => ("WaterCruise$Cast", "readingCount", "I", false)
def cY3 : Nat → FieldType := fun k => match k with
  | 0 => .int
  | 1 => .int
  | 2 => .int
  | 3 => .int
  | 4 => .array (.object "WaterCruise$Bottle")
  | 5 => .int
  | 6 => .int
  | 7 => .boolean
  | 8 => .array (.int)
  | _ => .int
def cT4 : u_T := fun k => match k with
  | 0 => ("WaterCruise$Hand", "spoil", "I", true)
  | _ => ("WaterCruise$Hand", "program", "LWaterCruise$Lines;", false)
def cY4 : Nat → FieldType := fun k => match k with
  | 0 => .int
  | _ => .object "WaterCruise$Lines"
def cT5 : u_T := fun k => match k with
  | 0 => ("WaterCruise$LineReader", "tape", "[I", true)
  | 1 => ("WaterCruise$LineReader", "length", "I", false)
  | 2 => ("WaterCruise$LineReader", "faultKind", "I", false)
  | 3 => ("WaterCruise$LineReader", "faultPlace", "I", false)
  | 4 => ("WaterCruise$LineReader", "kinds", "[I", true)
  | 5 => ("WaterCruise$LineReader", "spots", "[I", true)
  | 6 => ("WaterCruise$LineReader", "numbers", "[I", true)
  | 7 => ("WaterCruise$LineReader", "tokenCount", "I", false)
  | 8 => ("WaterCruise$LineReader", "at", "I", false)
  | 9 => ("WaterCruise$LineReader", "firstBadTake", "I", false)
  | _ => ("WaterCruise$LineReader", "draft", "LWaterCruise$Lines;", false)
def cY5 : Nat → FieldType := fun k => match k with
  | 0 => .array (.int)
  | 1 => .int
  | 2 => .int
  | 3 => .int
  | 4 => .array (.int)
  | 5 => .array (.int)
  | 6 => .array (.int)
  | 7 => .int
  | 8 => .int
  | 9 => .int
  | _ => .object "WaterCruise$Lines"
def cT6 : u_T := fun k => match k with
  | 0 => ("WaterCruise$Lines", "steps", "[I", true)
  | 1 => ("WaterCruise$Lines", "stepCount", "I", false)
  | 2 => ("WaterCruise$Lines", "stepEnds", "[I", true)
  | 3 => ("WaterCruise$Lines", "takes", "[I", true)
  | _ => ("WaterCruise$Lines", "size", "I", false)
def cY6 : Nat → FieldType := fun k => match k with
  | 0 => .array (.int)
  | 1 => .int
  | 2 => .array (.int)
  | 3 => .array (.int)
  | _ => .int
def cT7 : u_T := fun k => match k with
  | 0 => ("WaterCruise$Planner", "stale", "Z", false)
  | 1 => ("WaterCruise$Planner", "bestWorth", "I", false)
  | 2 => ("WaterCruise$Planner", "bestEnd", "I", false)
  | 3 => ("WaterCruise$Planner", "bestSize", "I", false)
  | 4 => ("WaterCruise$Planner", "bestRow", "[I", true)
  | 5 => ("WaterCruise$Planner", "bestHours", "[I", true)
  | 6 => ("WaterCruise$Planner", "size", "I", false)
  | 7 => ("WaterCruise$Planner", "row", "[I", true)
  | 8 => ("WaterCruise$Planner", "hours", "[I", true)
  | 9 => ("WaterCruise$Planner", "worths", "[I", true)
  | 10 => ("WaterCruise$Planner", "lasting", "[I", true)
  | 11 => ("WaterCruise$Planner", "aheadOf", "[I", true)
  | 12 => ("WaterCruise$Planner", "ways", "[I", true)
  | 13 => ("WaterCruise$Planner", "firstHours", "[I", true)
  | _ => ("WaterCruise$Planner", "leastEnds", "[I", true)
def cY7 : Nat → FieldType := fun k => match k with
  | 0 => .boolean
  | 1 => .int
  | 2 => .int
  | 3 => .int
  | 4 => .array (.int)
  | 5 => .array (.int)
  | 6 => .int
  | 7 => .array (.int)
  | 8 => .array (.int)
  | 9 => .array (.int)
  | 10 => .array (.int)
  | 11 => .array (.int)
  | 12 => .array (.int)
  | 13 => .array (.int)
  | _ => .array (.int)
def cT8 : u_T := fun k => match k with
  | 0 => ("WaterCruise$Sample", "hand", "I", true)
  | 1 => ("WaterCruise$Sample", "cast", "I", true)
  | 2 => ("WaterCruise$Sample", "bottle", "I", true)
  | 3 => ("WaterCruise$Sample", "parts", "I", false)
  | 4 => ("WaterCruise$Sample", "line", "I", false)
  | 5 => ("WaterCruise$Sample", "place", "I", false)
  | _ => ("WaterCruise$Sample", "state", "I", false)
def cY8 : Nat → FieldType := fun k => match k with
  | 0 => .int
  | 1 => .int
  | 2 => .int
  | 3 => .int
  | 4 => .int
  | 5 => .int
  | _ => .int
def cT9 : u_T := fun k => match k with
  | 0 => ("WaterCruise$Sheet", "sort", "I", false)
  | 1 => ("WaterCruise$Sheet", "size", "I", false)
  | _ => ("WaterCruise$Sheet", "numbers", "[I", true)
def cY9 : Nat → FieldType := fun k => match k with
  | 0 => .int
  | 1 => .int
  | _ => .array (.int)
def cT10 : u_T := fun k => match k with
  | 0 => ("WaterCruise$Station", "x", "I", true)
  | 1 => ("WaterCruise$Station", "y", "I", true)
  | 2 => ("WaterCruise$Station", "depth", "I", true)
  | 3 => ("WaterCruise$Station", "worth", "I", true)
  | 4 => ("WaterCruise$Station", "from", "I", false)
  | 5 => ("WaterCruise$Station", "to", "I", false)
  | 6 => ("WaterCruise$Station", "light", "I", false)
  | _ => ("WaterCruise$Station", "aheadBits", "I", false)
def cY10 : Nat → FieldType := fun k => match k with
  | 0 => .int
  | 1 => .int
  | 2 => .int
  | 3 => .int
  | 4 => .int
  | 5 => .int
  | 6 => .int
  | _ => .int
def cT11 : u_T := fun k => match k with
  | 0 => ("WaterCruise", "stations", "[LWaterCruise$Station;", true)
  | 1 => ("WaterCruise", "stationCount", "I", false)
  | 2 => ("WaterCruise", "fitHours", "[Z", true)
  | 3 => ("WaterCruise", "shipSpeed", "I", false)
  | 4 => ("WaterCruise", "planner", "LWaterCruise$Planner;", true)
  | 5 => ("WaterCruise", "casts", "[LWaterCruise$Cast;", true)
  | 6 => ("WaterCruise", "castCount", "I", false)
  | 7 => ("WaterCruise", "hands", "[LWaterCruise$Hand;", true)
  | 8 => ("WaterCruise", "handCount", "I", false)
  | 9 => ("WaterCruise", "reader", "LWaterCruise$LineReader;", true)
  | 10 => ("WaterCruise", "bottleValues", "[I", true)
  | 11 => ("WaterCruise", "minute", "I", false)
  | 12 => ("WaterCruise", "samples", "[LWaterCruise$Sample;", true)
  | 13 => ("WaterCruise", "sampleCount", "I", false)
  | 14 => ("WaterCruise", "places", "[I", true)
  | 15 => ("WaterCruise", "acts", "LWaterCruise$Acts;", true)
  | 16 => ("WaterCruise", "sheets", "[LWaterCruise$Sheet;", true)
  | _ => ("WaterCruise", "latestStatus", "I", false)
def cY11 : Nat → FieldType := fun k => match k with
  | 0 => .array (.object "WaterCruise$Station")
  | 1 => .int
  | 2 => .array (.boolean)
  | 3 => .int
  | 4 => .object "WaterCruise$Planner"
  | 5 => .array (.object "WaterCruise$Cast")
  | 6 => .int
  | 7 => .array (.object "WaterCruise$Hand")
  | 8 => .int
  | 9 => .object "WaterCruise$LineReader"
  | 10 => .array (.int)
  | 11 => .int
  | 12 => .array (.object "WaterCruise$Sample")
  | 13 => .int
  | 14 => .array (.int)
  | 15 => .object "WaterCruise$Acts"
  | 16 => .array (.object "WaterCruise$Sheet")
  | _ => .int
def cT12 : u_T := fun k => match k with
  | 0 => ("WaterCruiseModel", "stations", "I", false)
  | 1 => ("WaterCruiseModel", "x", "[I", true)
  | 2 => ("WaterCruiseModel", "y", "[I", true)
  | 3 => ("WaterCruiseModel", "deep", "[I", true)
  | 4 => ("WaterCruiseModel", "worth", "[I", true)
  | 5 => ("WaterCruiseModel", "from", "[I", true)
  | 6 => ("WaterCruiseModel", "to", "[I", true)
  | 7 => ("WaterCruiseModel", "light", "[I", true)
  | 8 => ("WaterCruiseModel", "ahead", "[I", true)
  | 9 => ("WaterCruiseModel", "isFit", "[Z", true)
  | 10 => ("WaterCruiseModel", "speed", "I", false)
  | 11 => ("WaterCruiseModel", "casts", "I", false)
  | 12 => ("WaterCruiseModel", "kind", "[I", true)
  | 13 => ("WaterCruiseModel", "station", "[I", true)
  | 14 => ("WaterCruiseModel", "depth", "[I", true)
  | 15 => ("WaterCruiseModel", "began", "[I", true)
  | 16 => ("WaterCruiseModel", "isLeft", "[Z", true)
  | 17 => ("WaterCruiseModel", "bottles", "[I", true)
  | 18 => ("WaterCruiseModel", "bDepth", "[I", true)
  | 19 => ("WaterCruiseModel", "bFails", "[Z", true)
  | 20 => ("WaterCruiseModel", "bShut", "[I", true)
  | 21 => ("WaterCruiseModel", "bLeft", "[I", true)
  | 22 => ("WaterCruiseModel", "readMany", "[I", true)
  | 23 => ("WaterCruiseModel", "reads", "[I", true)
  | 24 => ("WaterCruiseModel", "minute", "I", false)
  | 25 => ("WaterCruiseModel", "hands", "I", false)
  | 26 => ("WaterCruiseModel", "spoil", "[I", true)
  | 27 => ("WaterCruiseModel", "lineMany", "[I", true)
  | 28 => ("WaterCruiseModel", "lineOf", "[I", true)
  | 29 => ("WaterCruiseModel", "codeOf", "[I", true)
  | 30 => ("WaterCruiseModel", "samples", "I", false)
  | 31 => ("WaterCruiseModel", "sHand", "[I", true)
  | 32 => ("WaterCruiseModel", "sCast", "[I", true)
  | 33 => ("WaterCruiseModel", "sBottle", "[I", true)
  | 34 => ("WaterCruiseModel", "sParts", "[I", true)
  | 35 => ("WaterCruiseModel", "sPlace", "[I", true)
  | 36 => ("WaterCruiseModel", "sHow", "[I", true)
  | 37 => ("WaterCruiseModel", "sLine", "[I", true)
  | 38 => ("WaterCruiseModel", "tape", "[I", true)
  | 39 => ("WaterCruiseModel", "taped", "I", false)
  | 40 => ("WaterCruiseModel", "faultKind", "I", false)
  | 41 => ("WaterCruiseModel", "faultPlace", "I", false)
  | 42 => ("WaterCruiseModel", "sort", "[I", true)
  | 43 => ("WaterCruiseModel", "size", "[I", true)
  | 44 => ("WaterCruiseModel", "cells", "[I", true)
  | 45 => ("WaterCruiseModel", "status", "I", false)
  | 46 => ("WaterCruiseModel", "traced", "[I", true)
  | 47 => ("WaterCruiseModel", "traces", "I", false)
  | 48 => ("WaterCruiseModel", "at", "I", false)
  | 49 => ("WaterCruiseModel", "token", "I", false)
  | 50 => ("WaterCruiseModel", "value", "I", false)
  | 51 => ("WaterCruiseModel", "begun", "I", false)
  | 52 => ("WaterCruiseModel", "nots", "I", false)
  | 53 => ("WaterCruiseModel", "many", "I", false)
  | 54 => ("WaterCruiseModel", "line", "[I", true)
  | 55 => ("WaterCruiseModel", "codes", "I", false)
  | 56 => ("WaterCruiseModel", "code", "[I", true)
  | 57 => ("WaterCruiseModel", "pile", "[Z", true)
  | 58 => ("WaterCruiseModel", "isKnown", "Z", false)
  | 59 => ("WaterCruiseModel", "planWorth", "I", false)
  | 60 => ("WaterCruiseModel", "planEnd", "I", false)
  | 61 => ("WaterCruiseModel", "planMany", "I", false)
  | 62 => ("WaterCruiseModel", "plan", "[I", true)
  | 63 => ("WaterCruiseModel", "planHour", "[I", true)
  | 64 => ("WaterCruiseModel", "first", "[I", true)
  | 65 => ("WaterCruiseModel", "row", "[I", true)
  | 66 => ("WaterCruiseModel", "hour", "[I", true)
  | 67 => ("WaterCruiseModel", "end", "[I", true)
  | _ => ("WaterCruiseModel", "lastsNow", "[I", true)
def cY12 : Nat → FieldType := fun k => match k with
  | 0 => .int
  | 1 => .array (.int)
  | 2 => .array (.int)
  | 3 => .array (.int)
  | 4 => .array (.int)
  | 5 => .array (.int)
  | 6 => .array (.int)
  | 7 => .array (.int)
  | 8 => .array (.int)
  | 9 => .array (.boolean)
  | 10 => .int
  | 11 => .int
  | 12 => .array (.int)
  | 13 => .array (.int)
  | 14 => .array (.int)
  | 15 => .array (.int)
  | 16 => .array (.boolean)
  | 17 => .array (.int)
  | 18 => .array (.int)
  | 19 => .array (.boolean)
  | 20 => .array (.int)
  | 21 => .array (.int)
  | 22 => .array (.int)
  | 23 => .array (.int)
  | 24 => .int
  | 25 => .int
  | 26 => .array (.int)
  | 27 => .array (.int)
  | 28 => .array (.int)
  | 29 => .array (.int)
  | 30 => .int
  | 31 => .array (.int)
  | 32 => .array (.int)
  | 33 => .array (.int)
  | 34 => .array (.int)
  | 35 => .array (.int)
  | 36 => .array (.int)
  | 37 => .array (.int)
  | 38 => .array (.int)
  | 39 => .int
  | 40 => .int
  | 41 => .int
  | 42 => .array (.int)
  | 43 => .array (.int)
  | 44 => .array (.int)
  | 45 => .int
  | 46 => .array (.int)
  | 47 => .int
  | 48 => .int
  | 49 => .int
  | 50 => .int
  | 51 => .int
  | 52 => .int
  | 53 => .int
  | 54 => .array (.int)
  | 55 => .int
  | 56 => .array (.int)
  | 57 => .array (.boolean)
  | 58 => .boolean
  | 59 => .int
  | 60 => .int
  | 61 => .int
  | 62 => .array (.int)
  | 63 => .array (.int)
  | 64 => .array (.int)
  | 65 => .array (.int)
  | 66 => .array (.int)
  | 67 => .array (.int)
  | _ => .array (.int)
def clsL : List vw_C := [("WaterCruise$Acts", cT1, 3), ("WaterCruise$Bottle", cT2, 4), ("WaterCruise$Cast", cT3, 10), ("WaterCruise$Hand", cT4, 2), ("WaterCruise$LineReader", cT5, 11), ("WaterCruise$Lines", cT6, 5), ("WaterCruise$Planner", cT7, 15), ("WaterCruise$Sample", cT8, 7), ("WaterCruise$Sheet", cT9, 3), ("WaterCruise$Station", cT10, 8), ("WaterCruise", cT11, 18), ("WaterCruiseModel", cT12, 69)]
def clsY : List (Nat → FieldType) := [cY1, cY2, cY3, cY4, cY5, cY6, cY7, cY8, cY9, cY10, cY11, cY12]
/-- the first field of a class -/
def fbs : List Nat := [0, 3, 7, 17, 19, 30, 35, 50, 57, 60, 68, 86]
/-- the kinds of all fields -/
def ftcs : List Nat := [2, 0, 2, 0, 1, 0, 0, 0, 0, 0, 0, 2, 0, 0, 1, 2, 0, 0, 2, 2, 0, 0, 0, 2, 2, 2, 0, 0, 0, 2, 2, 0, 2, 2, 0, 1, 0, 0, 0, 2, 2, 0, 2, 2, 2, 2, 2, 2, 2, 2, 0, 0, 0, 0, 0, 0, 0, 0, 0, 2, 0, 0, 0, 0, 0, 0, 0, 0, 2, 0, 2, 0, 2, 2, 0, 2, 0, 2, 2, 0, 2, 0, 2, 2, 2, 0, 0, 2, 2, 2, 2, 2, 2, 2, 2, 2, 0, 0, 2, 2, 2, 2, 2, 2, 2, 2, 2, 2, 2, 2, 0, 0, 2, 2, 2, 2, 0, 2, 2, 2, 2, 2, 2, 2, 2, 0, 0, 0, 2, 2, 2, 0, 2, 0, 0, 0, 0, 0, 0, 0, 2, 0, 2, 2, 1, 0, 0, 0, 2, 2, 2, 2, 2, 2, 2]
def cnm (c : Nat) : String := (clsL.getD (c - 1) ("", fun _ => ("", "", "", false), 0)).1
def cT (c : Nat) : u_T := (clsL.getD (c - 1) ("", fun _ => ("", "", "", false), 0)).2.1
def cN (c : Nat) : Nat := (clsL.getD (c - 1) ("", fun _ => ("", "", "", false), 0)).2.2
def cY (c : Nat) : Nat → FieldType := clsY.getD (c - 1) (fun _ => .int)
def fb (c : Nat) : Nat := fbs.getD (c - 1) 0
def ftc (f : Nat) : Nat := ftcs.getD f 9
abbrev Mrow : Type := MethodName × ByteArray × Option FieldType × List Nat
def Mt0 : List Mrow := [(⟨"WaterCruise$Acts", "<init>", "()V"⟩, prog_2_method_1_code, (Option.none : Option FieldType), [262, 0, 261, 100, 9999]), (⟨"WaterCruise$Acts", "perform", "(LWaterCruise$Cast;II)I"⟩, prog_2_method_2_code, (Option.some Jvm.ClassFile.FieldType.int : Option FieldType), [1028, 0, 1026, 100, 1027]), (⟨"WaterCruise$Acts", "call", "(IIII)I"⟩, prog_2_method_3_code, (Option.some Jvm.ClassFile.FieldType.int : Option FieldType), [1032, 0, 1031, 100, 41]), (⟨"WaterCruise$Acts", "run", "(III)I"⟩, prog_2_method_4_code, (Option.some Jvm.ClassFile.FieldType.int : Option FieldType), [1043, 0, 1042, 100, 42]), (⟨"WaterCruise$Acts", "bodyOf", "(II)I"⟩, prog_2_method_5_code, (Option.some Jvm.ClassFile.FieldType.int : Option FieldType), [1035, 1, 1034, 100, 9999]), (⟨"WaterCruise$Bottle", "<init>", "(I)V"⟩, prog_3_method_1_code, (Option.none : Option FieldType), [623, 0, 622, 106, 9999]), (⟨"WaterCruise$Cast", "<init>", "(IIII)V"⟩, prog_4_method_1_code, (Option.none : Option FieldType), [556, 0, 555, 105, 9999]), (⟨"WaterCruise$Cast", "minutesDown", "()I"⟩, prog_4_method_2_code, (Option.some Jvm.ClassFile.FieldType.int : Option FieldType), [458, 0, 456, 105, 457]), (⟨"WaterCruise$Cast", "minutes", "()I"⟩, prog_4_method_3_code, (Option.some Jvm.ClassFile.FieldType.int : Option FieldType), [451, 0, 449, 105, 450]), (⟨"WaterCruise$Cast", "deepestNext", "()I"⟩, prog_4_method_4_code, (Option.some Jvm.ClassFile.FieldType.int : Option FieldType), [615, 0, 613, 105, 614]), (⟨"WaterCruise$Cast", "shutBottles", "()V"⟩, prog_4_method_5_code, (Option.none : Option FieldType), [658, 0, 656, 105, 657]), (⟨"WaterCruise$Cast", "readingsBetween", "(IIZ)I"⟩, prog_4_method_6_code, (Option.some Jvm.ClassFile.FieldType.int : Option FieldType), [1003, 0, 1001, 105, 1002]), (⟨"WaterCruise$Cast", "eighthsBetween", "(II)I"⟩, prog_4_method_7_code, (Option.some Jvm.ClassFile.FieldType.int : Option FieldType), [1008, 0, 1006, 105, 1007]), (⟨"WaterCruise$Hand", "<init>", "(I)V"⟩, prog_5_method_1_code, (Option.none : Option FieldType), [748, 0, 747, 107, 9999]), (⟨"WaterCruise$LineReader", "<init>", "()V"⟩, prog_6_method_1_code, (Option.none : Option FieldType), [193, 0, 192, 98, 9999]), (⟨"WaterCruise$LineReader", "putByte", "(I)V"⟩, prog_6_method_2_code, (Option.none : Option FieldType), [769, 0, 767, 98, 768])]
def Mt1 : List Mrow := [(⟨"WaterCruise$LineReader", "readTape", "()Z"⟩, prog_6_method_3_code, (Option.some Jvm.ClassFile.FieldType.boolean : Option FieldType), [777, 0, 775, 98, 776]), (⟨"WaterCruise$LineReader", "exchange", "(LWaterCruise$Lines;)LWaterCruise$Lines;"⟩, prog_6_method_4_code, (Option.some (Jvm.ClassFile.FieldType.object "WaterCruise$Lines") : Option FieldType), [935, 0, 933, 98, 934]), (⟨"WaterCruise$LineReader", "scan", "()V"⟩, prog_6_method_5_code, (Option.none : Option FieldType), [781, 0, 780, 98, 19]), (⟨"WaterCruise$LineReader", "scanToken", "(I)I"⟩, prog_6_method_6_code, (Option.some Jvm.ClassFile.FieldType.int : Option FieldType), [785, 0, 784, 98, 20]), (⟨"WaterCruise$LineReader", "scanNumber", "(I)I"⟩, prog_6_method_7_code, (Option.some Jvm.ClassFile.FieldType.int : Option FieldType), [796, 0, 795, 98, 22]), (⟨"WaterCruise$LineReader", "scanKey", "(I)I"⟩, prog_6_method_8_code, (Option.some Jvm.ClassFile.FieldType.int : Option FieldType), [807, 0, 806, 98, 24]), (⟨"WaterCruise$LineReader", "byteAt", "(I)I"⟩, prog_6_method_9_code, (Option.some Jvm.ClassFile.FieldType.int : Option FieldType), [789, 0, 788, 98, 21]), (⟨"WaterCruise$LineReader", "putToken", "(III)V"⟩, prog_6_method_10_code, (Option.none : Option FieldType), [800, 0, 799, 98, 23]), (⟨"WaterCruise$LineReader", "keyFrom", "(II)I"⟩, prog_6_method_11_code, (Option.some Jvm.ClassFile.FieldType.int : Option FieldType), [811, 0, 810, 98, 25]), (⟨"WaterCruise$LineReader", "isWord", "(Ljava/lang/String;II)Z"⟩, prog_6_method_12_code, (Option.some Jvm.ClassFile.FieldType.boolean : Option FieldType), [816, 0, 815, 98, 26]), (⟨"WaterCruise$LineReader", "signOf", "(I)I"⟩, prog_6_method_13_code, (Option.some Jvm.ClassFile.FieldType.int : Option FieldType), [875, 1, 874, 98, 9999]), (⟨"WaterCruise$LineReader", "isDigit", "(I)Z"⟩, prog_6_method_14_code, (Option.some Jvm.ClassFile.FieldType.boolean : Option FieldType), [792, 1, 791, 98, 9999]), (⟨"WaterCruise$LineReader", "isLetter", "(I)Z"⟩, prog_6_method_15_code, (Option.some Jvm.ClassFile.FieldType.boolean : Option FieldType), [803, 1, 802, 98, 9999]), (⟨"WaterCruise$LineReader", "readLine", "()Z"⟩, prog_6_method_16_code, (Option.some Jvm.ClassFile.FieldType.boolean : Option FieldType), [887, 0, 886, 98, 28]), (⟨"WaterCruise$LineReader", "readOr", "(I)Z"⟩, prog_6_method_17_code, (Option.some Jvm.ClassFile.FieldType.boolean : Option FieldType), [904, 0, 903, 98, 32]), (⟨"WaterCruise$LineReader", "readAnd", "(I)Z"⟩, prog_6_method_18_code, (Option.some Jvm.ClassFile.FieldType.boolean : Option FieldType), [908, 0, 907, 98, 33])]
def Mt2 : List Mrow := [(⟨"WaterCruise$LineReader", "readNot", "(I)Z"⟩, prog_6_method_19_code, (Option.some Jvm.ClassFile.FieldType.boolean : Option FieldType), [912, 0, 911, 98, 34]), (⟨"WaterCruise$LineReader", "readComparison", "()Z"⟩, prog_6_method_20_code, (Option.some Jvm.ClassFile.FieldType.boolean : Option FieldType), [920, 0, 919, 98, 35]), (⟨"WaterCruise$LineReader", "nextKind", "()I"⟩, prog_6_method_21_code, (Option.some Jvm.ClassFile.FieldType.int : Option FieldType), [924, 0, 923, 98, 36]), (⟨"WaterCruise$LineReader", "nextSpot", "()I"⟩, prog_6_method_22_code, (Option.some Jvm.ClassFile.FieldType.int : Option FieldType), [899, 0, 898, 98, 31]), (⟨"WaterCruise$LineReader", "nextNumber", "()I"⟩, prog_6_method_23_code, (Option.some Jvm.ClassFile.FieldType.int : Option FieldType), [895, 0, 894, 98, 30]), (⟨"WaterCruise$LineReader", "isNext", "(I)Z"⟩, prog_6_method_24_code, (Option.some Jvm.ClassFile.FieldType.boolean : Option FieldType), [883, 0, 882, 98, 27]), (⟨"WaterCruise$LineReader", "accept", "(I)Z"⟩, prog_6_method_25_code, (Option.some Jvm.ClassFile.FieldType.boolean : Option FieldType), [891, 0, 890, 98, 29]), (⟨"WaterCruise$Lines", "<init>", "()V"⟩, prog_7_method_1_code, (Option.none : Option FieldType), [199, 0, 198, 99, 9999]), (⟨"WaterCruise$Lines", "clear", "()V"⟩, prog_7_method_2_code, (Option.none : Option FieldType), [879, 0, 877, 99, 878]), (⟨"WaterCruise$Lines", "comparison", "(IZI)I"⟩, prog_7_method_3_code, (Option.some Jvm.ClassFile.FieldType.int : Option FieldType), [927, 1, 926, 99, 9999]), (⟨"WaterCruise$Lines", "putStep", "(I)V"⟩, prog_7_method_4_code, (Option.none : Option FieldType), [916, 0, 914, 99, 915]), (⟨"WaterCruise$Lines", "endLine", "(I)V"⟩, prog_7_method_5_code, (Option.none : Option FieldType), [931, 0, 929, 99, 930]), (⟨"WaterCruise$Lines", "firstHolding", "([I)I"⟩, prog_7_method_6_code, (Option.some Jvm.ClassFile.FieldType.int : Option FieldType), [674, 0, 672, 99, 673]), (⟨"WaterCruise$Lines", "holds", "(II[I)Z"⟩, prog_7_method_7_code, (Option.some Jvm.ClassFile.FieldType.boolean : Option FieldType), [678, 0, 677, 99, 16]), (⟨"WaterCruise$Lines", "compares", "(I[I)Z"⟩, prog_7_method_8_code, (Option.some Jvm.ClassFile.FieldType.boolean : Option FieldType), [681, 1, 680, 99, 9999]), (⟨"WaterCruise$Planner", "<init>", "()V"⟩, prog_8_method_1_code, (Option.none : Option FieldType), [129, 0, 128, 97, 9999])]
def Mt3 : List Mrow := [(⟨"WaterCruise$Planner", "clear", "(I)V"⟩, prog_8_method_2_code, (Option.none : Option FieldType), [495, 0, 493, 97, 494]), (⟨"WaterCruise$Planner", "tell", "(ILWaterCruise$Station;I[Z)V"⟩, prog_8_method_3_code, (Option.none : Option FieldType), [510, 0, 508, 97, 509]), (⟨"WaterCruise$Planner", "tellWay", "(III)V"⟩, prog_8_method_4_code, (Option.none : Option FieldType), [519, 0, 517, 97, 518]), (⟨"WaterCruise$Planner", "search", "()V"⟩, prog_8_method_5_code, (Option.none : Option FieldType), [524, 0, 522, 97, 523]), (⟨"WaterCruise$Planner", "goOn", "(IIIII)V"⟩, prog_8_method_6_code, (Option.none : Option FieldType), [528, 0, 527, 97, 9]), (⟨"WaterCruise$Planner", "firstHour", "(II)I"⟩, prog_8_method_7_code, (Option.some Jvm.ClassFile.FieldType.int : Option FieldType), [536, 0, 535, 97, 11]), (⟨"WaterCruise$Planner", "keep", "(III)V"⟩, prog_8_method_8_code, (Option.none : Option FieldType), [532, 0, 531, 97, 10]), (⟨"WaterCruise$Sample", "<init>", "(III)V"⟩, prog_9_method_1_code, (Option.none : Option FieldType), [685, 0, 684, 112, 9999]), (⟨"WaterCruise$Sheet", "<init>", "()V"⟩, prog_10_method_1_code, (Option.none : Option FieldType), [284, 0, 283, 102, 9999]), (⟨"WaterCruise$Sheet", "has", "(I)Z"⟩, prog_10_method_2_code, (Option.some Jvm.ClassFile.FieldType.boolean : Option FieldType), [980, 0, 978, 102, 979]), (⟨"WaterCruise$Sheet", "refusalAs", "(I)I"⟩, prog_10_method_3_code, (Option.some Jvm.ClassFile.FieldType.int : Option FieldType), [988, 0, 986, 102, 987]), (⟨"WaterCruise$Station", "<init>", "(IIII)V"⟩, prog_11_method_1_code, (Option.none : Option FieldType), [368, 0, 367, 104, 9999]), (⟨"WaterCruise$Station", "hoursFrom", "(III)I"⟩, prog_11_method_2_code, (Option.some Jvm.ClassFile.FieldType.int : Option FieldType), [479, 0, 477, 104, 478]), (⟨"WaterCruise$Station", "lightSuits", "(I)Z"⟩, prog_11_method_3_code, (Option.some Jvm.ClassFile.FieldType.boolean : Option FieldType), [514, 0, 512, 104, 513]), (⟨"WaterCruise", "<init>", "()V"⟩, prog_1_method_1_code, (Option.none : Option FieldType), [119, 0, 118, 96, 9999]), (⟨"WaterCruise", "station", "(IIII)I"⟩, prog_1_method_2_code, (Option.some Jvm.ClassFile.FieldType.int : Option FieldType), [357, 0, 355, 96, 356])]
def Mt4 : List Mrow := [(⟨"WaterCruise", "window", "(IIII)I"⟩, prog_1_method_3_code, (Option.some Jvm.ClassFile.FieldType.int : Option FieldType), [418, 0, 416, 96, 417]), (⟨"WaterCruise", "ahead", "(II)I"⟩, prog_1_method_4_code, (Option.some Jvm.ClassFile.FieldType.int : Option FieldType), [426, 0, 424, 96, 425]), (⟨"WaterCruise", "fit", "(IIZ)I"⟩, prog_1_method_5_code, (Option.some Jvm.ClassFile.FieldType.int : Option FieldType), [430, 0, 428, 96, 429]), (⟨"WaterCruise", "speed", "(I)I"⟩, prog_1_method_6_code, (Option.some Jvm.ClassFile.FieldType.int : Option FieldType), [438, 0, 436, 96, 437]), (⟨"WaterCruise", "stationTold", "(II)I"⟩, prog_1_method_7_code, (Option.some Jvm.ClassFile.FieldType.int : Option FieldType), [442, 0, 440, 96, 441]), (⟨"WaterCruise", "plan", "(I)I"⟩, prog_1_method_8_code, (Option.some Jvm.ClassFile.FieldType.int : Option FieldType), [487, 0, 485, 96, 486]), (⟨"WaterCruise", "planned", "(II)I"⟩, prog_1_method_9_code, (Option.some Jvm.ClassFile.FieldType.int : Option FieldType), [540, 0, 538, 96, 539]), (⟨"WaterCruise", "planChanged", "(I)I"⟩, prog_1_method_10_code, (Option.some Jvm.ClassFile.FieldType.int : Option FieldType), [410, 0, 409, 96, 1]), (⟨"WaterCruise", "workOutPlan", "()V"⟩, prog_1_method_11_code, (Option.none : Option FieldType), [491, 0, 490, 96, 8]), (⟨"WaterCruise", "hoursLasting", "(I)I"⟩, prog_1_method_12_code, (Option.some Jvm.ClassFile.FieldType.int : Option FieldType), [447, 0, 446, 96, 5]), (⟨"WaterCruise", "hoursFromNearest", "(I)I"⟩, prog_1_method_13_code, (Option.some Jvm.ClassFile.FieldType.int : Option FieldType), [471, 0, 470, 96, 6]), (⟨"WaterCruise", "hoursBetween", "(II)I"⟩, prog_1_method_14_code, (Option.some Jvm.ClassFile.FieldType.int : Option FieldType), [475, 0, 474, 96, 7]), (⟨"WaterCruise", "fitCount", "()I"⟩, prog_1_method_15_code, (Option.some Jvm.ClassFile.FieldType.int : Option FieldType), [434, 0, 433, 96, 4]), (⟨"WaterCruise", "cast", "(III)I"⟩, prog_1_method_16_code, (Option.some Jvm.ClassFile.FieldType.int : Option FieldType), [544, 0, 542, 96, 543]), (⟨"WaterCruise", "bottle", "(II)I"⟩, prog_1_method_17_code, (Option.some Jvm.ClassFile.FieldType.int : Option FieldType), [607, 0, 605, 96, 606]), (⟨"WaterCruise", "fail", "(II)I"⟩, prog_1_method_18_code, (Option.some Jvm.ClassFile.FieldType.int : Option FieldType), [649, 0, 647, 96, 648])]
def Mt5 : List Mrow := [(⟨"WaterCruise", "does", "(I)I"⟩, prog_1_method_19_code, (Option.some Jvm.ClassFile.FieldType.int : Option FieldType), [654, 0, 652, 96, 653]), (⟨"WaterCruise", "rest", "(I)I"⟩, prog_1_method_20_code, (Option.some Jvm.ClassFile.FieldType.int : Option FieldType), [724, 0, 722, 96, 723]), (⟨"WaterCruise", "takeUp", "(I)I"⟩, prog_1_method_21_code, (Option.some Jvm.ClassFile.FieldType.int : Option FieldType), [728, 0, 726, 96, 727]), (⟨"WaterCruise", "castTold", "(II)I"⟩, prog_1_method_22_code, (Option.some Jvm.ClassFile.FieldType.int : Option FieldType), [736, 0, 734, 96, 735]), (⟨"WaterCruise", "bottleTold", "(III)I"⟩, prog_1_method_23_code, (Option.some Jvm.ClassFile.FieldType.int : Option FieldType), [740, 0, 738, 96, 739]), (⟨"WaterCruise", "leftCount", "()I"⟩, prog_1_method_24_code, (Option.some Jvm.ClassFile.FieldType.int : Option FieldType), [732, 0, 731, 96, 18]), (⟨"WaterCruise", "hand", "(I)I"⟩, prog_1_method_25_code, (Option.some Jvm.ClassFile.FieldType.int : Option FieldType), [744, 0, 742, 96, 743]), (⟨"WaterCruise", "feed", "(IJ)I"⟩, prog_1_method_26_code, (Option.some Jvm.ClassFile.FieldType.int : Option FieldType), [764, 0, 762, 96, 763]), (⟨"WaterCruise", "lines", "(I)I"⟩, prog_1_method_27_code, (Option.some Jvm.ClassFile.FieldType.int : Option FieldType), [773, 0, 771, 96, 772]), (⟨"WaterCruise", "fault", "(I)I"⟩, prog_1_method_28_code, (Option.some Jvm.ClassFile.FieldType.int : Option FieldType), [940, 0, 938, 96, 939]), (⟨"WaterCruise", "lineCount", "()I"⟩, prog_1_method_29_code, (Option.some Jvm.ClassFile.FieldType.int : Option FieldType), [1020, 0, 1019, 96, 40]), (⟨"WaterCruise", "use", "(IZ)I"⟩, prog_1_method_30_code, (Option.some Jvm.ClassFile.FieldType.int : Option FieldType), [944, 0, 942, 96, 943]), (⟨"WaterCruise", "sample", "(II)I"⟩, prog_1_method_31_code, (Option.some Jvm.ClassFile.FieldType.int : Option FieldType), [956, 0, 954, 96, 955]), (⟨"WaterCruise", "box", "(II)I"⟩, prog_1_method_32_code, (Option.some Jvm.ClassFile.FieldType.int : Option FieldType), [960, 0, 958, 96, 959]), (⟨"WaterCruise", "water", "(II)I"⟩, prog_1_method_33_code, (Option.some Jvm.ClassFile.FieldType.int : Option FieldType), [964, 0, 962, 96, 963]), (⟨"WaterCruise", "partWater", "(LWaterCruise$Cast;I)V"⟩, prog_1_method_34_code, (Option.none : Option FieldType), [662, 0, 661, 96, 13])]
def Mt6 : List Mrow := [(⟨"WaterCruise", "takeWater", "(LWaterCruise$Cast;II)V"⟩, prog_1_method_35_code, (Option.none : Option FieldType), [666, 0, 665, 96, 14]), (⟨"WaterCruise", "firstFreePlace", "()I"⟩, prog_1_method_36_code, (Option.some Jvm.ClassFile.FieldType.int : Option FieldType), [720, 0, 719, 96, 17]), (⟨"WaterCruise", "keptCount", "()I"⟩, prog_1_method_37_code, (Option.some Jvm.ClassFile.FieldType.int : Option FieldType), [952, 0, 951, 96, 38]), (⟨"WaterCruise", "sheet", "(III)I"⟩, prog_1_method_38_code, (Option.some Jvm.ClassFile.FieldType.int : Option FieldType), [968, 0, 966, 96, 967]), (⟨"WaterCruise", "cell", "(III)I"⟩, prog_1_method_39_code, (Option.some Jvm.ClassFile.FieldType.int : Option FieldType), [976, 0, 974, 96, 975]), (⟨"WaterCruise", "none", "(II)I"⟩, prog_1_method_40_code, (Option.some Jvm.ClassFile.FieldType.int : Option FieldType), [984, 0, 982, 96, 983]), (⟨"WaterCruise", "readings", "(II)I"⟩, prog_1_method_41_code, (Option.some Jvm.ClassFile.FieldType.int : Option FieldType), [992, 0, 990, 96, 991]), (⟨"WaterCruise", "mean", "(IIII)I"⟩, prog_1_method_42_code, (Option.some Jvm.ClassFile.FieldType.int : Option FieldType), [999, 0, 997, 96, 998]), (⟨"WaterCruise", "count", "(I)I"⟩, prog_1_method_43_code, (Option.some Jvm.ClassFile.FieldType.int : Option FieldType), [1016, 0, 1014, 96, 1015]), (⟨"WaterCruise", "act", "(III)I"⟩, prog_1_method_44_code, (Option.some Jvm.ClassFile.FieldType.int : Option FieldType), [1024, 0, 1022, 96, 1023]), (⟨"WaterCruise", "trace", "(I)I"⟩, prog_1_method_45_code, (Option.some Jvm.ClassFile.FieldType.int : Option FieldType), [1048, 0, 1046, 96, 1047]), (⟨"WaterCruise", "forge", "(III)I"⟩, prog_1_method_46_code, (Option.some Jvm.ClassFile.FieldType.int : Option FieldType), [1052, 0, 1050, 96, 1051]), (⟨"WaterCruise", "status", "()I"⟩, prog_1_method_47_code, (Option.some Jvm.ClassFile.FieldType.int : Option FieldType), [1075, 0, 1073, 96, 1074]), (⟨"WaterCruise", "forgeKind", "(ILWaterCruise$Cast;)I"⟩, prog_1_method_48_code, (Option.some Jvm.ClassFile.FieldType.int : Option FieldType), [1059, 0, 1058, 96, 43]), (⟨"WaterCruise", "forgeShort", "(ILWaterCruise$Sheet;)I"⟩, prog_1_method_49_code, (Option.some Jvm.ClassFile.FieldType.int : Option FieldType), [1063, 0, 1062, 96, 44]), (⟨"WaterCruise", "forgeCopy", "(ILWaterCruise$Sheet;)I"⟩, prog_1_method_50_code, (Option.some Jvm.ClassFile.FieldType.int : Option FieldType), [1067, 0, 1066, 96, 45])]
def Mt7 : List Mrow := [(⟨"WaterCruise", "forgeCoreRow", "(LWaterCruise$Cast;)I"⟩, prog_1_method_51_code, (Option.some Jvm.ClassFile.FieldType.int : Option FieldType), [1071, 0, 1070, 96, 46]), (⟨"WaterCruise", "done", "(I)I"⟩, prog_1_method_52_code, (Option.some Jvm.ClassFile.FieldType.int : Option FieldType), [414, 0, 413, 96, 2]), (⟨"WaterCruise", "refused", "(I)I"⟩, prog_1_method_53_code, (Option.some Jvm.ClassFile.FieldType.int : Option FieldType), [364, 0, 363, 96, 0]), (⟨"WaterCruise", "stationAt", "(I)LWaterCruise$Station;"⟩, prog_1_method_54_code, (Option.some (Jvm.ClassFile.FieldType.object "WaterCruise$Station") : Option FieldType), [422, 0, 421, 96, 3]), (⟨"WaterCruise", "castAt", "(I)LWaterCruise$Cast;"⟩, prog_1_method_55_code, (Option.some (Jvm.ClassFile.FieldType.object "WaterCruise$Cast") : Option FieldType), [611, 0, 610, 96, 12]), (⟨"WaterCruise", "handAt", "(I)LWaterCruise$Hand;"⟩, prog_1_method_56_code, (Option.some (Jvm.ClassFile.FieldType.object "WaterCruise$Hand") : Option FieldType), [670, 0, 669, 96, 15]), (⟨"WaterCruise", "sampleAt", "(I)LWaterCruise$Sample;"⟩, prog_1_method_57_code, (Option.some (Jvm.ClassFile.FieldType.object "WaterCruise$Sample") : Option FieldType), [948, 0, 947, 96, 37]), (⟨"WaterCruise", "sheetAt", "(I)LWaterCruise$Sheet;"⟩, prog_1_method_58_code, (Option.some (Jvm.ClassFile.FieldType.object "WaterCruise$Sheet") : Option FieldType), [972, 0, 971, 96, 39]), (⟨"WaterCruise", "bottleAt", "(LWaterCruise$Cast;I)LWaterCruise$Bottle;"⟩, prog_1_method_59_code, (Option.some (Jvm.ClassFile.FieldType.object "WaterCruise$Bottle") : Option FieldType), [618, 1, 617, 96, 9999]), (⟨"WaterCruise", "within", "(III)Z"⟩, prog_1_method_60_code, (Option.some Jvm.ClassFile.FieldType.boolean : Option FieldType), [360, 1, 359, 96, 9999]), (⟨"WaterCruise", "roundedUp", "(II)I"⟩, prog_1_method_61_code, (Option.some Jvm.ClassFile.FieldType.int : Option FieldType), [463, 1, 462, 96, 9999]), (⟨"WaterCruise", "isUnder", "(II)Z"⟩, prog_1_method_62_code, (Option.some Jvm.ClassFile.FieldType.boolean : Option FieldType), [547, 1, 546, 96, 9999]), (⟨"WaterCruise", "kindAbove", "(I)I"⟩, prog_1_method_63_code, (Option.some Jvm.ClassFile.FieldType.int : Option FieldType), [550, 1, 549, 96, 9999]), (⟨"WaterCruise", "commonDivisor", "(II)I"⟩, prog_1_method_64_code, (Option.some Jvm.ClassFile.FieldType.int : Option FieldType), [1012, 1, 1011, 96, 9999]), (⟨"WaterCruiseModel", "<init>", "()V"⟩, prog_13_method_1_code, (Option.none : Option FieldType), [1080, 0, 1079, 103, 9999]), (⟨"WaterCruiseModel", "in", "(III)Z"⟩, prog_13_method_2_code, (Option.some Jvm.ClassFile.FieldType.boolean : Option FieldType), [1296, 1, 1295, 103, 9999])]
def Mt8 : List Mrow := [(⟨"WaterCruiseModel", "refused", "(I)I"⟩, prog_13_method_3_code, (Option.some Jvm.ClassFile.FieldType.int : Option FieldType), [1300, 0, 1299, 103, 47]), (⟨"WaterCruiseModel", "done", "(I)I"⟩, prog_13_method_4_code, (Option.some Jvm.ClassFile.FieldType.int : Option FieldType), [1308, 0, 1307, 103, 49]), (⟨"WaterCruiseModel", "changed", "(I)I"⟩, prog_13_method_5_code, (Option.some Jvm.ClassFile.FieldType.int : Option FieldType), [1304, 0, 1303, 103, 48]), (⟨"WaterCruiseModel", "isStation", "(I)Z"⟩, prog_13_method_6_code, (Option.some Jvm.ClassFile.FieldType.boolean : Option FieldType), [1316, 0, 1315, 103, 50]), (⟨"WaterCruiseModel", "isCast", "(I)Z"⟩, prog_13_method_7_code, (Option.some Jvm.ClassFile.FieldType.boolean : Option FieldType), [1344, 0, 1343, 103, 52]), (⟨"WaterCruiseModel", "isHand", "(I)Z"⟩, prog_13_method_8_code, (Option.some Jvm.ClassFile.FieldType.boolean : Option FieldType), [1365, 0, 1364, 103, 53]), (⟨"WaterCruiseModel", "up", "(II)I"⟩, prog_13_method_9_code, (Option.some Jvm.ClassFile.FieldType.int : Option FieldType), [1454, 1, 1453, 103, 9999]), (⟨"WaterCruiseModel", "station", "(IIII)I"⟩, prog_13_method_10_code, (Option.some Jvm.ClassFile.FieldType.int : Option FieldType), [1293, 0, 1291, 103, 1292]), (⟨"WaterCruiseModel", "window", "(IIII)I"⟩, prog_13_method_11_code, (Option.some Jvm.ClassFile.FieldType.int : Option FieldType), [1312, 0, 1310, 103, 1311]), (⟨"WaterCruiseModel", "ahead", "(II)I"⟩, prog_13_method_12_code, (Option.some Jvm.ClassFile.FieldType.int : Option FieldType), [1320, 0, 1318, 103, 1319]), (⟨"WaterCruiseModel", "fitHours", "()I"⟩, prog_13_method_13_code, (Option.some Jvm.ClassFile.FieldType.int : Option FieldType), [1328, 0, 1327, 103, 51]), (⟨"WaterCruiseModel", "fit", "(IIZ)I"⟩, prog_13_method_14_code, (Option.some Jvm.ClassFile.FieldType.int : Option FieldType), [1324, 0, 1322, 103, 1323]), (⟨"WaterCruiseModel", "speed", "(I)I"⟩, prog_13_method_15_code, (Option.some Jvm.ClassFile.FieldType.int : Option FieldType), [1332, 0, 1330, 103, 1331]), (⟨"WaterCruiseModel", "cast", "(III)I"⟩, prog_13_method_16_code, (Option.some Jvm.ClassFile.FieldType.int : Option FieldType), [1336, 0, 1334, 103, 1335]), (⟨"WaterCruiseModel", "bottle", "(II)I"⟩, prog_13_method_17_code, (Option.some Jvm.ClassFile.FieldType.int : Option FieldType), [1340, 0, 1338, 103, 1339]), (⟨"WaterCruiseModel", "fail", "(II)I"⟩, prog_13_method_18_code, (Option.some Jvm.ClassFile.FieldType.int : Option FieldType), [1348, 0, 1346, 103, 1347])]
def Mt9 : List Mrow := [(⟨"WaterCruiseModel", "hand", "(I)I"⟩, prog_13_method_19_code, (Option.some Jvm.ClassFile.FieldType.int : Option FieldType), [1352, 0, 1350, 103, 1351]), (⟨"WaterCruiseModel", "feed", "(IJ)I"⟩, prog_13_method_20_code, (Option.some Jvm.ClassFile.FieldType.int : Option FieldType), [1356, 0, 1354, 103, 1355]), (⟨"WaterCruiseModel", "byteAt", "(I)I"⟩, prog_13_method_21_code, (Option.some Jvm.ClassFile.FieldType.int : Option FieldType), [1373, 0, 1372, 103, 55]), (⟨"WaterCruiseModel", "isLetter", "(I)Z"⟩, prog_13_method_22_code, (Option.some Jvm.ClassFile.FieldType.boolean : Option FieldType), [1376, 1, 1375, 103, 9999]), (⟨"WaterCruiseModel", "isDigit", "(I)Z"⟩, prog_13_method_23_code, (Option.some Jvm.ClassFile.FieldType.boolean : Option FieldType), [1398, 1, 1397, 103, 9999]), (⟨"WaterCruiseModel", "cannot", "()V"⟩, prog_13_method_24_code, (Option.none : Option FieldType), [1395, 0, 1394, 103, 57]), (⟨"WaterCruiseModel", "next", "()V"⟩, prog_13_method_25_code, (Option.none : Option FieldType), [1369, 0, 1368, 103, 54]), (⟨"WaterCruiseModel", "digits", "()V"⟩, prog_13_method_26_code, (Option.none : Option FieldType), [1402, 0, 1401, 103, 58]), (⟨"WaterCruiseModel", "word", "(III)J"⟩, prog_13_method_27_code, (Option.some Jvm.ClassFile.FieldType.long : Option FieldType), [1391, 1, 1390, 103, 9999]), (⟨"WaterCruiseModel", "three", "(III)I"⟩, prog_13_method_28_code, (Option.some Jvm.ClassFile.FieldType.int : Option FieldType), [1388, 1, 1387, 103, 9999]), (⟨"WaterCruiseModel", "keyOf", "(J)I"⟩, prog_13_method_29_code, (Option.some Jvm.ClassFile.FieldType.int : Option FieldType), [1385, 1, 1384, 103, 9999]), (⟨"WaterCruiseModel", "letters", "()V"⟩, prog_13_method_30_code, (Option.none : Option FieldType), [1380, 0, 1379, 103, 56]), (⟨"WaterCruiseModel", "isKey", "(I)Z"⟩, prog_13_method_31_code, (Option.some Jvm.ClassFile.FieldType.boolean : Option FieldType), [1410, 0, 1409, 103, 60]), (⟨"WaterCruiseModel", "isSign", "(I)Z"⟩, prog_13_method_32_code, (Option.some Jvm.ClassFile.FieldType.boolean : Option FieldType), [1431, 0, 1430, 103, 63]), (⟨"WaterCruiseModel", "need", "(Z)V"⟩, prog_13_method_33_code, (Option.none : Option FieldType), [1414, 0, 1413, 103, 61]), (⟨"WaterCruiseModel", "put", "(III)V"⟩, prog_13_method_34_code, (Option.none : Option FieldType), [1427, 0, 1426, 103, 62])]
def Mt10 : List Mrow := [(⟨"WaterCruiseModel", "or", "(LWaterCruiseModel;)V"⟩, prog_13_method_35_code, (Option.none : Option FieldType), [1417, 1, 1416, 103, 9999]), (⟨"WaterCruiseModel", "and", "(LWaterCruiseModel;)V"⟩, prog_13_method_36_code, (Option.none : Option FieldType), [1420, 1, 1419, 103, 9999]), (⟨"WaterCruiseModel", "not", "(LWaterCruiseModel;)V"⟩, prog_13_method_37_code, (Option.none : Option FieldType), [1423, 1, 1422, 103, 9999]), (⟨"WaterCruiseModel", "compared", "()V"⟩, prog_13_method_38_code, (Option.none : Option FieldType), [1435, 0, 1434, 103, 64]), (⟨"WaterCruiseModel", "readLine", "()V"⟩, prog_13_method_39_code, (Option.none : Option FieldType), [1406, 0, 1405, 103, 59]), (⟨"WaterCruiseModel", "lines", "(I)I"⟩, prog_13_method_40_code, (Option.some Jvm.ClassFile.FieldType.int : Option FieldType), [1361, 0, 1359, 103, 1360]), (⟨"WaterCruiseModel", "fault", "(I)I"⟩, prog_13_method_41_code, (Option.some Jvm.ClassFile.FieldType.int : Option FieldType), [1439, 0, 1437, 103, 1438]), (⟨"WaterCruiseModel", "way", "(I)I"⟩, prog_13_method_42_code, (Option.some Jvm.ClassFile.FieldType.int : Option FieldType), [1451, 0, 1450, 103, 66]), (⟨"WaterCruiseModel", "minutes", "(I)I"⟩, prog_13_method_43_code, (Option.some Jvm.ClassFile.FieldType.int : Option FieldType), [1447, 0, 1446, 103, 65]), (⟨"WaterCruiseModel", "worthOf", "(II)I"⟩, prog_13_method_44_code, (Option.some Jvm.ClassFile.FieldType.int : Option FieldType), [1470, 0, 1469, 103, 70]), (⟨"WaterCruiseModel", "lineHolds", "(III)Z"⟩, prog_13_method_45_code, (Option.some Jvm.ClassFile.FieldType.boolean : Option FieldType), [1466, 0, 1465, 103, 69]), (⟨"WaterCruiseModel", "sampleAt", "(I)I"⟩, prog_13_method_46_code, (Option.some Jvm.ClassFile.FieldType.int : Option FieldType), [1474, 0, 1473, 103, 71]), (⟨"WaterCruiseModel", "takes", "(II)V"⟩, prog_13_method_47_code, (Option.none : Option FieldType), [1462, 0, 1461, 103, 68]), (⟨"WaterCruiseModel", "parted", "(I)V"⟩, prog_13_method_48_code, (Option.none : Option FieldType), [1458, 0, 1457, 103, 67]), (⟨"WaterCruiseModel", "does", "(I)I"⟩, prog_13_method_49_code, (Option.some Jvm.ClassFile.FieldType.int : Option FieldType), [1443, 0, 1441, 103, 1442]), (⟨"WaterCruiseModel", "rest", "(I)I"⟩, prog_13_method_50_code, (Option.some Jvm.ClassFile.FieldType.int : Option FieldType), [1478, 0, 1476, 103, 1477])]
def Mt11 : List Mrow := [(⟨"WaterCruiseModel", "keptMany", "()I"⟩, prog_13_method_51_code, (Option.some Jvm.ClassFile.FieldType.int : Option FieldType), [1486, 0, 1485, 103, 72]), (⟨"WaterCruiseModel", "use", "(IZ)I"⟩, prog_13_method_52_code, (Option.some Jvm.ClassFile.FieldType.int : Option FieldType), [1482, 0, 1480, 103, 1481]), (⟨"WaterCruiseModel", "leftMany", "()I"⟩, prog_13_method_53_code, (Option.some Jvm.ClassFile.FieldType.int : Option FieldType), [1494, 0, 1493, 103, 73]), (⟨"WaterCruiseModel", "takeUp", "(I)I"⟩, prog_13_method_54_code, (Option.some Jvm.ClassFile.FieldType.int : Option FieldType), [1490, 0, 1488, 103, 1489]), (⟨"WaterCruiseModel", "readings", "(II)I"⟩, prog_13_method_55_code, (Option.some Jvm.ClassFile.FieldType.int : Option FieldType), [1498, 0, 1496, 103, 1497]), (⟨"WaterCruiseModel", "lasts", "(I)I"⟩, prog_13_method_56_code, (Option.some Jvm.ClassFile.FieldType.int : Option FieldType), [1514, 0, 1513, 103, 76]), (⟨"WaterCruiseModel", "canBegin", "(III)Z"⟩, prog_13_method_57_code, (Option.some Jvm.ClassFile.FieldType.boolean : Option FieldType), [1518, 0, 1517, 103, 77]), (⟨"WaterCruiseModel", "findFirst", "()V"⟩, prog_13_method_58_code, (Option.none : Option FieldType), [1510, 0, 1509, 103, 75]), (⟨"WaterCruiseModel", "sizeOf", "(I)I"⟩, prog_13_method_59_code, (Option.some Jvm.ClassFile.FieldType.int : Option FieldType), [1529, 1, 1528, 103, 9999]), (⟨"WaterCruiseModel", "hours", "(III)I"⟩, prog_13_method_60_code, (Option.some Jvm.ClassFile.FieldType.int : Option FieldType), [1526, 0, 1525, 103, 79]), (⟨"WaterCruiseModel", "fitsRow", "(II)Z"⟩, prog_13_method_61_code, (Option.some Jvm.ClassFile.FieldType.boolean : Option FieldType), [1522, 0, 1521, 103, 78]), (⟨"WaterCruiseModel", "keepRow", "(II)V"⟩, prog_13_method_62_code, (Option.none : Option FieldType), [1537, 0, 1536, 103, 81]), (⟨"WaterCruiseModel", "rowWorth", "(I)I"⟩, prog_13_method_63_code, (Option.some Jvm.ClassFile.FieldType.int : Option FieldType), [1533, 0, 1532, 103, 80]), (⟨"WaterCruiseModel", "findPlan", "()V"⟩, prog_13_method_64_code, (Option.none : Option FieldType), [1506, 0, 1505, 103, 74]), (⟨"WaterCruiseModel", "plan", "(I)I"⟩, prog_13_method_65_code, (Option.some Jvm.ClassFile.FieldType.int : Option FieldType), [1502, 0, 1500, 103, 1501]), (⟨"WaterCruiseModel", "planned", "(II)I"⟩, prog_13_method_66_code, (Option.some Jvm.ClassFile.FieldType.int : Option FieldType), [1541, 0, 1539, 103, 1540])]
def Mt12 : List Mrow := [(⟨"WaterCruiseModel", "nearest", "(I)I"⟩, prog_13_method_67_code, (Option.some Jvm.ClassFile.FieldType.int : Option FieldType), [1550, 0, 1549, 103, 82]), (⟨"WaterCruiseModel", "stationTold", "(II)I"⟩, prog_13_method_68_code, (Option.some Jvm.ClassFile.FieldType.int : Option FieldType), [1545, 0, 1543, 103, 1544]), (⟨"WaterCruiseModel", "castTold", "(II)I"⟩, prog_13_method_69_code, (Option.some Jvm.ClassFile.FieldType.int : Option FieldType), [1554, 0, 1552, 103, 1553]), (⟨"WaterCruiseModel", "bottleTold", "(III)I"⟩, prog_13_method_70_code, (Option.some Jvm.ClassFile.FieldType.int : Option FieldType), [1558, 0, 1556, 103, 1557]), (⟨"WaterCruiseModel", "sample", "(II)I"⟩, prog_13_method_71_code, (Option.some Jvm.ClassFile.FieldType.int : Option FieldType), [1562, 0, 1560, 103, 1561]), (⟨"WaterCruiseModel", "box", "(II)I"⟩, prog_13_method_72_code, (Option.some Jvm.ClassFile.FieldType.int : Option FieldType), [1566, 0, 1564, 103, 1565]), (⟨"WaterCruiseModel", "water", "(II)I"⟩, prog_13_method_73_code, (Option.some Jvm.ClassFile.FieldType.int : Option FieldType), [1570, 0, 1568, 103, 1569]), (⟨"WaterCruiseModel", "divisor", "(II)I"⟩, prog_13_method_74_code, (Option.some Jvm.ClassFile.FieldType.int : Option FieldType), [1578, 1, 1577, 103, 9999]), (⟨"WaterCruiseModel", "mean", "(IIII)I"⟩, prog_13_method_75_code, (Option.some Jvm.ClassFile.FieldType.int : Option FieldType), [1574, 0, 1572, 103, 1573]), (⟨"WaterCruiseModel", "allLines", "()I"⟩, prog_13_method_76_code, (Option.some Jvm.ClassFile.FieldType.int : Option FieldType), [1586, 0, 1585, 103, 83]), (⟨"WaterCruiseModel", "count", "(I)I"⟩, prog_13_method_77_code, (Option.some Jvm.ClassFile.FieldType.int : Option FieldType), [1582, 0, 1580, 103, 1581]), (⟨"WaterCruiseModel", "ran", "(I)V"⟩, prog_13_method_78_code, (Option.none : Option FieldType), [1598, 0, 1597, 103, 85]), (⟨"WaterCruiseModel", "plainDown", "(II)I"⟩, prog_13_method_79_code, (Option.some Jvm.ClassFile.FieldType.int : Option FieldType), [1602, 0, 1601, 103, 86]), (⟨"WaterCruiseModel", "down0", "(II)I"⟩, prog_13_method_80_code, (Option.some Jvm.ClassFile.FieldType.int : Option FieldType), [1594, 0, 1593, 103, 84]), (⟨"WaterCruiseModel", "plainUp", "(II)I"⟩, prog_13_method_81_code, (Option.some Jvm.ClassFile.FieldType.int : Option FieldType), [1614, 0, 1613, 103, 89]), (⟨"WaterCruiseModel", "coreUp", "(II)I"⟩, prog_13_method_82_code, (Option.some Jvm.ClassFile.FieldType.int : Option FieldType), [1610, 0, 1609, 103, 88])]
def Mt13 : List Mrow := [(⟨"WaterCruiseModel", "up0", "(II)I"⟩, prog_13_method_83_code, (Option.some Jvm.ClassFile.FieldType.int : Option FieldType), [1606, 0, 1605, 103, 87]), (⟨"WaterCruiseModel", "shut0", "(II)I"⟩, prog_13_method_84_code, (Option.some Jvm.ClassFile.FieldType.int : Option FieldType), [1618, 0, 1617, 103, 90]), (⟨"WaterCruiseModel", "plainTell", "(II)I"⟩, prog_13_method_85_code, (Option.some Jvm.ClassFile.FieldType.int : Option FieldType), [1626, 0, 1625, 103, 92]), (⟨"WaterCruiseModel", "tell0", "(II)I"⟩, prog_13_method_86_code, (Option.some Jvm.ClassFile.FieldType.int : Option FieldType), [1622, 0, 1621, 103, 91]), (⟨"WaterCruiseModel", "act", "(III)I"⟩, prog_13_method_87_code, (Option.some Jvm.ClassFile.FieldType.int : Option FieldType), [1590, 0, 1588, 103, 1589]), (⟨"WaterCruiseModel", "trace", "(I)I"⟩, prog_13_method_88_code, (Option.some Jvm.ClassFile.FieldType.int : Option FieldType), [1630, 0, 1628, 103, 1629]), (⟨"WaterCruiseModel", "sheet", "(III)I"⟩, prog_13_method_89_code, (Option.some Jvm.ClassFile.FieldType.int : Option FieldType), [1634, 0, 1632, 103, 1633]), (⟨"WaterCruiseModel", "cell", "(III)I"⟩, prog_13_method_90_code, (Option.some Jvm.ClassFile.FieldType.int : Option FieldType), [1638, 0, 1636, 103, 1637]), (⟨"WaterCruiseModel", "none", "(II)I"⟩, prog_13_method_91_code, (Option.some Jvm.ClassFile.FieldType.int : Option FieldType), [1642, 0, 1640, 103, 1641]), (⟨"WaterCruiseModel", "modulo", "(II)I"⟩, prog_13_method_92_code, (Option.some Jvm.ClassFile.FieldType.int : Option FieldType), [1649, 1, 1648, 103, 9999]), (⟨"WaterCruiseModel", "castTaken", "(II)I"⟩, prog_13_method_93_code, (Option.some Jvm.ClassFile.FieldType.int : Option FieldType), [1653, 0, 1652, 103, 93]), (⟨"WaterCruiseModel", "copied", "(II)I"⟩, prog_13_method_94_code, (Option.some Jvm.ClassFile.FieldType.int : Option FieldType), [1657, 0, 1656, 103, 94]), (⟨"WaterCruiseModel", "forge", "(III)I"⟩, prog_13_method_95_code, (Option.some Jvm.ClassFile.FieldType.int : Option FieldType), [1646, 0, 1644, 103, 1645]), (⟨"WaterCruiseModel", "status", "()I"⟩, prog_13_method_96_code, (Option.some Jvm.ClassFile.FieldType.int : Option FieldType), [1661, 0, 1659, 103, 1660]), (⟨"java/lang/Math", "floorMod", "(II)I"⟩, prog_14_method_50_code, (Option.some Jvm.ClassFile.FieldType.int : Option FieldType), [1055, 1, 1054, 113, 9999]), (⟨"java/lang/Math", "abs", "(I)I"⟩, prog_14_method_59_code, (Option.some Jvm.ClassFile.FieldType.int : Option FieldType), [482, 1, 481, 113, 9999])]
def Mt14 : List Mrow := [(⟨"java/lang/Math", "max", "(II)I"⟩, prog_14_method_65_code, (Option.some Jvm.ClassFile.FieldType.int : Option FieldType), [467, 1, 466, 113, 9999]), (⟨"java/lang/Math", "min", "(II)I"⟩, prog_14_method_69_code, (Option.some Jvm.ClassFile.FieldType.int : Option FieldType), [498, 1, 497, 113, 9999]), (⟨"java/lang/String", "length", "()I"⟩, prog_15_method_54_code, (Option.some Jvm.ClassFile.FieldType.int : Option FieldType), [820, 0, 818, 108, 819]), (⟨"java/lang/String", "charAt", "(I)C"⟩, prog_15_method_56_code, (Option.some Jvm.ClassFile.FieldType.char : Option FieldType), [830, 0, 828, 108, 829]), (⟨"java/lang/String", "coder", "()B"⟩, prog_15_method_152_code, (Option.some Jvm.ClassFile.FieldType.byte : Option FieldType), [824, 0, 822, 108, 823]), (⟨"java/lang/String", "isLatin1", "()Z"⟩, prog_15_method_154_code, (Option.some Jvm.ClassFile.FieldType.boolean : Option FieldType), [834, 0, 832, 108, 833]), (⟨"java/lang/String", "checkIndex", "(II)V"⟩, prog_15_method_155_code, (Option.none : Option FieldType), [840, 1, 839, 108, 9999]), (⟨"java/lang/StringLatin1", "charAt", "([BI)C"⟩, prog_16_method_2_code, (Option.some Jvm.ClassFile.FieldType.char : Option FieldType), [837, 1, 836, 109, 9999]), (⟨"java/util/Arrays", "rangeCheck", "(III)V"⟩, prog_19_method_30_code, (Option.none : Option FieldType), [506, 1, 505, 101, 9999]), (⟨"java/util/Arrays", "fill", "([II)V"⟩, prog_19_method_103_code, (Option.none : Option FieldType), [280, 1, 279, 101, 9999]), (⟨"java/util/Arrays", "fill", "([IIII)V"⟩, prog_19_method_104_code, (Option.none : Option FieldType), [503, 1, 502, 101, 9999]), (⟨"jdk/internal/util/Preconditions", "checkIndex", "(IILjava/util/function/BiFunction;)I"⟩, prog_20_method_11_code, (Option.some Jvm.ClassFile.FieldType.int : Option FieldType), [845, 1, 844, 110, 9999]), (⟨"WaterCruiseLaw", "law", "([I)Z"⟩, code, (ret : Option FieldType), [0, 0, 0, 95, 9999])]
def Mtt : List (List Mrow) := [Mt0, Mt1, Mt2, Mt3, Mt4, Mt5, Mt6, Mt7, Mt8, Mt9, Mt10, Mt11, Mt12, Mt13, Mt14]
def mrw (y : Nat) : Mrow := (Mtt.getD (y / 16) []).getD (y % 16) (⟨"", "", ""⟩, ⟨#[]⟩, none, [])
def mN (y : Nat) : MethodName := (mrw y).1
def mB (y : Nat) : ByteArray := (mrw y).2.1
def mR (y : Nat) : Option FieldType := (mrw y).2.2.1
def mP (y : Nat) : List Nat := (mrw y).2.2.2
def nMeth : Nat := 237
def wd (p : Nat) (w : Cond) : Bool := decide (lw_tbl[p]? = some w) && goodWord w
def wdN (p : Nat) (w : Cond) : Bool := decide (lw_tbl[p]? = some w)
def fpc (y b : Nat) : Nat := match blk y b with
  | [] => 0
  | o :: _ => o.1
def strT : List String := ["take", "when", "and", "or", "not", "station", "depth", "left", "hour"]
def isStat (y : Nat) : Bool := (mP y).getD 1 0 == 1
def npar (y : Nat) : Option Nat := (parseMethodDescriptor (mN y).desc).map (fun d => d.parameters.length)
def iln : Instr → Nat
  | .bipush _ => 2
  | .sipush _ => 3
  | .ldc _ => 2
  | .ldc_w _ => 3
  | .ldc2_w _ => 3
  | .iload _ => 2
  | .lload _ => 2
  | .aload _ => 2
  | .istore _ => 2
  | .lstore _ => 2
  | .astore _ => 2
  | .iinc _ _ => 3
  | .ifCond _ _ => 3
  | .if_icmp _ _ => 3
  | .ifnull _ => 3
  | .ifnonnull _ => 3
  | .goto _ => 3
  | .getfield _ => 3
  | .putfield _ => 3
  | .getstatic _ => 3
  | .new _ => 3
  | .newarray _ => 2
  | .anewarray _ => 3
  | .invokestatic _ => 3
  | .invokevirtual _ => 3
  | .invokespecial _ => 3
  | _ => 1
def stats : List (String × String × String) := [("WaterCruise", "KIND_ABOVE", "[I"), ("WaterCruise", "DEPTH_A_MINUTE", "[I"), ("WaterCruise", "MINUTES_MORE", "[I"), ("WaterCruise$Acts", "BODIES", "[I"), ("java/lang/String", "COMPACT_STRINGS", "Z"), ("jdk/internal/util/Preconditions", "SIOOBE_FORMATTER", "Ljava/util/function/BiFunction;")]
def statT : List Nat := [2, 2, 2, 2, 1, 2]
def lkc (y pc : Nat) (i : Instr) (lk : List Nat) (z : Int) : Bool := match i with
  | .ifCond _ o => (match lk with | [b] => decide ((pc : Int) + o = (fpc y b : Int)) && decide (b < (mth y).1.length) | _ => false)
  | .if_icmp _ o => (match lk with | [b] => decide ((pc : Int) + o = (fpc y b : Int)) && decide (b < (mth y).1.length) | _ => false)
  | .ifnull o => (match lk with | [b] => decide ((pc : Int) + o = (fpc y b : Int)) && decide (b < (mth y).1.length) | _ => false)
  | .ifnonnull o => (match lk with | [b] => decide ((pc : Int) + o = (fpc y b : Int)) && decide (b < (mth y).1.length) | _ => false)
  | .istore k => decide (k < mxl y)
  | .istore_n k => decide (k.val < mxl y)
  | .astore k => decide (k < mxl y)
  | .astore_n k => decide (k.val < mxl y)
  | .iinc k _ => decide (k < mxl y)
  | .lstore k => decide (k + 1 < mxl y)
  | .lstore_n k => decide (k.val + 1 < mxl y)
  | .ldc n => (match lk with
    | [0, p] => wd p (.constant (mN y).cls n (Int32.ofInt z))
    | [1, a, p] => wdN p (.stringRef (mN y).cls n (strT.getD (a - 10) "")) && decide (10 ≤ a) && decide (a < 19)
    | _ => false)
  | .ldc_w n => (match lk with | [0, p] => wd p (.constant (mN y).cls n (Int32.ofInt z)) | _ => false)
  | .ldc2_w n => (match lk with | [p] => wd p (.constantLong (mN y).cls n (Int64.ofInt z)) | _ => false)
  | .getfield n => (match lk with
    | [f, c, t, p] => if c = 13 then (decide (f = 160) && decide (t = 2) && wd p (.fieldLink (mN y).cls n "java/lang/String" "value" "[B")) || (decide (f = 161) && decide (t = 3) && wd p (.fieldLink (mN y).cls n "java/lang/String" "coder" "B"))
      else decide (1 ≤ c) && decide (c ≤ 12) && decide (fb c ≤ f) && decide (f - fb c < cN c) && decide (ftc f = t) && wd p (.fieldLink (mN y).cls n (cT c (f - fb c)).1 (cT c (f - fb c)).2.1 (cT c (f - fb c)).2.2.1)
    | _ => false)
  | .putfield n => (match lk with
    | [f, c, t, p] => decide (1 ≤ c) && decide (c ≤ 12) && decide (fb c ≤ f) && decide (f - fb c < cN c) && decide (ftc f = t) && wd p (.fieldLink (mN y).cls n (cT c (f - fb c)).1 (cT c (f - fb c)).2.1 (cT c (f - fb c)).2.2.1) && ((cT c (f - fb c)).2.2.2 == false || (decide ((mN y).name = "<init>") && decide ((cT c (f - fb c)).1 = (mN y).cls)))
    | _ => false)
  | .getstatic n => (match lk with
    | [f, t, p, q] => decide (200 ≤ f) && decide (f < 206) && decide (statT.getD (f - 200) 9 = t) && (match stats.getD (f - 200) ("", "", "") with | (C, nm, d) => if q = 0 then wd p (.fieldLink (mN y).cls n C nm d) else wdN p (.fieldLinkNest (mN y).cls n C nm d "WaterCruise"))
    | _ => false)
  | .new n => (match lk with
    | [c, j, p] => decide (1 ≤ c) && decide (c ≤ 12) && decide (j = cN c) && wd p (.classLink (mN y).cls n (cnm c))
    | _ => false)
  | .newarray t => (match lk with
    | [k] => (decide (t = .int) && decide (k = 100)) || (decide (t = .boolean) && decide (k = 101))
    | _ => false)
  | .anewarray n => (match lk with
    | [k, p] => decide (k ∈ [302, 303, 304, 308, 309, 310]) && wd p (.classLink (mN y).cls n (cnm (k - 300)))
    | _ => false)
  | .invokestatic n => (match lk with
    | [_, p] => wd p (.methodLink (mN y).cls n arraycopyName)
    | [y2, k, _, p, q] => decide (y2 < nMeth - 1) && isStat y2 && decide (npar y2 = some k) && (if q = 0 then wd p (.methodLink (mN y).cls n (mN y2)) else wdN p (.methodLinkNest (mN y).cls n (mN y2) "WaterCruise"))
    | _ => false)
  | .invokevirtual n => (match lk with
    | [y2, k, c, p, q] => decide (y2 < nMeth - 1) && !isStat y2 && decide (0 < k) && decide (npar y2 = some (k - 1)) && (decide (c = 13) && decide ((mN y2).cls = "java/lang/String") || decide (1 ≤ c) && decide (c ≤ 12) && decide ((mN y2).cls = cnm c)) && decide ((mP y2).getD 4 9999 < 9999) && (q == 0 && wd p (.methodLink (mN y).cls n (mN y2)))
    | _ => false)
  | .invokespecial n => (match lk with
    | [_, p] => wd p (.methodLink (mN y).cls n Lib.objectInit)
    | [y2, k, c, p, q] => decide (y2 < nMeth - 1) && !isStat y2 && decide (0 < k) && decide (npar y2 = some (k - 1)) && decide (1 ≤ c) && decide (c ≤ 12) && decide ((mN y2).name = "<init>") && decide (mR y2 = none) && (if q = 0 then wd p (.methodLink (mN y).cls n (mN y2)) else wdN p (.methodLinkNest (mN y).cls n (mN y2) "WaterCruise"))
    | _ => false)
  | .nop => false
  | .goto _ => false
  | .athrow => false
  | .tableswitch _ _ _ _ => false
  | .lookupswitch _ _ => false
  | .ireturn => false
  | .areturn => false
  | .lreturn => false
  | .return_ => false
  | _ => true
def rtc : Option FieldType → Nat
  | some .int => 0
  | some .boolean => 1
  | some .byte => 3
  | some .char => 4
  | some .long => 5
  | some (.object _) => 2
  | some (.array _) => 2
  | _ => 9
def tgts (y pc : Nat) : List Int → List Nat → Bool
  | [], [] => true
  | o :: os, b :: bs => decide ((pc : Int) + o = (fpc y b : Int)) && decide (b < (mth y).1.length) && tgts y pc os bs
  | _, _ => false
def dcl (y pc : Nat) (i : Instr) : Bool := match decode (mB y) pc with
  | .ok (j, _) => decide (j = i)
  | _ => false
/-- the last of a block -/
def chkT (y pc : Nat) (i : Instr) (lk : List Nat) : Bool := match i with
  | .nop => (match lk with | [b] => decide (pc = fpc y b) && decide (b < (mth y).1.length) | _ => false)
  | .athrow => true
  | .goto o => (match lk with | [b] => decide (decode (mB y) pc = .ok (.goto o, 3)) && decide ((pc : Int) + o = (fpc y b : Int)) && decide (b < (mth y).1.length) | _ => false)
  | .tableswitch o lo hi os => (match lk with | df :: bs => dcl y pc i && decide ((pc : Int) + o = (fpc y df : Int)) && decide (df < (mth y).1.length) && tgts y pc os.toList bs && decide (hi - lo + 1 = (bs.length : Int)) | _ => false)
  | .lookupswitch o ps => (match lk with | df :: bs => dcl y pc i && decide ((pc : Int) + o = (fpc y df : Int)) && decide (df < (mth y).1.length) && tgts y pc (ps.toList.map (fun q => q.2)) bs && (ps.toList.zip (ps.toList.drop 1)).all (fun (a, next) => a.1 < next.1) | _ => false)
  | .ireturn => decide (decode (mB y) pc = .ok (.ireturn, 1)) && decide (lk = [rtc (mR y)]) && decide (rtc (mR y) ∈ [0, 1, 3, 4])
  | .lreturn => decide (decode (mB y) pc = .ok (.lreturn, 1)) && decide (rtc (mR y) = 5)
  | .areturn => decide (decode (mB y) pc = .ok (.areturn, 1)) && decide (rtc (mR y) = 2)
  | .return_ => decide (decode (mB y) pc = .ok (.return_, 1)) && decide (mR y = none)
  | _ => false
def chkS (y pc : Nat) (i : Instr) (lk : List Nat) (z : Int) (pc2 : Nat) : Bool := decide (decode (mB y) pc = .ok (i, iln i)) && decide (pc2 = pc + iln i) && lkc y pc i lk z
def chkL (y : Nat) : List Op → Bool
  | [] => false
  | (pc, i, lk, z) :: l => (match l with
    | [] => chkT y pc i lk
    | o :: _ => chkS y pc i lk z o.1) && (l.isEmpty || chkL y l)
def chkM (y : Nat) : Bool := (mth y).1.all (chkL y)
