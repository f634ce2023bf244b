/-! TABLES of the abstract machine, written by wip/whole/gen03.py out of the Statement: classes, fields, statics, and what each resolved instruction claims of the bytes (zok). -/
def zT0 : u_T := fun k => match k with
  | 0 => ("LoftPost", "reader", "LLoftPost$Reader;", true)
  | 1 => ("LoftPost", "latestErrorAt", "I", false)
  | 2 => ("LoftPost", "now", "LLoftPost$World;", false)
  | _ => ("LoftPost", "spare", "LLoftPost$World;", false)
def zt0 : Nat → FieldType := fun k => match k with
  | 0 => .object "LoftPost$Reader"
  | 1 => .int
  | 2 => .object "LoftPost$World"
  | _ => .object "LoftPost$World"
def zT1 : u_T := fun k => match k with
  | 0 => ("LoftPost$Reader", "tape", "LLoftPost$Tape;", true)
  | 1 => ("LoftPost$Reader", "loftNames", "[I", true)
  | 2 => ("LoftPost$Reader", "pigeonNames", "[I", true)
  | 3 => ("LoftPost$Reader", "letterNames", "[I", true)
  | 4 => ("LoftPost$Reader", "at", "I", false)
  | 5 => ("LoftPost$Reader", "error", "I", false)
  | 6 => ("LoftPost$Reader", "errorPosition", "I", false)
  | 7 => ("LoftPost$Reader", "value", "I", false)
  | 8 => ("LoftPost$Reader", "spotX", "I", false)
  | _ => ("LoftPost$Reader", "spotY", "I", false)
def zt1 : Nat → FieldType := fun k => match k with
  | 0 => .object "LoftPost$Tape"
  | 1 => .array .int
  | 2 => .array .int
  | 3 => .array .int
  | 4 => .int
  | 5 => .int
  | 6 => .int
  | 7 => .int
  | 8 => .int
  | _ => .int
def zT2 : u_T := fun k => match k with
  | 0 => ("LoftPost$Tape", "bytes", "[B", true)
  | 1 => ("LoftPost$Tape", "length", "I", false)
  | 2 => ("LoftPost$Tape", "kinds", "[LLoftPost$Kind;", true)
  | 3 => ("LoftPost$Tape", "starts", "[I", true)
  | 4 => ("LoftPost$Tape", "sizes", "[I", true)
  | _ => ("LoftPost$Tape", "tokens", "I", false)
def zt2 : Nat → FieldType := fun k => match k with
  | 0 => .array .byte
  | 1 => .int
  | 2 => .array (.object "LoftPost$Kind")
  | 3 => .array .int
  | 4 => .array .int
  | _ => .int
def zT3 : u_T := fun k => match k with
  | 0 => ("LoftPost$World", "lofts", "[LLoftPost$Loft;", true)
  | 1 => ("LoftPost$World", "pigeons", "[LLoftPost$Pigeon;", true)
  | 2 => ("LoftPost$World", "hawks", "[LLoftPost$Hawk;", true)
  | 3 => ("LoftPost$World", "letters", "[LLoftPost$Letter;", true)
  | 4 => ("LoftPost$World", "loftCount", "I", false)
  | 5 => ("LoftPost$World", "pigeonCount", "I", false)
  | 6 => ("LoftPost$World", "hawkCount", "I", false)
  | 7 => ("LoftPost$World", "letterCount", "I", false)
  | 8 => ("LoftPost$World", "hour", "I", false)
  | _ => ("LoftPost$World", "tooMany", "I", false)
def zt3 : Nat → FieldType := fun k => match k with
  | 0 => .array (.object "LoftPost$Loft")
  | 1 => .array (.object "LoftPost$Pigeon")
  | 2 => .array (.object "LoftPost$Hawk")
  | 3 => .array (.object "LoftPost$Letter")
  | 4 => .int
  | 5 => .int
  | 6 => .int
  | 7 => .int
  | 8 => .int
  | _ => .int
def zT4 : u_T := fun k => match k with
  | 0 => ("LoftPost$Loft", "spotXs", "[I", true)
  | 1 => ("LoftPost$Loft", "spotYs", "[I", true)
  | 2 => ("LoftPost$Loft", "spots", "I", false)
  | 3 => ("LoftPost$Loft", "x", "I", false)
  | 4 => ("LoftPost$Loft", "y", "I", false)
  | 5 => ("LoftPost$Loft", "speed", "I", false)
  | _ => ("LoftPost$Loft", "next", "I", false)
def zt4 : Nat → FieldType := fun k => match k with
  | 0 => .array .int
  | 1 => .array .int
  | 2 => .int
  | 3 => .int
  | 4 => .int
  | 5 => .int
  | _ => .int
def zT5 : u_T := fun k => match k with
  | 0 => ("LoftPost$Pigeon", "state", "I", false)
  | 1 => ("LoftPost$Pigeon", "home", "I", false)
  | 2 => ("LoftPost$Pigeon", "cage", "I", false)
  | 3 => ("LoftPost$Pigeon", "speed", "I", false)
  | 4 => ("LoftPost$Pigeon", "sight", "I", false)
  | 5 => ("LoftPost$Pigeon", "x", "I", false)
  | 6 => ("LoftPost$Pigeon", "y", "I", false)
  | 7 => ("LoftPost$Pigeon", "aimX", "I", false)
  | 8 => ("LoftPost$Pigeon", "aimY", "I", false)
  | 9 => ("LoftPost$Pigeon", "searched", "I", false)
  | 10 => ("LoftPost$Pigeon", "letter", "I", false)
  | _ => ("LoftPost$Pigeon", "stage", "I", false)
def zt5 : Nat → FieldType := fun k => match k with
  | 0 => .int
  | 1 => .int
  | 2 => .int
  | 3 => .int
  | 4 => .int
  | 5 => .int
  | 6 => .int
  | 7 => .int
  | 8 => .int
  | 9 => .int
  | 10 => .int
  | _ => .int
def zT6 : u_T := fun k => match k with
  | 0 => ("LoftPost$Hawk", "x", "I", false)
  | 1 => ("LoftPost$Hawk", "y", "I", false)
  | 2 => ("LoftPost$Hawk", "reach", "I", false)
  | 3 => ("LoftPost$Hawk", "rests", "I", false)
  | 4 => ("LoftPost$Hawk", "resting", "I", false)
  | _ => ("LoftPost$Hawk", "caught", "I", false)
def zt6 : Nat → FieldType := fun k => match k with
  | 0 => .int
  | 1 => .int
  | 2 => .int
  | 3 => .int
  | 4 => .int
  | _ => .int
def zT7 : u_T := fun k => match k with
  | 0 => ("LoftPost$Letter", "sizes", "[I", true)
  | 1 => ("LoftPost$Letter", "carriers", "[I", true)
  | 2 => ("LoftPost$Letter", "stages", "I", false)
  | 3 => ("LoftPost$Letter", "loft", "I", false)
  | 4 => ("LoftPost$Letter", "stage", "I", false)
  | 5 => ("LoftPost$Letter", "carriedBy", "I", false)
  | 6 => ("LoftPost$Letter", "sent", "I", false)
  | _ => ("LoftPost$Letter", "arrivalHour", "I", false)
def zt7 : Nat → FieldType := fun k => match k with
  | 0 => .array .int
  | 1 => .array .int
  | 2 => .int
  | 3 => .int
  | 4 => .int
  | 5 => .int
  | 6 => .int
  | _ => .int
def zT8 : u_T := fun k => match k with
  | 0 => ("LoftPostModel", "thrown", "I", false)
  | 1 => ("LoftPostModel", "tape", "[I", true)
  | 2 => ("LoftPostModel", "size", "I", false)
  | 3 => ("LoftPostModel", "errorAt", "I", false)
  | 4 => ("LoftPostModel", "kind", "[I", true)
  | 5 => ("LoftPostModel", "from", "[I", true)
  | 6 => ("LoftPostModel", "many", "[I", true)
  | 7 => ("LoftPostModel", "role", "[I", true)
  | 8 => ("LoftPostModel", "token", "I", false)
  | 9 => ("LoftPostModel", "told", "LLoftPostModel$Told;", false)
  | 10 => ("LoftPostModel", "reading", "LLoftPostModel$Told;", false)
  | 11 => ("LoftPostModel", "s", "LLoftPostModel$State;", true)
  | _ => ("LoftPostModel", "ahead", "LLoftPostModel$State;", true)
def zt8 : Nat → FieldType := fun k => match k with
  | 0 => .int
  | 1 => .array .int
  | 2 => .int
  | 3 => .int
  | 4 => .array .int
  | 5 => .array .int
  | 6 => .array .int
  | 7 => .array .int
  | 8 => .int
  | 9 => .object "LoftPostModel$Told"
  | 10 => .object "LoftPostModel$Told"
  | 11 => .object "LoftPostModel$State"
  | _ => .object "LoftPostModel$State"
def zT9 : u_T := fun k => match k with
  | 0 => ("LoftPostModel$Told", "lofts", "I", false)
  | 1 => ("LoftPostModel$Told", "pigeons", "I", false)
  | 2 => ("LoftPostModel$Told", "hawks", "I", false)
  | 3 => ("LoftPostModel$Told", "letters", "I", false)
  | 4 => ("LoftPostModel$Told", "spots", "[I", true)
  | 5 => ("LoftPostModel$Told", "spotX", "[I", true)
  | 6 => ("LoftPostModel$Told", "spotY", "[I", true)
  | 7 => ("LoftPostModel$Told", "loftSpeed", "[I", true)
  | 8 => ("LoftPostModel$Told", "home", "[I", true)
  | 9 => ("LoftPostModel$Told", "cage", "[I", true)
  | 10 => ("LoftPostModel$Told", "speed", "[I", true)
  | 11 => ("LoftPostModel$Told", "sight", "[I", true)
  | 12 => ("LoftPostModel$Told", "hawkX", "[I", true)
  | 13 => ("LoftPostModel$Told", "hawkY", "[I", true)
  | 14 => ("LoftPostModel$Told", "reach", "[I", true)
  | 15 => ("LoftPostModel$Told", "rests", "[I", true)
  | 16 => ("LoftPostModel$Told", "lies", "[I", true)
  | 17 => ("LoftPostModel$Told", "stages", "[I", true)
  | 18 => ("LoftPostModel$Told", "carriers", "[I", true)
  | _ => ("LoftPostModel$Told", "carrier", "[I", true)
def zt9 : Nat → FieldType := fun k => match k with
  | 0 => .int
  | 1 => .int
  | 2 => .int
  | 3 => .int
  | 4 => .array .int
  | 5 => .array .int
  | 6 => .array .int
  | 7 => .array .int
  | 8 => .array .int
  | 9 => .array .int
  | 10 => .array .int
  | 11 => .array .int
  | 12 => .array .int
  | 13 => .array .int
  | 14 => .array .int
  | 15 => .array .int
  | 16 => .array .int
  | 17 => .array .int
  | 18 => .array .int
  | _ => .array .int
def zT10 : u_T := fun k => match k with
  | 0 => ("LoftPostModel$State", "hour", "I", false)
  | 1 => ("LoftPostModel$State", "surplus", "I", false)
  | 2 => ("LoftPostModel$State", "loftX", "[I", true)
  | 3 => ("LoftPostModel$State", "loftY", "[I", true)
  | 4 => ("LoftPostModel$State", "next", "[I", true)
  | 5 => ("LoftPostModel$State", "how", "[I", true)
  | 6 => ("LoftPostModel$State", "cage", "[I", true)
  | 7 => ("LoftPostModel$State", "x", "[I", true)
  | 8 => ("LoftPostModel$State", "y", "[I", true)
  | 9 => ("LoftPostModel$State", "aimX", "[I", true)
  | 10 => ("LoftPostModel$State", "aimY", "[I", true)
  | 11 => ("LoftPostModel$State", "searched", "[I", true)
  | 12 => ("LoftPostModel$State", "carries", "[I", true)
  | 13 => ("LoftPostModel$State", "ofStage", "[I", true)
  | 14 => ("LoftPostModel$State", "hawkX", "[I", true)
  | 15 => ("LoftPostModel$State", "hawkY", "[I", true)
  | 16 => ("LoftPostModel$State", "left", "[I", true)
  | 17 => ("LoftPostModel$State", "caught", "[I", true)
  | 18 => ("LoftPostModel$State", "lies", "[I", true)
  | 19 => ("LoftPostModel$State", "stage", "[I", true)
  | 20 => ("LoftPostModel$State", "set", "[I", true)
  | 21 => ("LoftPostModel$State", "arrived", "[I", true)
  | 22 => ("LoftPostModel$State", "did", "[I", true)
  | 23 => ("LoftPostModel$State", "without", "I", false)
  | _ => ("LoftPostModel$State", "this$0", "LLoftPostModel;", true)
def zt10 : Nat → FieldType := fun k => match k with
  | 0 => .int
  | 1 => .int
  | 2 => .array .int
  | 3 => .array .int
  | 4 => .array .int
  | 5 => .array .int
  | 6 => .array .int
  | 7 => .array .int
  | 8 => .array .int
  | 9 => .array .int
  | 10 => .array .int
  | 11 => .array .int
  | 12 => .array .int
  | 13 => .array .int
  | 14 => .array .int
  | 15 => .array .int
  | 16 => .array .int
  | 17 => .array .int
  | 18 => .array .int
  | 19 => .array .int
  | 20 => .array .int
  | 21 => .array .int
  | 22 => .array .int
  | 23 => .int
  | _ => .object "LoftPostModel"
def zcl : List vw_C := [("LoftPost", zT0, 4), ("LoftPost$Reader", zT1, 10), ("LoftPost$Tape", zT2, 6), ("LoftPost$World", zT3, 10), ("LoftPost$Loft", zT4, 7), ("LoftPost$Pigeon", zT5, 12), ("LoftPost$Hawk", zT6, 6), ("LoftPost$Letter", zT7, 8), ("LoftPostModel", zT8, 13), ("LoftPostModel$Told", zT9, 20), ("LoftPostModel$State", zT10, 25)]
def zTT (c : Nat) : u_T := match c with
  | 0 => zT0
  | 1 => zT1
  | 2 => zT2
  | 3 => zT3
  | 4 => zT4
  | 5 => zT5
  | 6 => zT6
  | 7 => zT7
  | 8 => zT8
  | 9 => zT9
  | _ => zT10
def ztt (c : Nat) : Nat → FieldType := match c with
  | 0 => zt0
  | 1 => zt1
  | 2 => zt2
  | 3 => zt3
  | 4 => zt4
  | 5 => zt5
  | 6 => zt6
  | 7 => zt7
  | 8 => zt8
  | 9 => zt9
  | _ => zt10
def zCn (c : Nat) : String := match c with
  | 0 => "LoftPost"
  | 1 => "LoftPost$Reader"
  | 2 => "LoftPost$Tape"
  | 3 => "LoftPost$World"
  | 4 => "LoftPost$Loft"
  | 5 => "LoftPost$Pigeon"
  | 6 => "LoftPost$Hawk"
  | 7 => "LoftPost$Letter"
  | 8 => "LoftPostModel"
  | 9 => "LoftPostModel$Told"
  | _ => "LoftPostModel$State"
def zNf (c : Nat) : Nat := match c with
  | 0 => 4
  | 1 => 10
  | 2 => 6
  | 3 => 10
  | 4 => 7
  | 5 => 12
  | 6 => 6
  | 7 => 8
  | 8 => 13
  | 9 => 20
  | _ => 25
/-- the fields of a class, by their numbers: 0 an int, 1 a reference, and its place among its like -/
def zft (c : Nat) : List (Nat × Nat) := match c with
  | 0 => [(1, 0), (0, 0), (1, 1), (1, 2)]
  | 1 => [(1, 0), (1, 1), (1, 2), (1, 3), (0, 0), (0, 1), (0, 2), (0, 3), (0, 4), (0, 5)]
  | 2 => [(1, 0), (0, 0), (1, 1), (1, 2), (1, 3), (0, 1)]
  | 3 => [(1, 0), (1, 1), (1, 2), (1, 3), (0, 0), (0, 1), (0, 2), (0, 3), (0, 4), (0, 5)]
  | 4 => [(1, 0), (1, 1), (0, 0), (0, 1), (0, 2), (0, 3), (0, 4)]
  | 5 => [(0, 0), (0, 1), (0, 2), (0, 3), (0, 4), (0, 5), (0, 6), (0, 7), (0, 8), (0, 9), (0, 10), (0, 11)]
  | 6 => [(0, 0), (0, 1), (0, 2), (0, 3), (0, 4), (0, 5)]
  | 7 => [(1, 0), (1, 1), (0, 0), (0, 1), (0, 2), (0, 3), (0, 4), (0, 5)]
  | 8 => [(0, 0), (1, 0), (0, 1), (0, 2), (1, 1), (1, 2), (1, 3), (1, 4), (0, 3), (1, 5), (1, 6), (1, 7), (1, 8)]
  | 9 => [(0, 0), (0, 1), (0, 2), (0, 3), (1, 0), (1, 1), (1, 2), (1, 3), (1, 4), (1, 5), (1, 6), (1, 7), (1, 8), (1, 9), (1, 10), (1, 11), (1, 12), (1, 13), (1, 14), (1, 15)]
  | _ => [(0, 0), (0, 1), (1, 0), (1, 1), (1, 2), (1, 3), (1, 4), (1, 5), (1, 6), (1, 7), (1, 8), (1, 9), (1, 10), (1, 11), (1, 12), (1, 13), (1, 14), (1, 15), (1, 16), (1, 17), (1, 18), (1, 19), (1, 20), (0, 2), (1, 21)]
/-- the statics: class, name, descriptor -/
def zsn : List (String × String × String) := [("LoftPost$Kind", "END", "LLoftPost$Kind;"), ("LoftPost$Kind", "NONE", "LLoftPost$Kind;"), ("LoftPost$Kind", "NAME", "LLoftPost$Kind;"), ("LoftPost$Kind", "NUMBER", "LLoftPost$Kind;"), ("LoftPost$Kind", "COMMA", "LLoftPost$Kind;"), ("LoftPost$Kind", "SEMICOLON", "LLoftPost$Kind;"), ("LoftPost$Kind", "LOFT", "LLoftPost$Kind;"), ("LoftPost$Kind", "AT", "LLoftPost$Kind;"), ("LoftPost$Kind", "THEN", "LLoftPost$Kind;"), ("LoftPost$Kind", "SPEED", "LLoftPost$Kind;"), ("LoftPost$Kind", "PIGEON", "LLoftPost$Kind;"), ("LoftPost$Kind", "OF", "LLoftPost$Kind;"), ("LoftPost$Kind", "IN", "LLoftPost$Kind;"), ("LoftPost$Kind", "SIGHT", "LLoftPost$Kind;"), ("LoftPost$Kind", "HAWK", "LLoftPost$Kind;"), ("LoftPost$Kind", "REACH", "LLoftPost$Kind;"), ("LoftPost$Kind", "RESTS", "LLoftPost$Kind;"), ("LoftPost$Kind", "LETTER", "LLoftPost$Kind;"), ("LoftPost$Kind", "BY", "LLoftPost$Kind;"), ("LoftPost$Kind", "AND", "LLoftPost$Kind;"), ("LoftPost", "KINDS", "[LLoftPost$Kind;"), ("LoftPostModel", "WORDS", "[Ljava/lang/String;"), ("java/lang/String", "COMPACT_STRINGS", "Z"), ("jdk/internal/util/Preconditions", "SIOOBE_FORMATTER", "Ljava/util/function/BiFunction;")]
def zm0c : zM := [(33, [], [some 23], []), (33, [], [some 23], []), (33, [], [some 23], []), (33, [], [some 23], []), (33, [], [some 23], []), (33, [], [some 23], []), (33, [], [some 24], []), (33, [], [some 25], []), (33, [], [some 26], []), (33, [], [some 27], []), (33, [], [some 28], []), (33, [], [some 29], []), (33, [], [some 30], []), (33, [], [some 31], []), (33, [], [some 32], []), (33, [], [some 33], []), (33, [], [some 34], []), (33, [], [some 35], []), (33, [], [some 36], []), (33, [], [some 37], []), (32, [], [some 0, some 1, some 2, some 3, some 4, some 5, some 6, some 7, some 8, some 9, some 10, some 11, some 12, some 13, some 14, some 15, some 16, some 17, some 18, some 19], []), (35, [], [some 53, some 54, some 55, some 56, some 57, some 58, some 59, some 60, some 61, some 62, some 63, some 64, some 65, some 66], []), (99, [], [], []), (34, [0], [some 38], []), (34, [0], [some 39], []), (34, [0], [some 40], []), (34, [0], [some 41], []), (34, [0], [some 42], []), (34, [0], [some 43], []), (34, [0], [some 44], []), (34, [0], [some 45], []), (34, [0], [some 46], []), (34, [0], [some 47], []), (34, [0], [some 48], []), (34, [0], [some 49], []), (34, [0], [some 50], []), (34, [0], [some 51], []), (34, [0], [some 52], []), (31, [], [], []), (31, [108, 111, 102, 116], [], []), (31, [97, 116], [], []), (31, [116, 104, 101, 110], [], []), (31, [115, 112, 101, 101, 100], [], []), (31, [112, 105, 103, 101, 111, 110], [], []), (31, [111, 102], [], []), (31, [105, 110], [], []), (31, [115, 105, 103, 104, 116], [], []), (31, [104, 97, 119, 107], [], []), (31, [114, 101, 97, 99, 104], [], []), (31, [114, 101, 115, 116, 115], [], []), (31, [108, 101, 116, 116, 101, 114], [], []), (31, [98, 121], [], []), (31, [97, 110, 100], [], []), (34, [0], [some 67], []), (34, [0], [some 68], []), (34, [0], [some 69], []), (34, [0], [some 70], []), (34, [0], [some 71], []), (34, [0], [some 72], []), (34, [0], [some 73], []), (34, [0], [some 74], []), (34, [0], [some 75], []), (34, [0], [some 76], []), (34, [0], [some 77], []), (34, [0], [some 78], []), (34, [0], [some 79], []), (34, [0], [some 80], []), (31, [108, 111, 102, 116], [], []), (31, [97, 116], [], []), (31, [116, 104, 101, 110], [], []), (31, [115, 112, 101, 101, 100], [], []), (31, [112, 105, 103, 101, 111, 110], [], []), (31, [111, 102], [], []), (31, [105, 110], [], []), (31, [115, 105, 103, 104, 116], [], []), (31, [104, 97, 119, 107], [], []), (31, [114, 101, 97, 99, 104], [], []), (31, [114, 101, 115, 116, 115], [], []), (31, [108, 101, 116, 116, 101, 114], [], []), (31, [98, 121], [], []), (31, [97, 110, 100], [], [])]
/-- what is there from the start: the constants, their row, the other row of words, texts, and the script -/
def zm0 (xs : List Int32) : zM := zm0c ++ [(30, xs, [], [])]
def zmsg : List (Nat × String) := [(41, "the tape would be too long"), (52, "the tape has not so many bytes"), (93, "what is not 0 to 11"), (100, "no such loft, or what is not 0 to 7"), (135, "no such pigeon, or what is not 0 to 7"), (171, "no such hawk, or what is not 0 to 4"), (193, "no such letter, or what is not 0 to 7"), (226, "no such pigeon or loft"), (228, "the pigeon is not in a cage"), (230, "no such hawk"), (232, "no such spot"), (238, "hours is not 1 to 200"), (243, "what is not 0 to 2"), (255, "no such letter"), (261, "no such loft"), (263, "hours is not 0 to 500")]
/-- the exceptions' classes -/
def zxn (a : Nat) : String := match a with
  | 0 => "java/lang/IndexOutOfBoundsException"
  | 1 => "java/lang/IllegalStateException"
  | _ => "java/lang/IllegalArgumentException"
def zdec (cc : ByteArray) (pc : Nat) (i : Instr) (n : Nat) : Bool := decide (decode cc pc = .ok (i, n))
theorem zdec_ok {cc : ByteArray} {pc : Nat} {i : Instr} {n : Nat} (h : zdec cc pc i n = true) : decode cc pc = .ok (i, n) := of_decide_eq_true h
/-- a word of the tables, by its place -/
def zin (w : Jvm.Cond) (i : Nat) : Bool := decide (lw_tbl[i]? = some w)
/-- the methods: class, name, descriptor, the bytes, locals, the type of what it returns; has it handlers -/
abbrev zMt : Type := MethodName × ByteArray × Nat × Option FieldType × List (Nat × Nat × Nat × Nat)
def zmt0 : List zMt := [(⟨"LoftPost", "<init>", "()V"⟩, prog_1_method_1_code, 1, none, []),
  (⟨"LoftPost", "feed", "(IIIII)I"⟩, prog_1_method_2_code, 7, some (FieldType.int), []),
  (⟨"LoftPost", "trim", "(I)I"⟩, prog_1_method_3_code, 2, some (FieldType.int), []),
  (⟨"LoftPost", "teach", "()I"⟩, prog_1_method_4_code, 3, some (FieldType.int), []),
  (⟨"LoftPost", "errorAt", "()I"⟩, prog_1_method_5_code, 1, some (FieldType.int), []),
  (⟨"LoftPost", "count", "(I)I"⟩, prog_1_method_6_code, 2, some (FieldType.int), []),
  (⟨"LoftPost", "loft", "(II)I"⟩, prog_1_method_7_code, 4, some (FieldType.int), []),
  (⟨"LoftPost", "pigeon", "(II)I"⟩, prog_1_method_8_code, 4, some (FieldType.int), []),
  (⟨"LoftPost", "hawk", "(II)I"⟩, prog_1_method_9_code, 4, some (FieldType.int), []),
  (⟨"LoftPost", "letter", "(II)I"⟩, prog_1_method_10_code, 4, some (FieldType.int), []),
  (⟨"LoftPost", "bring", "(II)I"⟩, prog_1_method_11_code, 5, some (FieldType.int), []),
  (⟨"LoftPost", "lure", "(III)I"⟩, prog_1_method_12_code, 6, some (FieldType.int), []),
  (⟨"LoftPost", "pass", "(I)I"⟩, prog_1_method_13_code, 4, some (FieldType.int), []),
  (⟨"LoftPost", "foresee", "(II)I"⟩, prog_1_method_14_code, 3, some (FieldType.int), []),
  (⟨"LoftPost", "lookAhead", "(I)V"⟩, prog_1_method_15_code, 3, none, []),
  (⟨"LoftPost", "arrives", "(I)I"⟩, prog_1_method_16_code, 2, some (FieldType.int), []),
  (⟨"LoftPost", "hoursToStage", "(III)I"⟩, prog_1_method_17_code, 6, some (FieldType.int), []),
  (⟨"LoftPost", "where", "(II)I"⟩, prog_1_method_18_code, 5, some (FieldType.int), []),
  (⟨"LoftPost", "blame", "(I)I"⟩, prog_1_method_19_code, 8, some (FieldType.int), []),
  (⟨"LoftPost", "doubles", "(I)I"⟩, prog_1_method_20_code, 6, some (FieldType.int), []),
  (⟨"LoftPost", "departingWith", "(I)I"⟩, prog_1_method_21_code, 2, some (FieldType.int), []),
  (⟨"LoftPost", "keepFirst", "(LLoftPost$Letter;II)V"⟩, prog_1_method_22_code, 8, none, []),
  (⟨"LoftPost", "need", "()I"⟩, prog_1_method_23_code, 6, some (FieldType.int), []),
  (⟨"LoftPost", "mean", "()D"⟩, prog_1_method_24_code, 5, some (FieldType.double), []),
  (⟨"LoftPost", "digest", "()J"⟩, prog_1_method_25_code, 4, some (FieldType.long), []),
  (⟨"LoftPost", "distance", "(IIII)I"⟩, prog_1_method_26_code, 4, some (FieldType.int), []),
  (⟨"LoftPost", "nearer", "(III)I"⟩, prog_1_method_27_code, 3, some (FieldType.int), []),
  (⟨"LoftPost", "bit", "(I)I"⟩, prog_1_method_28_code, 1, some (FieldType.int), []),
  (⟨"LoftPost", "safe", "(II)I"⟩, prog_1_method_29_code, 2, some (FieldType.int), []),
  (⟨"LoftPost$Reader", "<init>", "()V"⟩, prog_7_method_1_code, 1, none, []),
  (⟨"LoftPost$Reader", "read", "(LLoftPost$World;)I"⟩, prog_7_method_2_code, 4, some (FieldType.int), []),
  (⟨"LoftPost$Reader", "isNext", "(LLoftPost$Kind;)Z"⟩, prog_7_method_3_code, 2, some (FieldType.boolean), []),
  (⟨"LoftPost$Reader", "accept", "(LLoftPost$Kind;)Z"⟩, prog_7_method_4_code, 2, some (FieldType.boolean), []),
  (⟨"LoftPost$Reader", "tell", "(I)V"⟩, prog_7_method_5_code, 2, none, []),
  (⟨"LoftPost$Reader", "readLoft", "(LLoftPost$World;)Z"⟩, prog_7_method_6_code, 4, some (FieldType.boolean), []),
  (⟨"LoftPost$Reader", "readPigeon", "(LLoftPost$World;)Z"⟩, prog_7_method_7_code, 3, some (FieldType.boolean), []),
  (⟨"LoftPost$Reader", "readHawk", "(LLoftPost$World;)Z"⟩, prog_7_method_8_code, 3, some (FieldType.boolean), []),
  (⟨"LoftPost$Reader", "readLetter", "(LLoftPost$World;)Z"⟩, prog_7_method_9_code, 5, some (FieldType.boolean), []),
  (⟨"LoftPost$Reader", "readStage", "(LLoftPost$World;LLoftPost$Letter;)Z"⟩, prog_7_method_10_code, 5, some (FieldType.boolean), []),
  (⟨"LoftPost$Reader", "readNewName", "([II)Z"⟩, prog_7_method_11_code, 3, some (FieldType.boolean), [])]
def zmt1 : List zMt := [(⟨"LoftPost$Reader", "readOldName", "([II)Z"⟩, prog_7_method_12_code, 3, some (FieldType.boolean), []),
  (⟨"LoftPost$Reader", "find", "([II)I"⟩, prog_7_method_13_code, 4, some (FieldType.int), []),
  (⟨"LoftPost$Reader", "readSpot", "()Z"⟩, prog_7_method_14_code, 1, some (FieldType.boolean), []),
  (⟨"LoftPost$Reader", "readOption", "(LLoftPost$Kind;III)Z"⟩, prog_7_method_15_code, 5, some (FieldType.boolean), []),
  (⟨"LoftPost$Reader", "readNumber", "(II)Z"⟩, prog_7_method_16_code, 3, some (FieldType.boolean), []),
  (⟨"LoftPost$Tape", "<init>", "()V"⟩, prog_8_method_1_code, 1, none, []),
  (⟨"LoftPost$Tape", "append", "(I)V"⟩, prog_8_method_2_code, 3, none, []),
  (⟨"LoftPost$Tape", "scan", "()V"⟩, prog_8_method_3_code, 5, none, []),
  (⟨"LoftPost$Tape", "keep", "(LLoftPost$Kind;II)V"⟩, prog_8_method_4_code, 4, none, []),
  (⟨"LoftPost$Tape", "byteAt", "(I)I"⟩, prog_8_method_5_code, 2, some (FieldType.int), []),
  (⟨"LoftPost$Tape", "behindBlanks", "(I)I"⟩, prog_8_method_6_code, 3, some (FieldType.int), []),
  (⟨"LoftPost$Tape", "isLetter", "(I)Z"⟩, prog_8_method_7_code, 1, some (FieldType.boolean), []),
  (⟨"LoftPost$Tape", "isDigit", "(I)Z"⟩, prog_8_method_8_code, 1, some (FieldType.boolean), []),
  (⟨"LoftPost$Tape", "endAt", "(I)I"⟩, prog_8_method_9_code, 3, some (FieldType.int), []),
  (⟨"LoftPost$Tape", "kindAt", "(I)LLoftPost$Kind;"⟩, prog_8_method_10_code, 4, some ((FieldType.object "LoftPost$Kind")), []),
  (⟨"LoftPost$Tape", "kindOfWord", "(II)LLoftPost$Kind;"⟩, prog_8_method_11_code, 4, some ((FieldType.object "LoftPost$Kind")), []),
  (⟨"LoftPost$Tape", "isSpelled", "(Ljava/lang/String;II)Z"⟩, prog_8_method_12_code, 5, some (FieldType.boolean), []),
  (⟨"LoftPost$Tape", "kindOf", "(I)LLoftPost$Kind;"⟩, prog_8_method_13_code, 2, some ((FieldType.object "LoftPost$Kind")), []),
  (⟨"LoftPost$Tape", "startOf", "(I)I"⟩, prog_8_method_14_code, 2, some (FieldType.int), []),
  (⟨"LoftPost$Tape", "sizeOf", "(I)I"⟩, prog_8_method_15_code, 2, some (FieldType.int), []),
  (⟨"LoftPost$Tape", "areSame", "(II)Z"⟩, prog_8_method_16_code, 5, some (FieldType.boolean), []),
  (⟨"LoftPost$Tape", "numberOf", "(I)I"⟩, prog_8_method_17_code, 5, some (FieldType.int), []),
  (⟨"LoftPost$World", "<init>", "()V"⟩, prog_9_method_1_code, 2, none, []),
  (⟨"LoftPost$World", "clear", "()V"⟩, prog_9_method_2_code, 1, none, []),
  (⟨"LoftPost$World", "copyFrom", "(LLoftPost$World;)V"⟩, prog_9_method_3_code, 3, none, []),
  (⟨"LoftPost$World", "hasLoft", "(I)Z"⟩, prog_9_method_4_code, 2, some (FieldType.boolean), []),
  (⟨"LoftPost$World", "hasPigeon", "(I)Z"⟩, prog_9_method_5_code, 2, some (FieldType.boolean), []),
  (⟨"LoftPost$World", "hasHawk", "(I)Z"⟩, prog_9_method_6_code, 2, some (FieldType.boolean), []),
  (⟨"LoftPost$World", "hasLetter", "(I)Z"⟩, prog_9_method_7_code, 2, some (FieldType.boolean), []),
  (⟨"LoftPost$World", "loftAt", "(I)LLoftPost$Loft;"⟩, prog_9_method_8_code, 2, some ((FieldType.object "LoftPost$Loft")), []),
  (⟨"LoftPost$World", "pigeonAt", "(I)LLoftPost$Pigeon;"⟩, prog_9_method_9_code, 2, some ((FieldType.object "LoftPost$Pigeon")), []),
  (⟨"LoftPost$World", "hawkAt", "(I)LLoftPost$Hawk;"⟩, prog_9_method_10_code, 2, some ((FieldType.object "LoftPost$Hawk")), []),
  (⟨"LoftPost$World", "letterAt", "(I)LLoftPost$Letter;"⟩, prog_9_method_11_code, 2, some ((FieldType.object "LoftPost$Letter")), []),
  (⟨"LoftPost$World", "addLoft", "()LLoftPost$Loft;"⟩, prog_9_method_12_code, 2, some ((FieldType.object "LoftPost$Loft")), []),
  (⟨"LoftPost$World", "addPigeon", "()LLoftPost$Pigeon;"⟩, prog_9_method_13_code, 2, some ((FieldType.object "LoftPost$Pigeon")), []),
  (⟨"LoftPost$World", "addHawk", "()LLoftPost$Hawk;"⟩, prog_9_method_14_code, 2, some ((FieldType.object "LoftPost$Hawk")), []),
  (⟨"LoftPost$World", "addLetter", "()LLoftPost$Letter;"⟩, prog_9_method_15_code, 2, some ((FieldType.object "LoftPost$Letter")), []),
  (⟨"LoftPost$World", "pigeonsThat", "(I)I"⟩, prog_9_method_16_code, 4, some (FieldType.int), []),
  (⟨"LoftPost$World", "pigeonsInCages", "(I)I"⟩, prog_9_method_17_code, 4, some (FieldType.int), []),
  (⟨"LoftPost$World", "homePigeonsThatFly", "(I)I"⟩, prog_9_method_18_code, 5, some (FieldType.int), [])]
def zmt2 : List zMt := [(⟨"LoftPost$World", "lettersIn", "(I)I"⟩, prog_9_method_19_code, 4, some (FieldType.int), []),
  (⟨"LoftPost$World", "arrivedLetters", "()I"⟩, prog_9_method_20_code, 3, some (FieldType.int), []),
  (⟨"LoftPost$World", "lostLetters", "()I"⟩, prog_9_method_21_code, 3, some (FieldType.int), []),
  (⟨"LoftPost$World", "doublesThatFly", "(I)I"⟩, prog_9_method_22_code, 5, some (FieldType.int), []),
  (⟨"LoftPost$World", "isLost", "(I)Z"⟩, prog_9_method_23_code, 3, some (FieldType.boolean), []),
  (⟨"LoftPost$World", "hasDoubleOfItsStage", "(I)Z"⟩, prog_9_method_24_code, 5, some (FieldType.boolean), []),
  (⟨"LoftPost$World", "canGoOn", "(LLoftPost$Letter;)Z"⟩, prog_9_method_25_code, 4, some (FieldType.boolean), []),
  (⟨"LoftPost$World", "canSetOut", "(LLoftPost$Letter;I)Z"⟩, prog_9_method_26_code, 3, some (FieldType.boolean), []),
  (⟨"LoftPost$World", "isQuiet", "()Z"⟩, prog_9_method_27_code, 3, some (FieldType.boolean), []),
  (⟨"LoftPost$World", "xOf", "(LLoftPost$Pigeon;)I"⟩, prog_9_method_28_code, 2, some (FieldType.int), []),
  (⟨"LoftPost$World", "yOf", "(LLoftPost$Pigeon;)I"⟩, prog_9_method_29_code, 2, some (FieldType.int), []),
  (⟨"LoftPost$World", "distanceFromHome", "(LLoftPost$Pigeon;)I"⟩, prog_9_method_30_code, 3, some (FieldType.int), []),
  (⟨"LoftPost$World", "passHour", "()V"⟩, prog_9_method_31_code, 2, none, []),
  (⟨"LoftPost$World", "sendLetters", "()V"⟩, prog_9_method_32_code, 2, none, []),
  (⟨"LoftPost$World", "sendDoubles", "(I)V"⟩, prog_9_method_33_code, 7, none, []),
  (⟨"LoftPost$World", "fly", "(LLoftPost$Pigeon;)V"⟩, prog_9_method_34_code, 3, none, []),
  (⟨"LoftPost$World", "comeHome", "(LLoftPost$Pigeon;)V"⟩, prog_9_method_35_code, 3, none, []),
  (⟨"LoftPost$World", "hunt", "(LLoftPost$Hawk;)V"⟩, prog_9_method_36_code, 7, none, []),
  (⟨"LoftPost$Loft", "<init>", "()V"⟩, prog_5_method_1_code, 1, none, []),
  (⟨"LoftPost$Loft", "clear", "()V"⟩, prog_5_method_2_code, 1, none, []),
  (⟨"LoftPost$Loft", "copyFrom", "(LLoftPost$Loft;)V"⟩, prog_5_method_3_code, 3, none, []),
  (⟨"LoftPost$Loft", "addSpot", "(II)V"⟩, prog_5_method_4_code, 3, none, []),
  (⟨"LoftPost$Loft", "move", "()V"⟩, prog_5_method_5_code, 3, none, []),
  (⟨"LoftPost$Pigeon", "<init>", "()V"⟩, prog_6_method_1_code, 1, none, []),
  (⟨"LoftPost$Pigeon", "clear", "()V"⟩, prog_6_method_2_code, 1, none, []),
  (⟨"LoftPost$Pigeon", "copyFrom", "(LLoftPost$Pigeon;)V"⟩, prog_6_method_3_code, 2, none, []),
  (⟨"LoftPost$Pigeon", "isCagedIn", "(I)Z"⟩, prog_6_method_4_code, 2, some (FieldType.boolean), []),
  (⟨"LoftPost$Pigeon", "setOut", "(LLoftPost$Loft;LLoftPost$Loft;)V"⟩, prog_6_method_5_code, 3, none, []),
  (⟨"LoftPost$Hawk", "<init>", "()V"⟩, prog_2_method_1_code, 1, none, []),
  (⟨"LoftPost$Hawk", "clear", "()V"⟩, prog_2_method_2_code, 1, none, []),
  (⟨"LoftPost$Hawk", "copyFrom", "(LLoftPost$Hawk;)V"⟩, prog_2_method_3_code, 2, none, []),
  (⟨"LoftPost$Hawk", "takeAway", "()V"⟩, prog_2_method_4_code, 1, none, []),
  (⟨"LoftPost$Letter", "<init>", "()V"⟩, prog_4_method_1_code, 1, none, []),
  (⟨"LoftPost$Letter", "clear", "()V"⟩, prog_4_method_2_code, 1, none, []),
  (⟨"LoftPost$Letter", "copyFrom", "(LLoftPost$Letter;)V"⟩, prog_4_method_3_code, 3, none, []),
  (⟨"LoftPost$Letter", "copyStage", "(ILLoftPost$Letter;)V"⟩, prog_4_method_4_code, 6, none, []),
  (⟨"LoftPost$Letter", "hasArrived", "()Z"⟩, prog_4_method_5_code, 1, some (FieldType.boolean), []),
  (⟨"LoftPost$Letter", "addStage", "()V"⟩, prog_4_method_6_code, 1, none, []),
  (⟨"LoftPost$Letter", "addCarrier", "(I)V"⟩, prog_4_method_7_code, 5, none, []),
  (⟨"LoftPost$Letter", "latestStageHas", "(I)Z"⟩, prog_4_method_8_code, 5, some (FieldType.boolean), [])]
def zmt3 : List zMt := [(⟨"LoftPost$Letter", "carriersOf", "(I)I"⟩, prog_4_method_9_code, 2, some (FieldType.int), []),
  (⟨"LoftPost$Letter", "carrierAt", "(II)I"⟩, prog_4_method_10_code, 3, some (FieldType.int), []),
  (⟨"LoftPost$Letter", "goOnIn", "(II)V"⟩, prog_4_method_11_code, 3, none, []),
  (⟨"LoftPostModel", "<init>", "()V"⟩, prog_11_method_1_code, 1, none, []),
  (⟨"LoftPostModel", "thrown", "()I"⟩, prog_11_method_2_code, 1, some (FieldType.int), []),
  (⟨"LoftPostModel", "no", "(I)I"⟩, prog_11_method_3_code, 2, some (FieldType.int), []),
  (⟨"LoftPostModel", "isIn", "(III)Z"⟩, prog_11_method_4_code, 3, some (FieldType.boolean), []),
  (⟨"LoftPostModel", "isLoft", "(I)Z"⟩, prog_11_method_5_code, 2, some (FieldType.boolean), []),
  (⟨"LoftPostModel", "isPigeon", "(I)Z"⟩, prog_11_method_6_code, 2, some (FieldType.boolean), []),
  (⟨"LoftPostModel", "isHawk", "(I)Z"⟩, prog_11_method_7_code, 2, some (FieldType.boolean), []),
  (⟨"LoftPostModel", "isLetter", "(I)Z"⟩, prog_11_method_8_code, 2, some (FieldType.boolean), []),
  (⟨"LoftPostModel", "apart", "(IIII)I"⟩, prog_11_method_9_code, 4, some (FieldType.int), []),
  (⟨"LoftPostModel", "nearer", "(III)I"⟩, prog_11_method_10_code, 3, some (FieldType.int), []),
  (⟨"LoftPostModel", "isSmall", "(I)Z"⟩, prog_11_method_11_code, 1, some (FieldType.boolean), []),
  (⟨"LoftPostModel", "isDigit", "(I)Z"⟩, prog_11_method_12_code, 1, some (FieldType.boolean), []),
  (⟨"LoftPostModel", "byteOf", "(I)I"⟩, prog_11_method_13_code, 2, some (FieldType.int), []),
  (⟨"LoftPostModel", "kindAt", "(II)I"⟩, prog_11_method_14_code, 5, some (FieldType.int), []),
  (⟨"LoftPostModel", "word", "(II)I"⟩, prog_11_method_15_code, 6, some (FieldType.int), []),
  (⟨"LoftPostModel", "cutIntoTokens", "()V"⟩, prog_11_method_16_code, 3, none, []),
  (⟨"LoftPostModel", "eat", "(I)Z"⟩, prog_11_method_17_code, 2, some (FieldType.boolean), []),
  (⟨"LoftPostModel", "eatAs", "(II)Z"⟩, prog_11_method_18_code, 3, some (FieldType.boolean), []),
  (⟨"LoftPostModel", "isOption", "(II)Z"⟩, prog_11_method_19_code, 3, some (FieldType.boolean), []),
  (⟨"LoftPostModel", "isSpot", "(I)Z"⟩, prog_11_method_20_code, 2, some (FieldType.boolean), []),
  (⟨"LoftPostModel", "isText", "()Z"⟩, prog_11_method_21_code, 2, some (FieldType.boolean), []),
  (⟨"LoftPostModel", "isLoftLine", "()Z"⟩, prog_11_method_22_code, 1, some (FieldType.boolean), []),
  (⟨"LoftPostModel", "isPigeonLine", "()Z"⟩, prog_11_method_23_code, 1, some (FieldType.boolean), []),
  (⟨"LoftPostModel", "isHawkLine", "()Z"⟩, prog_11_method_24_code, 1, some (FieldType.boolean), []),
  (⟨"LoftPostModel", "isLetterLine", "()Z"⟩, prog_11_method_25_code, 1, some (FieldType.boolean), []),
  (⟨"LoftPostModel", "isSame", "(II)Z"⟩, prog_11_method_26_code, 4, some (FieldType.boolean), []),
  (⟨"LoftPostModel", "named", "(II)I"⟩, prog_11_method_27_code, 5, some (FieldType.int), []),
  (⟨"LoftPostModel", "number", "(I)I"⟩, prog_11_method_28_code, 4, some (FieldType.int), []),
  (⟨"LoftPostModel", "keep", "([IIIII)I"⟩, prog_11_method_29_code, 5, some (FieldType.int), []),
  (⟨"LoftPostModel", "errorOf", "(I)I"⟩, prog_11_method_30_code, 6, some (FieldType.int), []),
  (⟨"LoftPostModel", "errorOfPost", "(II)I"⟩, prog_11_method_31_code, 6, some (FieldType.int), []),
  (⟨"LoftPostModel", "errorOfCarrier", "(II)I"⟩, prog_11_method_32_code, 9, some (FieldType.int), []),
  (⟨"LoftPostModel", "read", "()I"⟩, prog_11_method_33_code, 3, some (FieldType.int), []),
  (⟨"LoftPostModel", "feed", "(IIIII)I"⟩, prog_11_method_34_code, 8, some (FieldType.int), []),
  (⟨"LoftPostModel", "trim", "(I)I"⟩, prog_11_method_35_code, 2, some (FieldType.int), []),
  (⟨"LoftPostModel", "teach", "()I"⟩, prog_11_method_36_code, 2, some (FieldType.int), []),
  (⟨"LoftPostModel", "errorAt", "()I"⟩, prog_11_method_37_code, 1, some (FieldType.int), [])]
def zmt4 : List zMt := [(⟨"LoftPostModel", "counted", "(I)I"⟩, prog_11_method_38_code, 2, some (FieldType.int), []),
  (⟨"LoftPostModel", "count", "(I)I"⟩, prog_11_method_39_code, 2, some (FieldType.int), []),
  (⟨"LoftPostModel", "loftTold", "(II)I"⟩, prog_11_method_40_code, 7, some (FieldType.int), []),
  (⟨"LoftPostModel", "loft", "(II)I"⟩, prog_11_method_41_code, 3, some (FieldType.int), []),
  (⟨"LoftPostModel", "pigeonTold", "(II)I"⟩, prog_11_method_42_code, 5, some (FieldType.int), []),
  (⟨"LoftPostModel", "pigeon", "(II)I"⟩, prog_11_method_43_code, 3, some (FieldType.int), []),
  (⟨"LoftPostModel", "hawkTold", "(II)I"⟩, prog_11_method_44_code, 3, some (FieldType.int), []),
  (⟨"LoftPostModel", "hawk", "(II)I"⟩, prog_11_method_45_code, 3, some (FieldType.int), []),
  (⟨"LoftPostModel", "letterTold", "(II)I"⟩, prog_11_method_46_code, 4, some (FieldType.int), []),
  (⟨"LoftPostModel", "letter", "(II)I"⟩, prog_11_method_47_code, 3, some (FieldType.int), []),
  (⟨"LoftPostModel", "bring", "(II)I"⟩, prog_11_method_48_code, 4, some (FieldType.int), []),
  (⟨"LoftPostModel", "lure", "(III)I"⟩, prog_11_method_49_code, 5, some (FieldType.int), []),
  (⟨"LoftPostModel", "pass", "(I)I"⟩, prog_11_method_50_code, 4, some (FieldType.int), []),
  (⟨"LoftPostModel", "foresee", "(II)I"⟩, prog_11_method_51_code, 4, some (FieldType.int), []),
  (⟨"LoftPostModel", "arrivesWithout", "(II)I"⟩, prog_11_method_52_code, 3, some (FieldType.int), []),
  (⟨"LoftPostModel", "arrives", "(I)I"⟩, prog_11_method_53_code, 2, some (FieldType.int), []),
  (⟨"LoftPostModel", "where", "(II)I"⟩, prog_11_method_54_code, 4, some (FieldType.int), []),
  (⟨"LoftPostModel", "blame", "(I)I"⟩, prog_11_method_55_code, 6, some (FieldType.int), []),
  (⟨"LoftPostModel", "isEnough", "(III)Z"⟩, prog_11_method_56_code, 8, some (FieldType.boolean), []),
  (⟨"LoftPostModel", "doubles", "(I)I"⟩, prog_11_method_57_code, 5, some (FieldType.int), []),
  (⟨"LoftPostModel", "need", "()I"⟩, prog_11_method_58_code, 5, some (FieldType.int), []),
  (⟨"LoftPostModel", "mean", "()D"⟩, prog_11_method_59_code, 3, some (FieldType.double), []),
  (⟨"LoftPostModel", "digest", "()J"⟩, prog_11_method_60_code, 5, some (FieldType.long), []),
  (⟨"LoftPostModel$Told", "<init>", "()V"⟩, prog_13_method_1_code, 1, none, []),
  (⟨"LoftPostModel$State", "<init>", "(LLoftPostModel;)V"⟩, prog_12_method_1_code, 2, none, []),
  (⟨"LoftPostModel$State", "copy", "([I[I)V"⟩, prog_12_method_2_code, 3, none, []),
  (⟨"LoftPostModel$State", "become", "(LLoftPostModel$State;)V"⟩, prog_12_method_3_code, 2, none, []),
  (⟨"LoftPostModel$State", "begin", "()V"⟩, prog_12_method_4_code, 2, none, []),
  (⟨"LoftPostModel$State", "isArrived", "(I)Z"⟩, prog_12_method_5_code, 2, some (FieldType.boolean), []),
  (⟨"LoftPostModel$State", "xOf", "(I)I"⟩, prog_12_method_6_code, 2, some (FieldType.int), []),
  (⟨"LoftPostModel$State", "yOf", "(I)I"⟩, prog_12_method_7_code, 2, some (FieldType.int), []),
  (⟨"LoftPostModel$State", "fromHome", "(I)I"⟩, prog_12_method_8_code, 2, some (FieldType.int), []),
  (⟨"LoftPostModel$State", "canSetOut", "(II)Z"⟩, prog_12_method_9_code, 3, some (FieldType.boolean), []),
  (⟨"LoftPostModel$State", "carrier", "(II)I"⟩, prog_12_method_10_code, 3, some (FieldType.int), []),
  (⟨"LoftPostModel$State", "carriers", "(I)I"⟩, prog_12_method_11_code, 2, some (FieldType.int), []),
  (⟨"LoftPostModel$State", "goLoft", "(I)V"⟩, prog_12_method_12_code, 4, none, []),
  (⟨"LoftPostModel$State", "setOut", "(II)V"⟩, prog_12_method_13_code, 3, none, []),
  (⟨"LoftPostModel$State", "aim", "(I)V"⟩, prog_12_method_14_code, 2, none, []),
  (⟨"LoftPostModel$State", "land", "(I)V"⟩, prog_12_method_15_code, 3, none, []),
  (⟨"LoftPostModel$State", "fly", "(I)V"⟩, prog_12_method_16_code, 2, none, [])]
def zmt5 : List zMt := [(⟨"LoftPostModel$State", "hunt", "(I)V"⟩, prog_12_method_17_code, 6, none, []),
  (⟨"LoftPostModel$State", "pass", "()V"⟩, prog_12_method_18_code, 2, none, []),
  (⟨"LoftPostModel$State", "setOut", "()V"⟩, prog_12_method_19_code, 3, none, []),
  (⟨"LoftPostModel$State", "flying", "(IZ)I"⟩, prog_12_method_20_code, 5, some (FieldType.int), []),
  (⟨"LoftPostModel$State", "isLost", "(I)Z"⟩, prog_12_method_21_code, 3, some (FieldType.boolean), []),
  (⟨"LoftPostModel$State", "pigeons", "(I)I"⟩, prog_12_method_22_code, 4, some (FieldType.int), []),
  (⟨"LoftPostModel$State", "arrived", "()I"⟩, prog_12_method_23_code, 3, some (FieldType.int), []),
  (⟨"LoftPostModel$State", "lost", "()I"⟩, prog_12_method_24_code, 3, some (FieldType.int), []),
  (⟨"LoftPostModel$State", "arrives", "(I)I"⟩, prog_12_method_25_code, 3, some (FieldType.int), []),
  (⟨"LoftPostLaw", "feed", "(LLoftPost;IIIII[J)I"⟩, method_3_code, 8, some (FieldType.int), [(0, 16, 19, 13)]),
  (⟨"LoftPostLaw", "trim", "(LLoftPost;I[J)I"⟩, method_4_code, 4, some (FieldType.int), [(0, 9, 12, 19)]),
  (⟨"LoftPostLaw", "count", "(LLoftPost;I[J)I"⟩, method_5_code, 4, some (FieldType.int), [(0, 9, 12, 24)]),
  (⟨"LoftPostLaw", "loft", "(LLoftPost;II[J)I"⟩, method_6_code, 5, some (FieldType.int), [(0, 10, 13, 24)]),
  (⟨"LoftPostLaw", "pigeon", "(LLoftPost;II[J)I"⟩, method_7_code, 5, some (FieldType.int), [(0, 10, 13, 24)]),
  (⟨"LoftPostLaw", "hawk", "(LLoftPost;II[J)I"⟩, method_8_code, 5, some (FieldType.int), [(0, 10, 13, 24)]),
  (⟨"LoftPostLaw", "letter", "(LLoftPost;II[J)I"⟩, method_9_code, 5, some (FieldType.int), [(0, 10, 13, 24)]),
  (⟨"LoftPostLaw", "bring", "(LLoftPost;II[J)I"⟩, method_10_code, 5, some (FieldType.int), [(0, 10, 13, 24), (0, 10, 17, 13)]),
  (⟨"LoftPostLaw", "lure", "(LLoftPost;III[J)I"⟩, method_11_code, 6, some (FieldType.int), [(0, 12, 15, 24), (0, 12, 19, 19)]),
  (⟨"LoftPostLaw", "pass", "(LLoftPost;I[J)I"⟩, method_12_code, 4, some (FieldType.int), [(0, 9, 12, 19)]),
  (⟨"LoftPostLaw", "foresee", "(LLoftPost;II[J)I"⟩, method_13_code, 5, some (FieldType.int), [(0, 10, 13, 19), (0, 10, 17, 24)]),
  (⟨"LoftPostLaw", "arrives", "(LLoftPost;I[J)I"⟩, method_14_code, 4, some (FieldType.int), [(0, 9, 12, 24)]),
  (⟨"LoftPostLaw", "where", "(LLoftPost;II[J)I"⟩, method_15_code, 5, some (FieldType.int), [(0, 10, 13, 24), (0, 10, 17, 19)]),
  (⟨"LoftPostLaw", "blame", "(LLoftPost;I[J)I"⟩, method_16_code, 4, some (FieldType.int), [(0, 9, 12, 24)]),
  (⟨"LoftPostLaw", "doubles", "(LLoftPost;I[J)I"⟩, method_17_code, 4, some (FieldType.int), [(0, 9, 12, 24)]),
  (⟨"java/lang/Integer", "bitCount", "(I)I"⟩, prog_19_method_49_code, 1, some (FieldType.int), []),
  (⟨"java/lang/String", "length", "()I"⟩, prog_22_method_54_code, 1, some (FieldType.int), []),
  (⟨"java/lang/String", "charAt", "(I)C"⟩, prog_22_method_56_code, 2, some (FieldType.char), []),
  (⟨"java/lang/String", "coder", "()B"⟩, prog_22_method_152_code, 1, some (FieldType.byte), []),
  (⟨"java/lang/String", "isLatin1", "()Z"⟩, prog_22_method_154_code, 1, some (FieldType.boolean), []),
  (⟨"java/lang/String", "checkIndex", "(II)V"⟩, prog_22_method_155_code, 2, none, []),
  (⟨"java/lang/StringLatin1", "charAt", "([BI)C"⟩, prog_23_method_2_code, 2, some (FieldType.char), []),
  (⟨"jdk/internal/util/Preconditions", "checkIndex", "(IILjava/util/function/BiFunction;)I"⟩, prog_27_method_11_code, 3, some (FieldType.int), []),
  (⟨"LoftPostLaw", "law", "([I)Z"⟩, code, 9, some (FieldType.boolean), [])]
def zmt : List zMt := zmt0 ++ zmt1 ++ zmt2 ++ zmt3 ++ zmt4 ++ zmt5
def zm (a : Nat) : zMt := zmt.getD a (⟨"", "", ""⟩, ⟨#[]⟩, 0, none, [])
