/-! THE PROGRAM AS DATA (written by wip/tools/gen05.py out of the Statement): classes, links, methods, instructions; checked against lw_tbl -/
def kT0 : u_T := fun k => match k with
  | _ => ("", "", "", false)
def kT1 : u_T := fun k => match k with
  | 0 => ("CensusOffice", "register", "LCensusOffice$Register;", true)
  | 1 => ("CensusOffice", "tape", "LCensusOffice$Tape;", true)
  | 2 => ("CensusOffice", "reader", "LCensusOffice$Reader;", true)
  | 3 => ("CensusOffice", "editor", "LCensusOffice$Editor;", true)
  | 4 => ("CensusOffice", "forms", "Ljava/util/ArrayList;", true)
  | 5 => ("CensusOffice", "sessions", "Ljava/util/ArrayList;", true)
  | 6 => ("CensusOffice", "records", "Ljava/util/ArrayList;", true)
  | 7 => ("CensusOffice", "samples", "Ljava/util/ArrayList;", true)
  | 8 => ("CensusOffice", "tables", "Ljava/util/ArrayList;", true)
  | 9 => ("CensusOffice", "releases", "Ljava/util/ArrayList;", true)
  | 10 => ("CensusOffice", "persons", "LCensusOffice$Rows;", true)
  | 11 => ("CensusOffice", "looks", "LCensusOffice$Rows;", true)
  | _ => ("CensusOffice", "minute", "I", false)
def kT2 : u_T := fun k => match k with
  | 0 => ("CensusOffice$Editor", "trial", "[I", true)
  | 1 => ("CensusOffice$Editor", "bestSet", "I", false)
  | _ => ("CensusOffice$Editor", "bestCost", "I", false)
def kT3 : u_T := fun k => match k with
  | 0 => ("CensusOffice$Form", "steps", "[I", true)
  | 1 => ("CensusOffice$Form", "amounts", "[I", true)
  | 2 => ("CensusOffice$Form", "sorts", "[I", true)
  | 3 => ("CensusOffice$Form", "lows", "[I", true)
  | 4 => ("CensusOffice$Form", "highs", "[I", true)
  | 5 => ("CensusOffice$Form", "costs", "[I", true)
  | 6 => ("CensusOffice$Form", "names", "[J", true)
  | 7 => ("CensusOffice$Form", "starts", "[I", true)
  | 8 => ("CensusOffice$Form", "splits", "[I", true)
  | 9 => ("CensusOffice$Form", "rules", "LCensusOffice$Rows;", true)
  | 10 => ("CensusOffice$Form", "written", "I", false)
  | 11 => ("CensusOffice$Form", "count", "I", false)
  | _ => ("CensusOffice$Form", "asks", "I", false)
def kT4 : u_T := fun k => match k with
  | 0 => ("CensusOffice$Reader", "tape", "LCensusOffice$Tape;", true)
  | 1 => ("CensusOffice$Reader", "form", "LCensusOffice$Form;", false)
  | 2 => ("CensusOffice$Reader", "name", "J", false)
  | 3 => ("CensusOffice$Reader", "bound", "I", false)
  | _ => ("CensusOffice$Reader", "fault", "I", false)
def kT5 : u_T := fun k => match k with
  | 0 => ("CensusOffice$Rec", "form", "LCensusOffice$Form;", true)
  | 1 => ("CensusOffice$Rec", "unit", "I", true)
  | 2 => ("CensusOffice$Rec", "regs", "[I", true)
  | 3 => ("CensusOffice$Rec", "items", "[I", true)
  | _ => ("CensusOffice$Rec", "marks", "[I", true)
def kT6 : u_T := fun k => match k with
  | 0 => ("CensusOffice$Register", "units", "LCensusOffice$Rows;", true)
  | 1 => ("CensusOffice$Register", "tellings", "LCensusOffice$Rows;", true)
  | 2 => ("CensusOffice$Register", "newest", "[I", true)
  | 3 => ("CensusOffice$Register", "numbers", "[I", true)
  | 4 => ("CensusOffice$Register", "strata", "[I", true)
  | _ => ("CensusOffice$Register", "merges", "I", false)
def kT7 : u_T := fun k => match k with
  | 0 => ("CensusOffice$Release", "table", "LCensusOffice$Table;", true)
  | 1 => ("CensusOffice$Release", "numbers", "[I", true)
  | 2 => ("CensusOffice$Release", "secrets", "I", true)
  | 3 => ("CensusOffice$Release", "maker", "I", true)
  | _ => ("CensusOffice$Release", "minute", "I", true)
def kT8 : u_T := fun k => match k with
  | 0 => ("CensusOffice$Rows", "width", "I", true)
  | 1 => ("CensusOffice$Rows", "limit", "I", true)
  | 2 => ("CensusOffice$Rows", "numbers", "[I", false)
  | _ => ("CensusOffice$Rows", "count", "I", false)
def kT9 : u_T := fun k => match k with
  | 0 => ("CensusOffice$Sample", "above", "[I", true)
  | 1 => ("CensusOffice$Sample", "below", "[I", true)
  | _ => ("CensusOffice$Sample", "drawn", "[Z", true)
def kT10 : u_T := fun k => match k with
  | 0 => ("CensusOffice$Session", "form", "LCensusOffice$Form;", true)
  | 1 => ("CensusOffice$Session", "unit", "I", true)
  | 2 => ("CensusOffice$Session", "regs", "[I", true)
  | 3 => ("CensusOffice$Session", "items", "[I", true)
  | 4 => ("CensusOffice$Session", "given", "[I", true)
  | 5 => ("CensusOffice$Session", "aside", "[I", true)
  | 6 => ("CensusOffice$Session", "at", "I", false)
  | 7 => ("CensusOffice$Session", "brokenMusts", "I", false)
  | 8 => ("CensusOffice$Session", "brokenWarns", "I", false)
  | 9 => ("CensusOffice$Session", "notes", "I", false)
  | 10 => ("CensusOffice$Session", "notedQuestion", "I", false)
  | 11 => ("CensusOffice$Session", "notedNumber", "I", false)
  | _ => ("CensusOffice$Session", "closed", "Z", false)
def kT11 : u_T := fun k => match k with
  | 0 => ("CensusOffice$Table", "form", "LCensusOffice$Form;", true)
  | 1 => ("CensusOffice$Table", "row", "I", true)
  | 2 => ("CensusOffice$Table", "column", "I", true)
  | 3 => ("CensusOffice$Table", "measure", "I", true)
  | 4 => ("CensusOffice$Table", "rows", "I", true)
  | 5 => ("CensusOffice$Table", "columns", "I", true)
  | 6 => ("CensusOffice$Table", "cells", "I", true)
  | 7 => ("CensusOffice$Table", "sums", "[I", true)
  | 8 => ("CensusOffice$Table", "contributors", "[I", true)
  | 9 => ("CensusOffice$Table", "greatest", "[I", true)
  | 10 => ("CensusOffice$Table", "rounded", "[I", true)
  | 11 => ("CensusOffice$Table", "parts", "[I", true)
  | 12 => ("CensusOffice$Table", "primary", "I", false)
  | 13 => ("CensusOffice$Table", "secrets", "I", false)
  | 14 => ("CensusOffice$Table", "bestSet", "I", false)
  | _ => ("CensusOffice$Table", "bestCost", "I", false)
def kT12 : u_T := fun k => match k with
  | 0 => ("CensusOffice$Tape", "bytes", "[B", true)
  | 1 => ("CensusOffice$Tape", "length", "I", false)
  | 2 => ("CensusOffice$Tape", "next", "I", false)
  | 3 => ("CensusOffice$Tape", "kind", "I", false)
  | 4 => ("CensusOffice$Tape", "place", "I", false)
  | 5 => ("CensusOffice$Tape", "number", "I", false)
  | _ => ("CensusOffice$Tape", "word", "J", false)
def kT13 : u_T := fun k => match k with
  | 0 => ("java/util/ArrayList", "elementData", "[Ljava/lang/Object;", false)
  | 1 => ("java/util/ArrayList", "size", "I", false)
  | _ => ("java/util/AbstractList", "modCount", "I", false)
def kT14 : u_T := fun k => match k with
  | 0 => ("CensusOfficeModel", "thrown", "I", false)
  | 1 => ("CensusOfficeModel", "minute", "I", false)
  | 2 => ("CensusOfficeModel", "units", "I", false)
  | 3 => ("CensusOfficeModel", "into", "[I", true)
  | 4 => ("CensusOfficeModel", "intoDay", "[I", true)
  | 5 => ("CensusOfficeModel", "merges", "I", false)
  | 6 => ("CensusOfficeModel", "tellings", "I", false)
  | 7 => ("CensusOfficeModel", "tUnit", "[I", true)
  | 8 => ("CensusOfficeModel", "tField", "[I", true)
  | 9 => ("CensusOfficeModel", "tDay", "[I", true)
  | 10 => ("CensusOfficeModel", "tValue", "[I", true)
  | 11 => ("CensusOfficeModel", "tTold", "[I", true)
  | 12 => ("CensusOfficeModel", "tape", "[I", true)
  | 13 => ("CensusOfficeModel", "taped", "I", false)
  | 14 => ("CensusOfficeModel", "forms", "I", false)
  | 15 => ("CensusOfficeModel", "many", "[I", true)
  | 16 => ("CensusOfficeModel", "sort", "[I", true)
  | 17 => ("CensusOfficeModel", "name", "[J", true)
  | 18 => ("CensusOfficeModel", "least", "[I", true)
  | 19 => ("CensusOfficeModel", "most", "[I", true)
  | 20 => ("CensusOfficeModel", "cost", "[I", true)
  | 21 => ("CensusOfficeModel", "exprFrom", "[I", true)
  | 22 => ("CensusOfficeModel", "exprTo", "[I", true)
  | 23 => ("CensusOfficeModel", "condFrom", "[I", true)
  | 24 => ("CensusOfficeModel", "condTo", "[I", true)
  | 25 => ("CensusOfficeModel", "thing", "[I", true)
  | 26 => ("CensusOfficeModel", "what", "[I", true)
  | 27 => ("CensusOfficeModel", "things", "I", false)
  | 28 => ("CensusOfficeModel", "at", "I", false)
  | 29 => ("CensusOfficeModel", "kind", "I", false)
  | 30 => ("CensusOfficeModel", "place", "I", false)
  | 31 => ("CensusOfficeModel", "word", "J", false)
  | 32 => ("CensusOfficeModel", "number", "I", false)
  | 33 => ("CensusOfficeModel", "bound", "I", false)
  | 34 => ("CensusOfficeModel", "item", "[I", true)
  | 35 => ("CensusOfficeModel", "field", "[I", true)
  | 36 => ("CensusOfficeModel", "pos", "I", false)
  | 37 => ("CensusOfficeModel", "missing", "Z", false)
  | 38 => ("CensusOfficeModel", "sessions", "I", false)
  | 39 => ("CensusOfficeModel", "sForm", "[I", true)
  | 40 => ("CensusOfficeModel", "sUnit", "[I", true)
  | 41 => ("CensusOfficeModel", "sField", "[I", true)
  | 42 => ("CensusOfficeModel", "closed", "[Z", true)
  | 43 => ("CensusOfficeModel", "given", "[Z", true)
  | 44 => ("CensusOfficeModel", "givenAs", "[I", true)
  | 45 => ("CensusOfficeModel", "aside", "[Z", true)
  | 46 => ("CensusOfficeModel", "asideAs", "[I", true)
  | 47 => ("CensusOfficeModel", "noted", "[Z", true)
  | 48 => ("CensusOfficeModel", "noteQuestion", "[I", true)
  | 49 => ("CensusOfficeModel", "noteNumber", "[I", true)
  | 50 => ("CensusOfficeModel", "end", "I", false)
  | 51 => ("CensusOfficeModel", "badMust", "I", false)
  | 52 => ("CensusOfficeModel", "badWarn", "I", false)
  | 53 => ("CensusOfficeModel", "records", "I", false)
  | 54 => ("CensusOfficeModel", "rSession", "[I", true)
  | 55 => ("CensusOfficeModel", "items", "[I", true)
  | 56 => ("CensusOfficeModel", "marks", "[I", true)
  | 57 => ("CensusOfficeModel", "rules", "[I", true)
  | 58 => ("CensusOfficeModel", "ruleA", "[I", true)
  | 59 => ("CensusOfficeModel", "ruleB", "[I", true)
  | 60 => ("CensusOfficeModel", "ruleN", "[I", true)
  | 61 => ("CensusOfficeModel", "tried", "[I", true)
  | 62 => ("CensusOfficeModel", "bestSum", "I", false)
  | 63 => ("CensusOfficeModel", "bestSet", "I", false)
  | 64 => ("CensusOfficeModel", "samples", "I", false)
  | 65 => ("CensusOfficeModel", "got", "[I", true)
  | 66 => ("CensusOfficeModel", "had", "[I", true)
  | 67 => ("CensusOfficeModel", "drawn", "[Z", true)
  | 68 => ("CensusOfficeModel", "stratum", "[I", true)
  | 69 => ("CensusOfficeModel", "tables", "I", false)
  | 70 => ("CensusOfficeModel", "rows", "[I", true)
  | 71 => ("CensusOfficeModel", "columns", "[I", true)
  | 72 => ("CensusOfficeModel", "cell", "[I", true)
  | 73 => ("CensusOfficeModel", "parts", "[I", true)
  | 74 => ("CensusOfficeModel", "greatest", "[I", true)
  | 75 => ("CensusOfficeModel", "rounded", "[I", true)
  | 76 => ("CensusOfficeModel", "isRounded", "[Z", true)
  | 77 => ("CensusOfficeModel", "secrets", "[I", true)
  | 78 => ("CensusOfficeModel", "firsts", "[I", true)
  | 79 => ("CensusOfficeModel", "base", "I", false)
  | 80 => ("CensusOfficeModel", "persons", "I", false)
  | 81 => ("CensusOfficeModel", "roles", "[I", true)
  | 82 => ("CensusOfficeModel", "releases", "I", false)
  | 83 => ("CensusOfficeModel", "made", "[I", true)
  | 84 => ("CensusOfficeModel", "from", "[I", true)
  | 85 => ("CensusOfficeModel", "relRows", "[I", true)
  | 86 => ("CensusOfficeModel", "relColumns", "[I", true)
  | 87 => ("CensusOfficeModel", "relSecrets", "[I", true)
  | 88 => ("CensusOfficeModel", "relCell", "[I", true)
  | 89 => ("CensusOfficeModel", "looks", "I", false)
  | _ => ("CensusOfficeModel", "lookRow", "[I", true)
def aCl : List vw_C := [("", kT0, 0), ("CensusOffice", kT1, 13), ("CensusOffice$Editor", kT2, 3), ("CensusOffice$Form", kT3, 13), ("CensusOffice$Reader", kT4, 5), ("CensusOffice$Rec", kT5, 5), ("CensusOffice$Register", kT6, 6), ("CensusOffice$Release", kT7, 5), ("CensusOffice$Rows", kT8, 4), ("CensusOffice$Sample", kT9, 3), ("CensusOffice$Session", kT10, 13), ("CensusOffice$Table", kT11, 16), ("CensusOffice$Tape", kT12, 7), ("java/util/ArrayList", kT13, 3), ("CensusOfficeModel", kT14, 91)]
def aFts : List (List FieldType) := [[],
  [.object "CensusOffice$Register", .object "CensusOffice$Tape", .object "CensusOffice$Reader", .object "CensusOffice$Editor", .object "java/util/ArrayList", .object "java/util/ArrayList", .object "java/util/ArrayList", .object "java/util/ArrayList", .object "java/util/ArrayList", .object "java/util/ArrayList", .object "CensusOffice$Rows", .object "CensusOffice$Rows", .int],
  [.array (.int), .int, .int],
  [.array (.int), .array (.int), .array (.int), .array (.int), .array (.int), .array (.int), .array (.long), .array (.int), .array (.int), .object "CensusOffice$Rows", .int, .int, .int],
  [.object "CensusOffice$Tape", .object "CensusOffice$Form", .long, .int, .int],
  [.object "CensusOffice$Form", .int, .array (.int), .array (.int), .array (.int)],
  [.object "CensusOffice$Rows", .object "CensusOffice$Rows", .array (.int), .array (.int), .array (.int), .int],
  [.object "CensusOffice$Table", .array (.int), .int, .int, .int],
  [.int, .int, .array (.int), .int],
  [.array (.int), .array (.int), .array (.boolean)],
  [.object "CensusOffice$Form", .int, .array (.int), .array (.int), .array (.int), .array (.int), .int, .int, .int, .int, .int, .int, .boolean],
  [.object "CensusOffice$Form", .int, .int, .int, .int, .int, .int, .array (.int), .array (.int), .array (.int), .array (.int), .array (.int), .int, .int, .int, .int],
  [.array (.byte), .int, .int, .int, .int, .int, .long],
  [.array (.object "java/lang/Object"), .int, .int],
  [.int, .int, .int, .array (.int), .array (.int), .int, .int, .array (.int), .array (.int), .array (.int), .array (.int), .array (.int), .array (.int), .int, .int, .array (.int), .array (.int), .array (.long), .array (.int), .array (.int), .array (.int), .array (.int), .array (.int), .array (.int), .array (.int), .array (.int), .array (.int), .int, .int, .int, .int, .long, .int, .int, .array (.int), .array (.int), .int, .boolean, .int, .array (.int), .array (.int), .array (.int), .array (.boolean), .array (.boolean), .array (.int), .array (.boolean), .array (.int), .array (.boolean), .array (.int), .array (.int), .int, .int, .int, .int, .array (.int), .array (.int), .array (.int), .array (.int), .array (.int), .array (.int), .array (.int), .array (.int), .int, .int, .int, .array (.int), .array (.int), .array (.boolean), .array (.int), .int, .array (.int), .array (.int), .array (.int), .array (.int), .array (.int), .array (.int), .array (.boolean), .array (.int), .array (.int), .int, .int, .array (.int), .int, .array (.int), .array (.int), .array (.int), .array (.int), .array (.int), .array (.int), .int, .array (.int)]]
def aFt (c k : Nat) : FieldType := (aFts.getD c []).getD k .int
def aOwn : List String := ["java/lang/Math", "CensusOffice$Rows", "CensusOffice$Register", "CensusOffice$Tape", "CensusOffice$Form", "CensusOffice$Reader", "CensusOffice$Editor", "java/util/AbstractCollection", "java/util/AbstractList", "java/util/ArrayList", "CensusOffice", "CensusOfficeModel", "CensusOfficeLaw", "java/util/Arrays", "jdk/internal/util/ArraysSupport", "jdk/internal/util/Preconditions", "java/util/Objects", "CensusOffice$Session", "java/lang/Integer", "CensusOffice$Rec", "CensusOffice$Sample", "CensusOffice$Table", "CensusOffice$Release"]
/-- who, which entry, the class, the field, where the word stands, under which name, is it by a nest -/
def aFl : List (Nat × Nat × Nat × Nat × Nat × String × Bool) := [(1, 15, 8, 0, 165, "CensusOffice$Rows", false),
  (1, 18, 8, 1, 166, "CensusOffice$Rows", false),
  (1, 27, 8, 2, 167, "CensusOffice$Rows", false),
  (1, 9, 8, 3, 168, "CensusOffice$Rows", false),
  (2, 14, 6, 0, 179, "CensusOffice$Register", false),
  (10, 86, 6, 0, 180, "CensusOffice$Register", true),
  (2, 20, 6, 1, 181, "CensusOffice$Register", false),
  (10, 116, 6, 1, 182, "CensusOffice$Register", true),
  (2, 23, 6, 2, 183, "CensusOffice$Register", false),
  (2, 27, 6, 3, 184, "CensusOffice$Register", false),
  (2, 30, 6, 4, 185, "CensusOffice$Register", false),
  (10, 337, 6, 4, 186, "CensusOffice$Register", true),
  (2, 33, 6, 5, 187, "CensusOffice$Register", false),
  (10, 489, 6, 5, 188, "CensusOffice$Register", true),
  (3, 9, 12, 0, 208, "CensusOffice$Tape", false),
  (3, 15, 12, 1, 209, "CensusOffice$Tape", false),
  (10, 147, 12, 1, 210, "CensusOffice$Tape", true),
  (3, 19, 12, 2, 211, "CensusOffice$Tape", false),
  (3, 22, 12, 3, 212, "CensusOffice$Tape", false),
  (5, 44, 12, 3, 213, "CensusOffice$Tape", true),
  (3, 25, 12, 4, 214, "CensusOffice$Tape", false),
  (5, 47, 12, 4, 215, "CensusOffice$Tape", true),
  (3, 28, 12, 5, 216, "CensusOffice$Tape", false),
  (5, 123, 12, 5, 217, "CensusOffice$Tape", true),
  (3, 31, 12, 6, 218, "CensusOffice$Tape", false),
  (5, 100, 12, 6, 219, "CensusOffice$Tape", true),
  (4, 59, 3, 0, 251, "CensusOffice$Form", false),
  (4, 62, 3, 1, 252, "CensusOffice$Form", false),
  (4, 11, 3, 2, 253, "CensusOffice$Form", false),
  (17, 70, 3, 2, 254, "CensusOffice$Form", true),
  (19, 54, 3, 2, 255, "CensusOffice$Form", true),
  (10, 184, 3, 2, 256, "CensusOffice$Form", true),
  (4, 15, 3, 3, 257, "CensusOffice$Form", false),
  (21, 87, 3, 3, 258, "CensusOffice$Form", true),
  (6, 91, 3, 3, 259, "CensusOffice$Form", true),
  (10, 188, 3, 3, 260, "CensusOffice$Form", true),
  (4, 18, 3, 4, 261, "CensusOffice$Form", false),
  (6, 66, 3, 4, 262, "CensusOffice$Form", true),
  (10, 191, 3, 4, 263, "CensusOffice$Form", true),
  (4, 21, 3, 5, 264, "CensusOffice$Form", false),
  (10, 194, 3, 5, 265, "CensusOffice$Form", true),
  (4, 24, 3, 6, 266, "CensusOffice$Form", false),
  (4, 28, 3, 7, 267, "CensusOffice$Form", false),
  (4, 31, 3, 8, 268, "CensusOffice$Form", false),
  (4, 39, 3, 9, 269, "CensusOffice$Form", false),
  (6, 73, 3, 9, 270, "CensusOffice$Form", true),
  (10, 274, 3, 9, 271, "CensusOffice$Form", true),
  (4, 43, 3, 10, 272, "CensusOffice$Form", false),
  (4, 47, 3, 11, 273, "CensusOffice$Form", false),
  (6, 29, 3, 11, 274, "CensusOffice$Form", true),
  (19, 47, 3, 11, 275, "CensusOffice$Form", true),
  (17, 67, 3, 11, 276, "CensusOffice$Form", true),
  (10, 501, 3, 11, 277, "CensusOffice$Form", true),
  (4, 50, 3, 12, 278, "CensusOffice$Form", false),
  (5, 54, 3, 12, 279, "CensusOffice$Form", true),
  (5, 31, 4, 0, 308, "CensusOffice$Reader", false),
  (5, 14, 4, 1, 309, "CensusOffice$Reader", false),
  (5, 20, 4, 2, 310, "CensusOffice$Reader", false),
  (5, 24, 4, 3, 311, "CensusOffice$Reader", false),
  (5, 28, 4, 4, 312, "CensusOffice$Reader", false),
  (6, 9, 2, 0, 331, "CensusOffice$Editor", false),
  (6, 15, 2, 1, 332, "CensusOffice$Editor", false),
  (6, 20, 2, 2, 333, "CensusOffice$Editor", false),
  (10, 302, 2, 2, 334, "CensusOffice$Editor", true),
  (9, 9, 13, 0, 356, "java/util/ArrayList", false),
  (9, 48, 13, 1, 357, "java/util/ArrayList", false),
  (8, 7, 13, 2, 358, "java/util/AbstractList", false),
  (9, 63, 13, 2, 359, "java/util/ArrayList", false),
  (10, 10, 1, 0, 370, "CensusOffice", false),
  (10, 19, 1, 1, 371, "CensusOffice", false),
  (10, 28, 1, 2, 372, "CensusOffice", false),
  (10, 35, 1, 3, 373, "CensusOffice", false),
  (10, 42, 1, 4, 374, "CensusOffice", false),
  (10, 46, 1, 5, 375, "CensusOffice", false),
  (10, 49, 1, 6, 376, "CensusOffice", false),
  (10, 52, 1, 7, 377, "CensusOffice", false),
  (10, 55, 1, 8, 378, "CensusOffice", false),
  (10, 58, 1, 9, 379, "CensusOffice", false),
  (10, 66, 1, 10, 380, "CensusOffice", false),
  (10, 70, 1, 11, 381, "CensusOffice", false),
  (10, 73, 1, 12, 382, "CensusOffice", false),
  (19, 15, 10, 0, 925, "CensusOffice$Session", true),
  (17, 34, 10, 0, 926, "CensusOffice$Session", false),
  (10, 220, 10, 0, 927, "CensusOffice$Session", true),
  (19, 22, 10, 1, 928, "CensusOffice$Session", true),
  (17, 38, 10, 1, 929, "CensusOffice$Session", false),
  (19, 27, 10, 2, 930, "CensusOffice$Session", true),
  (17, 41, 10, 2, 931, "CensusOffice$Session", false),
  (19, 31, 10, 3, 932, "CensusOffice$Session", true),
  (17, 45, 10, 3, 933, "CensusOffice$Session", false),
  (10, 242, 10, 3, 934, "CensusOffice$Session", true),
  (17, 48, 10, 4, 935, "CensusOffice$Session", false),
  (17, 51, 10, 5, 936, "CensusOffice$Session", false),
  (10, 239, 10, 5, 937, "CensusOffice$Session", true),
  (17, 9, 10, 6, 938, "CensusOffice$Session", false),
  (17, 15, 10, 7, 939, "CensusOffice$Session", false),
  (17, 18, 10, 8, 940, "CensusOffice$Session", false),
  (17, 21, 10, 9, 941, "CensusOffice$Session", false),
  (17, 24, 10, 10, 942, "CensusOffice$Session", false),
  (17, 27, 10, 11, 943, "CensusOffice$Session", false),
  (17, 30, 10, 12, 944, "CensusOffice$Session", false),
  (10, 230, 10, 12, 945, "CensusOffice$Session", true),
  (19, 21, 5, 0, 1094, "CensusOffice$Rec", false),
  (6, 23, 5, 0, 1095, "CensusOffice$Rec", true),
  (10, 256, 5, 0, 1096, "CensusOffice$Rec", true),
  (19, 26, 5, 1, 1097, "CensusOffice$Rec", false),
  (10, 509, 5, 1, 1098, "CensusOffice$Rec", true),
  (19, 30, 5, 2, 1099, "CensusOffice$Rec", false),
  (19, 40, 5, 3, 1100, "CensusOffice$Rec", false),
  (21, 77, 5, 3, 1101, "CensusOffice$Rec", true),
  (6, 38, 5, 3, 1102, "CensusOffice$Rec", true),
  (10, 257, 5, 3, 1103, "CensusOffice$Rec", true),
  (19, 9, 5, 4, 1104, "CensusOffice$Rec", false),
  (10, 258, 5, 4, 1105, "CensusOffice$Rec", true),
  (20, 15, 9, 0, 1309, "CensusOffice$Sample", false),
  (20, 21, 9, 1, 1310, "CensusOffice$Sample", false),
  (20, 24, 9, 2, 1311, "CensusOffice$Sample", false),
  (21, 28, 11, 0, 1420, "CensusOffice$Table", false),
  (21, 32, 11, 1, 1421, "CensusOffice$Table", false),
  (21, 35, 11, 2, 1422, "CensusOffice$Table", false),
  (21, 38, 11, 3, 1423, "CensusOffice$Table", false),
  (21, 56, 11, 4, 1424, "CensusOffice$Table", false),
  (22, 44, 11, 4, 1425, "CensusOffice$Table", true),
  (10, 503, 11, 4, 1426, "CensusOffice$Table", true),
  (21, 59, 11, 5, 1427, "CensusOffice$Table", false),
  (22, 47, 11, 5, 1428, "CensusOffice$Table", true),
  (10, 506, 11, 5, 1429, "CensusOffice$Table", true),
  (22, 21, 11, 6, 1430, "CensusOffice$Table", true),
  (21, 62, 11, 6, 1431, "CensusOffice$Table", false),
  (21, 65, 11, 7, 1432, "CensusOffice$Table", false),
  (10, 404, 11, 7, 1433, "CensusOffice$Table", true),
  (21, 68, 11, 8, 1434, "CensusOffice$Table", false),
  (10, 411, 11, 8, 1435, "CensusOffice$Table", true),
  (21, 71, 11, 9, 1436, "CensusOffice$Table", false),
  (22, 15, 11, 10, 1437, "CensusOffice$Table", true),
  (21, 74, 11, 10, 1438, "CensusOffice$Table", false),
  (10, 416, 11, 10, 1439, "CensusOffice$Table", true),
  (21, 9, 11, 11, 1440, "CensusOffice$Table", false),
  (21, 15, 11, 12, 1441, "CensusOffice$Table", false),
  (10, 433, 11, 12, 1442, "CensusOffice$Table", true),
  (21, 19, 11, 13, 1443, "CensusOffice$Table", false),
  (22, 34, 11, 13, 1444, "CensusOffice$Table", true),
  (10, 430, 11, 13, 1445, "CensusOffice$Table", true),
  (21, 22, 11, 14, 1446, "CensusOffice$Table", false),
  (21, 25, 11, 15, 1447, "CensusOffice$Table", false),
  (22, 9, 7, 0, 1652, "CensusOffice$Release", false),
  (10, 475, 7, 0, 1653, "CensusOffice$Release", true),
  (22, 31, 7, 1, 1654, "CensusOffice$Release", false),
  (22, 37, 7, 2, 1655, "CensusOffice$Release", false),
  (22, 38, 7, 3, 1656, "CensusOffice$Release", false),
  (22, 41, 7, 4, 1657, "CensusOffice$Release", false),
  (11, 198, 14, 0, 1709, "CensusOfficeModel", false),
  (11, 202, 14, 1, 1710, "CensusOfficeModel", false),
  (11, 217, 14, 2, 1711, "CensusOfficeModel", false),
  (11, 7, 14, 3, 1712, "CensusOfficeModel", false),
  (11, 13, 14, 4, 1713, "CensusOfficeModel", false),
  (11, 241, 14, 5, 1714, "CensusOfficeModel", false),
  (11, 230, 14, 6, 1715, "CensusOfficeModel", false),
  (11, 16, 14, 7, 1716, "CensusOfficeModel", false),
  (11, 19, 14, 8, 1717, "CensusOfficeModel", false),
  (11, 22, 14, 9, 1718, "CensusOfficeModel", false),
  (11, 25, 14, 10, 1719, "CensusOfficeModel", false),
  (11, 28, 14, 11, 1720, "CensusOfficeModel", false),
  (11, 31, 14, 12, 1721, "CensusOfficeModel", false),
  (11, 249, 14, 13, 1722, "CensusOfficeModel", false),
  (11, 320, 14, 14, 1723, "CensusOfficeModel", false),
  (11, 34, 14, 15, 1724, "CensusOfficeModel", false),
  (11, 37, 14, 16, 1725, "CensusOfficeModel", false),
  (11, 40, 14, 17, 1726, "CensusOfficeModel", false),
  (11, 44, 14, 18, 1727, "CensusOfficeModel", false),
  (11, 47, 14, 19, 1728, "CensusOfficeModel", false),
  (11, 50, 14, 20, 1729, "CensusOfficeModel", false),
  (11, 53, 14, 21, 1730, "CensusOfficeModel", false),
  (11, 56, 14, 22, 1731, "CensusOfficeModel", false),
  (11, 59, 14, 23, 1732, "CensusOfficeModel", false),
  (11, 62, 14, 24, 1733, "CensusOfficeModel", false),
  (11, 65, 14, 25, 1734, "CensusOfficeModel", false),
  (11, 68, 14, 26, 1735, "CensusOfficeModel", false),
  (11, 303, 14, 27, 1736, "CensusOfficeModel", false),
  (11, 252, 14, 28, 1737, "CensusOfficeModel", false),
  (11, 261, 14, 29, 1738, "CensusOfficeModel", false),
  (11, 255, 14, 30, 1739, "CensusOfficeModel", false),
  (11, 268, 14, 31, 1740, "CensusOfficeModel", false),
  (11, 280, 14, 32, 1741, "CensusOfficeModel", false),
  (11, 334, 14, 33, 1742, "CensusOfficeModel", false),
  (11, 71, 14, 34, 1743, "CensusOfficeModel", false),
  (11, 74, 14, 35, 1744, "CensusOfficeModel", false),
  (11, 358, 14, 36, 1745, "CensusOfficeModel", false),
  (11, 361, 14, 37, 1746, "CensusOfficeModel", false),
  (11, 368, 14, 38, 1747, "CensusOfficeModel", false),
  (11, 77, 14, 39, 1748, "CensusOfficeModel", false),
  (11, 80, 14, 40, 1749, "CensusOfficeModel", false),
  (11, 83, 14, 41, 1750, "CensusOfficeModel", false),
  (11, 86, 14, 42, 1751, "CensusOfficeModel", false),
  (11, 90, 14, 43, 1752, "CensusOfficeModel", false),
  (11, 93, 14, 44, 1753, "CensusOfficeModel", false),
  (11, 96, 14, 45, 1754, "CensusOfficeModel", false),
  (11, 99, 14, 46, 1755, "CensusOfficeModel", false),
  (11, 102, 14, 47, 1756, "CensusOfficeModel", false),
  (11, 105, 14, 48, 1757, "CensusOfficeModel", false),
  (11, 108, 14, 49, 1758, "CensusOfficeModel", false),
  (11, 377, 14, 50, 1759, "CensusOfficeModel", false),
  (11, 371, 14, 51, 1760, "CensusOfficeModel", false),
  (11, 374, 14, 52, 1761, "CensusOfficeModel", false),
  (11, 398, 14, 53, 1762, "CensusOfficeModel", false),
  (11, 111, 14, 54, 1763, "CensusOfficeModel", false),
  (11, 114, 14, 55, 1764, "CensusOfficeModel", false),
  (11, 117, 14, 56, 1765, "CensusOfficeModel", false),
  (11, 120, 14, 57, 1766, "CensusOfficeModel", false),
  (11, 123, 14, 58, 1767, "CensusOfficeModel", false),
  (11, 126, 14, 59, 1768, "CensusOfficeModel", false),
  (11, 129, 14, 60, 1769, "CensusOfficeModel", false),
  (11, 132, 14, 61, 1770, "CensusOfficeModel", false),
  (11, 423, 14, 62, 1771, "CensusOfficeModel", false),
  (11, 426, 14, 63, 1772, "CensusOfficeModel", false),
  (11, 455, 14, 64, 1773, "CensusOfficeModel", false),
  (11, 135, 14, 65, 1774, "CensusOfficeModel", false),
  (11, 138, 14, 66, 1775, "CensusOfficeModel", false),
  (11, 141, 14, 67, 1776, "CensusOfficeModel", false),
  (11, 144, 14, 68, 1777, "CensusOfficeModel", false),
  (11, 470, 14, 69, 1778, "CensusOfficeModel", false),
  (11, 147, 14, 70, 1779, "CensusOfficeModel", false),
  (11, 150, 14, 71, 1780, "CensusOfficeModel", false),
  (11, 153, 14, 72, 1781, "CensusOfficeModel", false),
  (11, 156, 14, 73, 1782, "CensusOfficeModel", false),
  (11, 159, 14, 74, 1783, "CensusOfficeModel", false),
  (11, 162, 14, 75, 1784, "CensusOfficeModel", false),
  (11, 165, 14, 76, 1785, "CensusOfficeModel", false),
  (11, 168, 14, 77, 1786, "CensusOfficeModel", false),
  (11, 171, 14, 78, 1787, "CensusOfficeModel", false),
  (11, 490, 14, 79, 1788, "CensusOfficeModel", false),
  (11, 504, 14, 80, 1789, "CensusOfficeModel", false),
  (11, 174, 14, 81, 1790, "CensusOfficeModel", false),
  (11, 507, 14, 82, 1791, "CensusOfficeModel", false),
  (11, 177, 14, 83, 1792, "CensusOfficeModel", false),
  (11, 180, 14, 84, 1793, "CensusOfficeModel", false),
  (11, 183, 14, 85, 1794, "CensusOfficeModel", false),
  (11, 186, 14, 86, 1795, "CensusOfficeModel", false),
  (11, 189, 14, 87, 1796, "CensusOfficeModel", false),
  (11, 192, 14, 88, 1797, "CensusOfficeModel", false),
  (11, 510, 14, 89, 1798, "CensusOfficeModel", false),
  (11, 195, 14, 90, 1799, "CensusOfficeModel", false)]
/-- who, which entry, the method, how (0 virtual, 1 a constructor, 2 static; 3 more: by a nest), where the words stand: link, instance or static, initialized, selects, code -/
def aMl : List (Nat × Nat × Nat × Nat × Nat × Nat × Nat × Nat × Nat) := [(10, 9, 2, 4, 152, 153, 113, 0, 154),
  (10, 18, 3, 4, 204, 205, 116, 0, 206),
  (10, 25, 5, 1, 238, 239, 117, 0, 240),
  (10, 34, 6, 4, 326, 327, 119, 0, 328),
  (10, 41, 9, 1, 344, 345, 122, 0, 346),
  (10, 63, 1, 1, 369, 159, 114, 0, 160),
  (10, 89, 18, 0, 496, 497, 114, 498, 499),
  (10, 98, 24, 0, 516, 517, 113, 518, 519),
  (10, 102, 30, 0, 557, 559, 112, 1, 560),
  (10, 106, 31, 0, 584, 586, 112, 2, 587),
  (10, 113, 34, 0, 591, 593, 112, 3, 594),
  (10, 121, 35, 0, 621, 623, 112, 4, 624),
  (10, 124, 36, 0, 625, 626, 113, 627, 628),
  (10, 128, 42, 0, 637, 638, 113, 639, 640),
  (10, 137, 43, 0, 642, 643, 113, 644, 645),
  (10, 143, 50, 0, 654, 655, 113, 656, 657),
  (10, 152, 58, 0, 682, 683, 116, 684, 685),
  (10, 157, 65, 0, 701, 702, 122, 703, 704),
  (10, 164, 4, 1, 707, 245, 118, 0, 246),
  (10, 166, 90, 0, 708, 709, 117, 710, 711),
  (10, 170, 98, 0, 817, 818, 122, 819, 820),
  (10, 174, 120, 0, 881, 883, 112, 24, 884),
  (10, 178, 121, 0, 899, 901, 112, 25, 902),
  (10, 201, 127, 0, 914, 915, 113, 916, 917),
  (10, 205, 128, 1, 919, 920, 136, 0, 921),
  (10, 208, 136, 0, 973, 974, 136, 975, 976),
  (10, 211, 140, 0, 1017, 1019, 112, 30, 1020),
  (10, 215, 142, 0, 1021, 1022, 136, 1023, 1024),
  (10, 226, 155, 0, 1038, 1039, 136, 1040, 1041),
  (10, 236, 161, 0, 1068, 1069, 136, 1070, 1071),
  (10, 249, 168, 1, 1089, 1090, 138, 0, 1091),
  (10, 252, 172, 0, 1124, 1126, 112, 34, 1127),
  (10, 261, 181, 0, 1142, 1144, 112, 35, 1145),
  (10, 264, 182, 0, 1146, 1147, 118, 1148, 1149),
  (10, 279, 183, 0, 1156, 1157, 118, 1158, 1159),
  (10, 290, 193, 0, 1178, 1179, 118, 1180, 1181),
  (10, 294, 194, 0, 1192, 1193, 118, 1194, 1195),
  (10, 298, 206, 0, 1203, 1204, 119, 1205, 1206),
  (10, 309, 217, 0, 1248, 1249, 119, 1250, 1251),
  (10, 313, 218, 0, 1272, 1273, 138, 1274, 1275),
  (10, 317, 219, 0, 1278, 1279, 119, 1280, 1281),
  (10, 321, 220, 2, 1282, 1283, 137, 0, 1284),
  (10, 326, 228, 0, 1295, 1296, 113, 1297, 1298),
  (10, 335, 28, 0, 561, 562, 114, 563, 564),
  (10, 336, 229, 1, 1304, 1305, 139, 0, 1306),
  (10, 340, 235, 0, 1320, 1321, 139, 1322, 1323),
  (10, 344, 242, 0, 1357, 1359, 112, 47, 1360),
  (10, 350, 243, 0, 1362, 1363, 139, 1364, 1365),
  (10, 353, 248, 0, 1373, 1374, 139, 1375, 1376),
  (10, 356, 249, 0, 1377, 1378, 139, 1379, 1380),
  (10, 359, 254, 0, 1388, 1389, 139, 1390, 1391),
  (10, 364, 258, 0, 1400, 1401, 118, 1402, 1403),
  (10, 369, 259, 0, 1405, 1406, 118, 1407, 1408),
  (10, 378, 260, 1, 1413, 1414, 140, 0, 1415),
  (10, 381, 119, 0, 885, 886, 122, 887, 888),
  (10, 385, 261, 0, 1481, 1483, 112, 48, 1484),
  (10, 389, 262, 0, 1485, 1486, 140, 1487, 1488),
  (10, 393, 263, 0, 1491, 1492, 140, 1493, 1494),
  (10, 396, 267, 0, 1504, 1506, 112, 49, 1507),
  (10, 400, 268, 0, 1508, 1510, 112, 50, 1511),
  (10, 407, 270, 0, 1512, 1513, 140, 1514, 1515),
  (10, 414, 271, 0, 1520, 1521, 140, 1522, 1523),
  (10, 421, 283, 0, 1532, 1533, 140, 1534, 1535),
  (10, 424, 289, 0, 1571, 1573, 112, 58, 1574),
  (10, 427, 290, 0, 1575, 1576, 140, 1577, 1578),
  (10, 436, 295, 0, 1586, 1587, 140, 1588, 1589),
  (10, 439, 296, 0, 1590, 1591, 140, 1592, 1593),
  (10, 444, 303, 0, 1602, 1603, 140, 1604, 1605),
  (10, 451, 21, 0, 1628, 521, 114, 522, 523),
  (10, 453, 23, 0, 1629, 541, 114, 542, 543),
  (10, 455, 312, 0, 1637, 1639, 112, 62, 1640),
  (10, 458, 32, 0, 1641, 600, 114, 601, 602),
  (10, 469, 313, 1, 1647, 1648, 141, 0, 1649),
  (10, 471, 317, 0, 1676, 1678, 112, 63, 1679),
  (10, 481, 318, 0, 1681, 1682, 141, 1683, 1684),
  (10, 484, 29, 2, 565, 566, 112, 0, 567),
  (10, 496, 33, 0, 595, 596, 113, 597, 598),
  (6, 34, 182, 0, 1207, 1147, 118, 1148, 1149),
  (6, 42, 201, 0, 1209, 1211, 119, 37, 1212),
  (6, 46, 205, 0, 1223, 1225, 119, 39, 1226),
  (6, 50, 203, 2, 1227, 1228, 137, 0, 1229),
  (6, 56, 152, 2, 1234, 1053, 137, 0, 1054),
  (6, 59, 204, 0, 1235, 1236, 118, 1237, 1238),
  (6, 62, 199, 5, 1213, 1214, 112, 0, 1215),
  (6, 69, 200, 0, 1216, 1218, 119, 38, 1219),
  (6, 77, 28, 0, 1220, 562, 114, 563, 564),
  (6, 83, 192, 0, 1221, 1184, 118, 1185, 1186),
  (6, 87, 32, 0, 1222, 600, 114, 601, 602),
  (6, 94, 65, 0, 1252, 702, 122, 703, 704),
  (6, 97, 119, 0, 1253, 886, 122, 887, 888),
  (6, 101, 214, 0, 1255, 1257, 119, 40, 1258),
  (6, 105, 216, 0, 1265, 1267, 119, 41, 1268),
  (6, 109, 213, 0, 1259, 1260, 138, 1261, 1262),
  (6, 113, 193, 0, 1264, 1179, 118, 1180, 1181),
  (6, 117, 215, 2, 1269, 1270, 115, 0, 1271),
  (4, 36, 1, 1, 249, 159, 114, 0, 160),
  (4, 53, 0, 2, 250, 163, 115, 0, 164),
  (4, 65, 141, 0, 1150, 1026, 118, 1027, 1028),
  (4, 69, 132, 0, 985, 987, 118, 26, 988),
  (4, 73, 133, 0, 981, 982, 118, 983, 984),
  (4, 78, 131, 0, 1000, 1002, 118, 29, 1003),
  (4, 82, 129, 0, 989, 991, 118, 27, 992),
  (4, 86, 130, 0, 996, 998, 118, 28, 999),
  (4, 95, 21, 0, 1160, 521, 114, 522, 523),
  (4, 99, 23, 0, 1161, 541, 114, 542, 543),
  (4, 103, 32, 0, 1187, 600, 114, 601, 602),
  (4, 106, 191, 0, 1188, 1190, 118, 36, 1191),
  (4, 110, 28, 0, 1182, 562, 114, 563, 564),
  (4, 113, 192, 0, 1183, 1184, 118, 1185, 1186),
  (5, 11, 4, 1, 244, 245, 118, 0, 246),
  (5, 35, 72, 0, 712, 713, 116, 714, 715),
  (5, 40, 89, 0, 740, 742, 117, 11, 743),
  (5, 50, 74, 0, 744, 746, 117, 12, 747),
  (5, 57, 75, 0, 756, 758, 117, 13, 759),
  (5, 61, 71, 0, 760, 717, 116, 718, 719),
  (5, 64, 76, 0, 761, 762, 118, 763, 764),
  (5, 67, 79, 0, 765, 767, 117, 14, 768),
  (5, 70, 82, 0, 781, 783, 117, 16, 784),
  (5, 73, 85, 0, 793, 795, 117, 18, 796),
  (5, 76, 86, 0, 805, 806, 118, 807, 808),
  (5, 81, 73, 0, 749, 750, 116, 751, 752),
  (5, 85, 87, 0, 809, 811, 117, 20, 812),
  (5, 88, 88, 0, 813, 814, 118, 815, 816),
  (5, 103, 77, 0, 769, 771, 117, 15, 772),
  (5, 106, 78, 0, 777, 778, 118, 779, 780),
  (5, 116, 80, 0, 785, 787, 117, 17, 788),
  (5, 119, 81, 0, 789, 790, 118, 791, 792),
  (5, 126, 83, 0, 801, 802, 118, 803, 804),
  (5, 129, 84, 0, 797, 799, 117, 19, 800),
  (19, 34, 20, 2, 1093, 525, 129, 0, 526),
  (19, 41, 193, 0, 1263, 1179, 118, 1180, 1181),
  (19, 50, 199, 5, 1276, 1214, 112, 0, 1215),
  (19, 57, 134, 0, 1277, 978, 118, 979, 980),
  (2, 11, 1, 1, 158, 159, 114, 0, 160),
  (2, 37, 21, 0, 520, 521, 114, 522, 523),
  (2, 41, 23, 0, 540, 541, 114, 542, 543),
  (2, 45, 28, 0, 629, 562, 114, 563, 564),
  (2, 48, 32, 0, 599, 600, 114, 601, 602),
  (2, 52, 49, 0, 658, 660, 113, 5, 661),
  (2, 55, 42, 0, 666, 638, 113, 639, 640),
  (2, 59, 50, 0, 918, 655, 113, 656, 657),
  (2, 63, 48, 2, 662, 663, 129, 0, 664),
  (2, 69, 33, 0, 1299, 596, 113, 597, 598),
  (22, 25, 20, 2, 1651, 525, 129, 0, 526),
  (22, 50, 290, 0, 1685, 1576, 140, 1577, 1578),
  (22, 54, 270, 0, 1686, 1513, 140, 1514, 1515),
  (1, 21, 0, 2, 162, 163, 115, 0, 164),
  (1, 31, 22, 0, 544, 545, 114, 546, 547),
  (1, 36, 20, 2, 524, 525, 129, 0, 526),
  (20, 9, 0, 2, 1308, 163, 115, 0, 164),
  (20, 28, 230, 0, 1324, 1326, 139, 42, 1327),
  (20, 32, 231, 0, 1330, 1332, 139, 43, 1333),
  (20, 36, 233, 0, 1334, 1336, 139, 44, 1337),
  (20, 40, 234, 0, 1345, 1347, 139, 46, 1348),
  (20, 44, 20, 2, 1329, 525, 129, 0, 526),
  (20, 50, 232, 0, 1338, 1340, 139, 45, 1341),
  (20, 56, 19, 2, 1349, 535, 115, 0, 536),
  (17, 55, 48, 2, 924, 663, 129, 0, 664),
  (17, 61, 141, 0, 1025, 1026, 118, 1027, 1028),
  (17, 73, 134, 0, 977, 978, 118, 979, 980),
  (17, 77, 133, 0, 1005, 982, 118, 983, 984),
  (17, 81, 135, 0, 1006, 1007, 118, 1008, 1009),
  (17, 84, 142, 0, 1042, 1022, 136, 1023, 1024),
  (17, 88, 136, 0, 1043, 974, 136, 975, 976),
  (17, 91, 153, 0, 1044, 1046, 136, 31, 1047),
  (17, 95, 154, 0, 1056, 1058, 136, 33, 1059),
  (17, 98, 151, 0, 1048, 1050, 136, 32, 1051),
  (17, 101, 152, 2, 1052, 1053, 137, 0, 1054),
  (21, 41, 259, 0, 1417, 1406, 118, 1407, 1408),
  (21, 47, 19, 2, 1418, 535, 115, 0, 536),
  (21, 53, 0, 2, 1419, 163, 115, 0, 164),
  (21, 83, 213, 0, 1490, 1260, 138, 1261, 1262),
  (21, 96, 199, 5, 1496, 1214, 112, 0, 1215),
  (21, 100, 269, 0, 1516, 1518, 140, 51, 1519),
  (21, 107, 281, 0, 1538, 1540, 140, 52, 1541),
  (21, 110, 282, 0, 1558, 1560, 140, 57, 1561),
  (21, 114, 203, 2, 1562, 1228, 137, 0, 1229),
  (21, 119, 152, 2, 1563, 1053, 137, 0, 1054),
  (21, 122, 279, 0, 1542, 1544, 140, 53, 1545),
  (21, 125, 280, 0, 1554, 1556, 140, 56, 1557),
  (21, 128, 277, 0, 1546, 1548, 140, 54, 1549),
  (21, 131, 278, 0, 1550, 1552, 140, 55, 1553),
  (21, 135, 302, 0, 1606, 1608, 140, 59, 1609),
  (21, 139, 220, 2, 1618, 1283, 137, 0, 1284),
  (21, 142, 301, 0, 1610, 1612, 140, 60, 1613),
  (21, 146, 300, 0, 1614, 1616, 140, 61, 1617),
  (3, 35, 71, 0, 716, 717, 116, 718, 719),
  (3, 38, 66, 0, 720, 722, 116, 6, 723),
  (3, 42, 67, 0, 724, 726, 116, 7, 727),
  (3, 45, 68, 0, 728, 730, 116, 8, 731),
  (3, 48, 69, 0, 732, 734, 116, 9, 735),
  (3, 52, 70, 0, 736, 738, 116, 10, 739),
  (12, 7, 12, 0, 414, 415, 112, 416, 417),
  (12, 15, 25, 0, 492, 493, 112, 494, 495),
  (12, 21, 37, 0, 553, 554, 112, 555, 556),
  (12, 29, 44, 0, 633, 634, 112, 635, 636),
  (12, 33, 51, 0, 649, 650, 112, 651, 652),
  (12, 36, 55, 0, 670, 671, 112, 672, 673),
  (12, 39, 59, 0, 677, 678, 112, 679, 680),
  (12, 43, 62, 0, 689, 690, 112, 691, 692),
  (12, 46, 99, 0, 697, 698, 112, 699, 700),
  (12, 49, 122, 0, 877, 878, 112, 879, 880),
  (12, 53, 137, 0, 907, 908, 112, 909, 910),
  (12, 56, 143, 0, 1013, 1014, 112, 1015, 1016),
  (12, 59, 156, 0, 1032, 1033, 112, 1034, 1035),
  (12, 62, 162, 0, 1063, 1064, 112, 1065, 1066),
  (12, 65, 165, 0, 1075, 1076, 112, 1077, 1078),
  (12, 69, 169, 0, 1082, 1083, 112, 1084, 1085),
  (12, 72, 173, 0, 1120, 1121, 112, 1122, 1123),
  (12, 75, 178, 0, 1131, 1132, 112, 1133, 1134),
  (12, 78, 184, 0, 1138, 1139, 112, 1140, 1141),
  (12, 81, 188, 0, 1165, 1166, 112, 1167, 1168),
  (12, 84, 195, 0, 1173, 1174, 112, 1175, 1176),
  (12, 87, 207, 0, 1199, 1200, 112, 1201, 1202),
  (12, 91, 221, 0, 1242, 1243, 112, 1244, 1245),
  (12, 94, 236, 0, 1291, 1292, 112, 1293, 1294),
  (12, 98, 244, 0, 1353, 1354, 112, 1355, 1356),
  (12, 101, 250, 0, 1369, 1370, 112, 1371, 1372),
  (12, 104, 255, 0, 1384, 1385, 112, 1386, 1387),
  (12, 107, 264, 0, 1395, 1396, 112, 1397, 1398),
  (12, 110, 272, 0, 1500, 1501, 112, 1502, 1503),
  (12, 113, 284, 0, 1527, 1528, 112, 1529, 1530),
  (12, 116, 291, 0, 1567, 1568, 112, 1569, 1570),
  (12, 119, 297, 0, 1582, 1583, 112, 1584, 1585),
  (12, 123, 304, 0, 1597, 1598, 112, 1599, 1600),
  (12, 126, 309, 0, 1622, 1623, 112, 1624, 1625),
  (12, 129, 314, 0, 1633, 1634, 112, 1635, 1636),
  (12, 132, 319, 0, 1672, 1673, 112, 1674, 1675),
  (12, 135, 322, 0, 1690, 1691, 112, 1692, 1693),
  (12, 138, 325, 0, 1698, 1699, 112, 1700, 1701),
  (12, 141, 10, 1, 144, 145, 112, 0, 146),
  (12, 144, 11, 1, 1705, 1706, 123, 0, 1707),
  (12, 145, 13, 2, 410, 411, 111, 0, 412),
  (12, 150, 16, 0, 1987, 1988, 123, 1989, 1990),
  (12, 151, 17, 0, 1983, 1984, 123, 1985, 1986),
  (12, 154, 26, 2, 488, 489, 111, 0, 490),
  (12, 157, 27, 0, 2000, 2001, 123, 2002, 2003),
  (12, 158, 38, 2, 548, 549, 111, 0, 550),
  (12, 161, 41, 0, 2004, 2005, 123, 2006, 2007),
  (12, 162, 45, 2, 630, 631, 111, 0, 632),
  (12, 165, 47, 0, 2019, 2020, 123, 2021, 2022),
  (12, 166, 52, 2, 646, 647, 111, 0, 648),
  (12, 168, 54, 0, 2027, 2028, 123, 2029, 2030),
  (12, 169, 56, 2, 667, 668, 111, 0, 669),
  (12, 171, 57, 0, 2036, 2037, 123, 2038, 2039),
  (12, 172, 60, 2, 674, 675, 111, 0, 676),
  (12, 175, 61, 0, 2040, 2041, 123, 2042, 2043),
  (12, 176, 63, 2, 686, 687, 111, 0, 688),
  (12, 178, 64, 0, 2044, 2045, 123, 2046, 2047),
  (12, 179, 100, 2, 694, 695, 111, 0, 696),
  (12, 181, 115, 0, 2048, 2049, 123, 2050, 2051),
  (12, 182, 123, 2, 874, 875, 111, 0, 876),
  (12, 185, 126, 0, 2118, 2119, 123, 2120, 2121),
  (12, 186, 138, 2, 904, 905, 111, 0, 906),
  (12, 188, 139, 0, 2131, 2132, 123, 2133, 2134),
  (12, 189, 144, 2, 1010, 1011, 111, 0, 1012),
  (12, 191, 150, 0, 2135, 2136, 123, 2137, 2138),
  (12, 192, 157, 2, 1029, 1030, 111, 0, 1031),
  (12, 194, 160, 0, 2159, 2160, 123, 2161, 2162),
  (12, 195, 163, 2, 1060, 1061, 111, 0, 1062),
  (12, 197, 164, 0, 2171, 2172, 123, 2173, 2174),
  (12, 198, 166, 2, 1072, 1073, 111, 0, 1074),
  (12, 201, 167, 0, 2175, 2176, 123, 2177, 2178),
  (12, 202, 170, 2, 1079, 1080, 111, 0, 1081),
  (12, 204, 171, 0, 2179, 2180, 123, 2181, 2182),
  (12, 205, 174, 2, 1117, 1118, 111, 0, 1119),
  (12, 207, 177, 0, 2183, 2184, 123, 2185, 2186),
  (12, 208, 179, 2, 1128, 1129, 111, 0, 1130),
  (12, 210, 180, 0, 2195, 2196, 123, 2197, 2198),
  (12, 211, 185, 2, 1135, 1136, 111, 0, 1137),
  (12, 213, 187, 0, 2199, 2200, 123, 2201, 2202),
  (12, 214, 189, 2, 1162, 1163, 111, 0, 1164),
  (12, 216, 190, 0, 2209, 2210, 123, 2211, 2212),
  (12, 217, 196, 2, 1170, 1171, 111, 0, 1172),
  (12, 219, 198, 0, 2214, 2215, 123, 2216, 2217),
  (12, 220, 208, 2, 1196, 1197, 111, 0, 1198),
  (12, 223, 212, 0, 2222, 2223, 123, 2224, 2225),
  (12, 224, 222, 2, 1239, 1240, 111, 0, 1241),
  (12, 226, 227, 0, 2238, 2239, 123, 2240, 2241),
  (12, 227, 237, 2, 1288, 1289, 111, 0, 1290),
  (12, 230, 241, 0, 2258, 2259, 123, 2260, 2261),
  (12, 231, 245, 2, 1350, 1351, 111, 0, 1352),
  (12, 233, 247, 0, 2276, 2277, 123, 2278, 2279),
  (12, 234, 251, 2, 1366, 1367, 111, 0, 1368),
  (12, 236, 253, 0, 2284, 2285, 123, 2286, 2287),
  (12, 237, 256, 2, 1381, 1382, 111, 0, 1383),
  (12, 239, 257, 0, 2291, 2292, 123, 2293, 2294),
  (12, 240, 265, 2, 1392, 1393, 111, 0, 1394),
  (12, 242, 266, 0, 2295, 2296, 123, 2297, 2298),
  (12, 243, 273, 2, 1497, 1498, 111, 0, 1499),
  (12, 245, 276, 0, 2299, 2300, 123, 2301, 2302),
  (12, 246, 285, 2, 1524, 1525, 111, 0, 1526),
  (12, 248, 288, 0, 2311, 2312, 123, 2313, 2314),
  (12, 249, 292, 2, 1564, 1565, 111, 0, 1566),
  (12, 251, 294, 0, 2324, 2325, 123, 2326, 2327),
  (12, 252, 298, 2, 1579, 1580, 111, 0, 1581),
  (12, 255, 299, 0, 2332, 2333, 123, 2334, 2335),
  (12, 256, 305, 2, 1594, 1595, 111, 0, 1596),
  (12, 258, 308, 0, 2336, 2337, 123, 2338, 2339),
  (12, 259, 310, 2, 1619, 1620, 111, 0, 1621),
  (12, 261, 311, 0, 2349, 2350, 123, 2351, 2352),
  (12, 262, 315, 2, 1630, 1631, 111, 0, 1632),
  (12, 264, 316, 0, 2354, 2355, 123, 2356, 2357),
  (12, 265, 320, 2, 1669, 1670, 111, 0, 1671),
  (12, 267, 321, 0, 2358, 2359, 123, 2360, 2361),
  (12, 268, 323, 2, 1687, 1688, 111, 0, 1689),
  (12, 270, 324, 0, 2362, 2363, 123, 2364, 2365),
  (12, 271, 326, 2, 1695, 1696, 111, 0, 1697),
  (12, 273, 327, 0, 2366, 2367, 123, 2368, 2369),
  (11, 207, 14, 2, 1992, 1993, 123, 0, 1994),
  (11, 213, 15, 0, 1996, 1998, 123, 64, 1999),
  (11, 220, 39, 0, 2008, 2010, 123, 65, 2011),
  (11, 233, 40, 0, 2015, 2017, 123, 66, 2018),
  (11, 237, 46, 0, 2023, 2025, 123, 67, 2026),
  (11, 245, 53, 0, 2031, 2033, 123, 68, 2034),
  (11, 258, 101, 0, 2056, 2058, 123, 70, 2059),
  (11, 272, 102, 2, 2062, 2063, 123, 0, 2064),
  (11, 283, 103, 0, 2067, 2069, 123, 71, 2070),
  (11, 306, 109, 0, 2106, 2108, 123, 78, 2109),
  (11, 310, 104, 0, 2052, 2054, 123, 69, 2055),
  (11, 313, 110, 0, 2110, 2112, 123, 79, 2113),
  (11, 317, 105, 2, 2079, 2080, 123, 0, 2081),
  (11, 323, 106, 0, 2086, 2088, 123, 73, 2089),
  (11, 327, 111, 0, 2102, 2104, 123, 77, 2105),
  (11, 331, 112, 0, 2098, 2100, 123, 76, 2101),
  (11, 337, 108, 0, 2090, 2092, 123, 74, 2093),
  (11, 340, 113, 0, 2114, 2116, 123, 80, 2117),
  (11, 343, 107, 0, 2094, 2096, 123, 75, 2097),
  (11, 346, 114, 0, 2071, 2073, 123, 72, 2074),
  (11, 349, 124, 0, 2126, 2128, 123, 82, 2129),
  (11, 352, 125, 0, 2122, 2124, 123, 81, 2125),
  (11, 365, 146, 0, 2155, 2157, 123, 87, 2158),
  (11, 380, 147, 0, 2151, 2153, 123, 86, 2154),
  (11, 383, 148, 0, 2147, 2149, 123, 85, 2150),
  (11, 386, 145, 0, 2139, 2141, 123, 83, 2142),
  (11, 389, 149, 0, 2143, 2145, 123, 84, 2146),
  (11, 392, 158, 0, 2163, 2165, 123, 88, 2166),
  (11, 395, 159, 0, 2167, 2169, 123, 89, 2170),
  (11, 401, 175, 0, 2191, 2193, 123, 91, 2194),
  (11, 404, 176, 0, 2187, 2189, 123, 90, 2190),
  (11, 407, 186, 0, 2203, 2205, 123, 92, 2206),
  (11, 416, 197, 0, 2218, 2220, 123, 93, 2221),
  (11, 419, 209, 0, 2234, 2236, 123, 96, 2237),
  (11, 429, 210, 0, 2230, 2232, 123, 95, 2233),
  (11, 432, 211, 0, 2226, 2228, 123, 94, 2229),
  (11, 435, 223, 0, 2246, 2248, 123, 98, 2249),
  (11, 438, 224, 0, 2242, 2244, 123, 97, 2245),
  (11, 442, 225, 0, 2250, 2252, 123, 99, 2253),
  (11, 446, 226, 0, 2254, 2256, 123, 100, 2257),
  (11, 452, 239, 2, 2270, 2271, 123, 0, 2272),
  (11, 458, 238, 0, 2262, 2264, 123, 101, 2265),
  (11, 461, 240, 0, 2266, 2268, 123, 102, 2269),
  (11, 464, 246, 0, 2280, 2282, 123, 103, 2283),
  (11, 467, 252, 2, 2288, 2289, 123, 0, 2290),
  (11, 473, 274, 0, 2303, 2305, 123, 104, 2306),
  (11, 476, 275, 0, 2307, 2309, 123, 105, 2310),
  (11, 481, 286, 0, 2320, 2322, 123, 107, 2323),
  (11, 484, 287, 0, 2316, 2318, 123, 106, 2319),
  (11, 487, 293, 0, 2328, 2330, 123, 108, 2331),
  (11, 493, 306, 0, 2345, 2347, 123, 110, 2348),
  (11, 499, 307, 0, 2341, 2343, 123, 109, 2344),
  (18, 51, 202, 2, 1231, 1232, 137, 0, 1233),
  (8, 1, 7, 1, 350, 351, 120, 0, 352),
  (9, 1, 8, 1, 347, 348, 121, 0, 349),
  (9, 66, 94, 2, 841, 842, 129, 0, 843),
  (9, 69, 95, 0, 829, 831, 122, 23, 832),
  (9, 73, 92, 2, 833, 834, 133, 0, 835),
  (9, 79, 0, 2, 872, 163, 115, 0, 164),
  (9, 118, 117, 2, 889, 890, 134, 0, 891),
  (9, 123, 118, 0, 895, 896, 122, 897, 898),
  (9, 129, 96, 0, 825, 827, 122, 22, 828),
  (9, 131, 97, 0, 821, 823, 122, 21, 824),
  (13, 300, 93, 2, 866, 867, 129, 0, 868),
  (13, 304, 19, 2, 534, 535, 115, 0, 536),
  (16, 105, 116, 2, 892, 893, 135, 0, 894),
  (14, 194, 0, 2, 836, 163, 115, 0, 164),
  (14, 201, 91, 2, 838, 839, 133, 0, 840)]
def aMt0 : List (MethodName × Nat × ByteArray × Nat × Option FieldType × List (Nat × Nat × Nat × Nat)) := [(⟨"java/lang/Math", "max", "(II)I"⟩, 0, prog_23_method_65_code, 2, (some (.int)), []),
  (⟨"CensusOffice$Rows", "<init>", "(II)V"⟩, 1, prog_8_method_1_code, 3, none, []),
  (⟨"CensusOffice$Register", "<init>", "()V"⟩, 2, prog_6_method_1_code, 1, none, []),
  (⟨"CensusOffice$Tape", "<init>", "()V"⟩, 3, prog_12_method_1_code, 1, none, []),
  (⟨"CensusOffice$Form", "<init>", "(I)V"⟩, 4, prog_3_method_1_code, 2, none, []),
  (⟨"CensusOffice$Reader", "<init>", "(LCensusOffice$Tape;)V"⟩, 5, prog_4_method_1_code, 2, none, []),
  (⟨"CensusOffice$Editor", "<init>", "()V"⟩, 6, prog_2_method_1_code, 1, none, []),
  (⟨"java/util/AbstractCollection", "<init>", "()V"⟩, 7, prog_29_method_1_code, 1, none, []),
  (⟨"java/util/AbstractList", "<init>", "()V"⟩, 8, prog_30_method_1_code, 1, none, []),
  (⟨"java/util/ArrayList", "<init>", "()V"⟩, 9, prog_31_method_2_code, 1, none, []),
  (⟨"CensusOffice", "<init>", "()V"⟩, 10, prog_1_method_1_code, 1, none, []),
  (⟨"CensusOfficeModel", "<init>", "()V"⟩, 11, prog_14_method_1_code, 1, none, []),
  (⟨"CensusOffice", "tick", "(I)I"⟩, 10, prog_1_method_2_code, 2, (some (.int)), []),
  (⟨"CensusOfficeLaw", "tick", "(LCensusOffice;I[J)I"⟩, 12, method_3_code, 4, (some (.int)), [(0, 9, 12, 13)]),
  (⟨"CensusOfficeModel", "isIn", "(JJJ)Z"⟩, 11, prog_14_method_4_code, 6, (some (.boolean)), []),
  (⟨"CensusOfficeModel", "fail", "(I)I"⟩, 11, prog_14_method_3_code, 2, (some (.int)), [])]
def aMt1 : List (MethodName × Nat × ByteArray × Nat × Option FieldType × List (Nat × Nat × Nat × Nat)) := [(⟨"CensusOfficeModel", "tick", "(I)I"⟩, 11, prog_14_method_6_code, 2, (some (.int)), []),
  (⟨"CensusOfficeModel", "thrown", "()I"⟩, 11, prog_14_method_2_code, 1, (some (.int)), []),
  (⟨"CensusOffice$Rows", "isFull", "()Z"⟩, 1, prog_8_method_3_code, 1, (some (.boolean)), []),
  (⟨"java/lang/Math", "min", "(II)I"⟩, 0, prog_23_method_69_code, 2, (some (.int)), []),
  (⟨"java/util/Arrays", "copyOf", "([II)[I"⟩, 13, prog_32_method_123_code, 3, (some (.array (.int))), []),
  (⟨"CensusOffice$Rows", "add", "()I"⟩, 1, prog_8_method_7_code, 1, (some (.int)), []),
  (⟨"CensusOffice$Rows", "has", "(I)Z"⟩, 1, prog_8_method_4_code, 2, (some (.boolean)), []),
  (⟨"CensusOffice$Rows", "put", "(III)V"⟩, 1, prog_8_method_6_code, 4, none, []),
  (⟨"CensusOffice$Register", "addUnit", "()I"⟩, 2, prog_6_method_2_code, 2, (some (.int)), []),
  (⟨"CensusOffice", "unit", "()I"⟩, 10, prog_1_method_3_code, 1, (some (.int)), []),
  (⟨"CensusOfficeLaw", "unit", "(LCensusOffice;[J)I"⟩, 12, method_4_code, 3, (some (.int)), [(0, 8, 11, 19)]),
  (⟨"CensusOfficeModel", "unit", "()I"⟩, 11, prog_14_method_8_code, 1, (some (.int)), []),
  (⟨"CensusOffice$Rows", "size", "()I"⟩, 1, prog_8_method_2_code, 1, (some (.int)), []),
  (⟨"CensusOffice", "needIndex", "(II)V"⟩, 10, prog_1_method_41_code, 2, none, []),
  (⟨"CensusOffice", "needUnit", "(I)V"⟩, 10, prog_1_method_42_code, 2, none, []),
  (⟨"CensusOffice", "needField", "(I)V"⟩, 10, prog_1_method_43_code, 2, none, [])]
def aMt2 : List (MethodName × Nat × ByteArray × Nat × Option FieldType × List (Nat × Nat × Nat × Nat)) := [(⟨"CensusOffice$Rows", "at", "(II)I"⟩, 1, prog_8_method_5_code, 3, (some (.int)), []),
  (⟨"CensusOffice$Register", "wentAway", "(I)Z"⟩, 2, prog_6_method_5_code, 2, (some (.boolean)), []),
  (⟨"CensusOffice", "needUnmerged", "(I)V"⟩, 10, prog_1_method_44_code, 2, none, []),
  (⟨"CensusOffice", "today", "()I"⟩, 10, prog_1_method_40_code, 1, (some (.int)), []),
  (⟨"CensusOffice$Register", "addTelling", "(IIIII)I"⟩, 2, prog_6_method_3_code, 7, (some (.int)), []),
  (⟨"CensusOffice", "tell", "(IIII)I"⟩, 10, prog_1_method_4_code, 5, (some (.int)), []),
  (⟨"CensusOfficeLaw", "tell", "(LCensusOffice;IIII[J)I"⟩, 12, method_5_code, 7, (some (.int)), [(0, 14, 17, 25), (0, 14, 21, 13), (0, 14, 25, 27), (0, 14, 29, 19)]),
  (⟨"CensusOfficeModel", "isUnit", "(I)Z"⟩, 11, prog_14_method_7_code, 2, (some (.boolean)), []),
  (⟨"CensusOfficeModel", "today", "()I"⟩, 11, prog_14_method_5_code, 1, (some (.int)), []),
  (⟨"CensusOfficeModel", "tell", "(IIII)I"⟩, 11, prog_14_method_9_code, 5, (some (.int)), []),
  (⟨"CensusOffice$Register", "lastKnown", "(II)I"⟩, 2, prog_6_method_6_code, 6, (some (.int)), []),
  (⟨"CensusOffice$Register", "addMerge", "(III)V"⟩, 2, prog_6_method_4_code, 4, none, []),
  (⟨"CensusOffice", "merge", "(II)I"⟩, 10, prog_1_method_5_code, 4, (some (.int)), []),
  (⟨"CensusOfficeLaw", "merge", "(LCensusOffice;II[J)I"⟩, 12, method_6_code, 5, (some (.int)), [(0, 10, 13, 25), (0, 10, 17, 27)]),
  (⟨"CensusOfficeModel", "lastAs", "(II)I"⟩, 11, prog_14_method_10_code, 4, (some (.int)), []),
  (⟨"CensusOfficeModel", "merge", "(II)I"⟩, 11, prog_14_method_11_code, 3, (some (.int)), [])]
def aMt3 : List (MethodName × Nat × ByteArray × Nat × Option FieldType × List (Nat × Nat × Nat × Nat)) := [(⟨"java/util/Arrays", "fill", "([II)V"⟩, 13, prog_32_method_103_code, 4, none, []),
  (⟨"CensusOffice$Register", "findNumbers", "(III)V"⟩, 2, prog_6_method_10_code, 7, none, []),
  (⟨"CensusOffice$Register", "numberOf", "(IIII)I"⟩, 2, prog_6_method_7_code, 6, (some (.int)), []),
  (⟨"CensusOffice", "value", "(IIII)I"⟩, 10, prog_1_method_6_code, 5, (some (.int)), []),
  (⟨"CensusOfficeLaw", "value", "(LCensusOffice;IIII[J)I"⟩, 12, method_7_code, 7, (some (.int)), [(0, 14, 17, 25), (0, 14, 21, 13)]),
  (⟨"CensusOfficeModel", "valueOf", "(IIII)I"⟩, 11, prog_14_method_12_code, 8, (some (.int)), []),
  (⟨"CensusOfficeModel", "value", "(IIII)I"⟩, 11, prog_14_method_13_code, 5, (some (.int)), []),
  (⟨"CensusOffice", "last", "(I)I"⟩, 10, prog_1_method_7_code, 2, (some (.int)), []),
  (⟨"CensusOfficeLaw", "last", "(LCensusOffice;I[J)I"⟩, 12, method_8_code, 4, (some (.int)), [(0, 9, 12, 25)]),
  (⟨"CensusOfficeModel", "last", "(I)I"⟩, 11, prog_14_method_14_code, 2, (some (.int)), []),
  (⟨"CensusOffice$Tape", "put", "(I)V"⟩, 3, prog_12_method_2_code, 3, none, []),
  (⟨"CensusOffice", "feed", "(IIIII)I"⟩, 10, prog_1_method_8_code, 6, (some (.int)), []),
  (⟨"CensusOfficeLaw", "feed", "(LCensusOffice;IIIII[J)I"⟩, 12, method_9_code, 8, (some (.int)), [(0, 16, 19, 19)]),
  (⟨"CensusOfficeModel", "feed", "(IIIII)I"⟩, 11, prog_14_method_15_code, 8, (some (.int)), []),
  (⟨"CensusOffice", "trim", "(I)I"⟩, 10, prog_1_method_9_code, 3, (some (.int)), []),
  (⟨"CensusOfficeLaw", "trim", "(LCensusOffice;I[J)I"⟩, 12, method_10_code, 4, (some (.int)), [(0, 9, 12, 13)])]
def aMt4 : List (MethodName × Nat × ByteArray × Nat × Option FieldType × List (Nat × Nat × Nat × Nat)) := [(⟨"CensusOfficeModel", "trim", "(I)I"⟩, 11, prog_14_method_16_code, 3, (some (.int)), []),
  (⟨"java/util/ArrayList", "size", "()I"⟩, 9, prog_31_method_8_code, 1, (some (.int)), []),
  (⟨"CensusOffice$Tape", "isBlank", "(I)Z"⟩, 3, prog_12_method_6_code, 2, (some (.boolean)), []),
  (⟨"CensusOffice$Tape", "takeWord", "()V"⟩, 3, prog_12_method_7_code, 1, none, []),
  (⟨"CensusOffice$Tape", "takeNumber", "()V"⟩, 3, prog_12_method_8_code, 1, none, []),
  (⟨"CensusOffice$Tape", "takeRelation", "(I)V"⟩, 3, prog_12_method_10_code, 3, none, []),
  (⟨"CensusOffice$Tape", "takeSign", "(I)V"⟩, 3, prog_12_method_9_code, 2, none, []),
  (⟨"CensusOffice$Tape", "advance", "()V"⟩, 3, prog_12_method_5_code, 2, none, []),
  (⟨"CensusOffice$Tape", "rewind", "()V"⟩, 3, prog_12_method_3_code, 1, none, []),
  (⟨"CensusOffice$Tape", "isAtWord", "(J)Z"⟩, 3, prog_12_method_4_code, 3, (some (.boolean)), []),
  (⟨"CensusOffice$Reader", "sortHere", "()I"⟩, 5, prog_4_method_4_code, 1, (some (.int)), []),
  (⟨"CensusOffice$Reader", "failAt", "(I)Z"⟩, 5, prog_4_method_12_code, 2, (some (.boolean)), []),
  (⟨"CensusOffice$Form", "begin", "(I)V"⟩, 4, prog_3_method_2_code, 2, none, []),
  (⟨"CensusOffice$Reader", "isKept", "(J)Z"⟩, 5, prog_4_method_6_code, 3, (some (.boolean)), []),
  (⟨"CensusOffice$Form", "named", "(J)I"⟩, 4, prog_3_method_7_code, 4, (some (.int)), []),
  (⟨"CensusOffice$Reader", "readName", "()Z"⟩, 5, prog_4_method_5_code, 1, (some (.boolean)), [])]
def aMt5 : List (MethodName × Nat × ByteArray × Nat × Option FieldType × List (Nat × Nat × Nat × Nat)) := [(⟨"CensusOffice$Reader", "readBound", "()Z"⟩, 5, prog_4_method_8_code, 2, (some (.boolean)), []),
  (⟨"CensusOffice$Form", "bind", "(II)V"⟩, 4, prog_3_method_3_code, 3, none, []),
  (⟨"CensusOffice$Reader", "readBounds", "()Z"⟩, 5, prog_4_method_7_code, 3, (some (.boolean)), []),
  (⟨"CensusOffice$Form", "write", "(II)V"⟩, 4, prog_3_method_6_code, 3, none, []),
  (⟨"CensusOffice$Reader", "readTerm", "(I)Z"⟩, 5, prog_4_method_11_code, 5, (some (.boolean)), []),
  (⟨"CensusOffice$Reader", "readExpression", "()Z"⟩, 5, prog_4_method_10_code, 3, (some (.boolean)), []),
  (⟨"CensusOffice$Form", "split", "()V"⟩, 4, prog_3_method_4_code, 1, none, []),
  (⟨"CensusOffice$Reader", "readCondition", "()Z"⟩, 5, prog_4_method_9_code, 3, (some (.boolean)), []),
  (⟨"CensusOffice$Form", "finish", "(J)V"⟩, 4, prog_3_method_5_code, 3, none, []),
  (⟨"CensusOffice$Reader", "readStatement", "()Z"⟩, 5, prog_4_method_3_code, 3, (some (.boolean)), []),
  (⟨"CensusOffice$Reader", "read", "(LCensusOffice$Form;)I"⟩, 5, prog_4_method_2_code, 3, (some (.int)), []),
  (⟨"jdk/internal/util/ArraysSupport", "hugeLength", "(II)I"⟩, 14, prog_38_method_28_code, 3, (some (.int)), []),
  (⟨"jdk/internal/util/ArraysSupport", "newLength", "(III)I"⟩, 14, prog_38_method_27_code, 4, (some (.int)), []),
  (⟨"java/util/Arrays", "copyOf", "([Ljava/lang/Object;ILjava/lang/Class;)[Ljava/lang/Object;"⟩, 13, prog_32_method_120_code, 4, (some (.array (.object "java/lang/Object"))), []),
  (⟨"java/util/Arrays", "copyOf", "([Ljava/lang/Object;I)[Ljava/lang/Object;"⟩, 13, prog_32_method_119_code, 2, (some (.array (.object "java/lang/Object"))), []),
  (⟨"java/util/ArrayList", "grow", "(I)[Ljava/lang/Object;"⟩, 9, prog_31_method_6_code, 4, (some (.array (.object "java/lang/Object"))), [])]
def aMt6 : List (MethodName × Nat × ByteArray × Nat × Option FieldType × List (Nat × Nat × Nat × Nat)) := [(⟨"java/util/ArrayList", "grow", "()[Ljava/lang/Object;"⟩, 9, prog_31_method_7_code, 1, (some (.array (.object "java/lang/Object"))), []),
  (⟨"java/util/ArrayList", "add", "(Ljava/lang/Object;[Ljava/lang/Object;I)V"⟩, 9, prog_31_method_24_code, 4, none, []),
  (⟨"java/util/ArrayList", "add", "(Ljava/lang/Object;)Z"⟩, 9, prog_31_method_25_code, 2, (some (.boolean)), []),
  (⟨"CensusOffice", "form", "()I"⟩, 10, prog_1_method_10_code, 3, (some (.int)), []),
  (⟨"CensusOfficeLaw", "form", "(LCensusOffice;[J)I"⟩, 12, method_11_code, 3, (some (.int)), [(0, 8, 11, 19)]),
  (⟨"CensusOfficeModel", "byteAt", "(I)I"⟩, 11, prog_14_method_18_code, 2, (some (.int)), []),
  (⟨"CensusOfficeModel", "letters", "(JI)J"⟩, 11, prog_14_method_17_code, 3, (some (.long)), []),
  (⟨"CensusOfficeModel", "nextSign", "(I)V"⟩, 11, prog_14_method_20_code, 4, none, []),
  (⟨"CensusOfficeModel", "next", "()V"⟩, 11, prog_14_method_19_code, 2, none, []),
  (⟨"CensusOfficeModel", "isKept", "(J)Z"⟩, 11, prog_14_method_21_code, 2, (some (.boolean)), []),
  (⟨"CensusOfficeModel", "nameOf", "(IJ)I"⟩, 11, prog_14_method_24_code, 5, (some (.int)), []),
  (⟨"CensusOfficeModel", "isBound", "()Z"⟩, 11, prog_14_method_28_code, 2, (some (.boolean)), []),
  (⟨"CensusOfficeModel", "isBounds", "(I)Z"⟩, 11, prog_14_method_30_code, 3, (some (.boolean)), []),
  (⟨"CensusOfficeModel", "lay", "(II)V"⟩, 11, prog_14_method_23_code, 3, none, []),
  (⟨"CensusOfficeModel", "isWord", "(J)Z"⟩, 11, prog_14_method_22_code, 3, (some (.boolean)), []),
  (⟨"CensusOfficeModel", "term", "()Z"⟩, 11, prog_14_method_25_code, 1, (some (.boolean)), [])]
def aMt7 : List (MethodName × Nat × ByteArray × Nat × Option FieldType × List (Nat × Nat × Nat × Nat)) := [(⟨"CensusOfficeModel", "expr", "()Z"⟩, 11, prog_14_method_26_code, 1, (some (.boolean)), []),
  (⟨"CensusOfficeModel", "cond", "()Z"⟩, 11, prog_14_method_27_code, 2, (some (.boolean)), []),
  (⟨"CensusOfficeModel", "isStatement", "()Z"⟩, 11, prog_14_method_29_code, 5, (some (.boolean)), []),
  (⟨"CensusOfficeModel", "form", "()I"⟩, 11, prog_14_method_31_code, 3, (some (.int)), []),
  (⟨"jdk/internal/util/Preconditions", "checkIndex", "(IILjava/util/function/BiFunction;)I"⟩, 15, prog_39_method_11_code, 3, (some (.int)), []),
  (⟨"java/util/Objects", "checkIndex", "(II)I"⟩, 16, prog_35_method_17_code, 2, (some (.int)), []),
  (⟨"java/util/ArrayList", "elementData", "(I)Ljava/lang/Object;"⟩, 9, prog_31_method_18_code, 2, (some (.object "java/lang/Object")), []),
  (⟨"java/util/ArrayList", "get", "(I)Ljava/lang/Object;"⟩, 9, prog_31_method_20_code, 2, (some (.object "java/lang/Object")), []),
  (⟨"CensusOffice", "formAt", "(I)LCensusOffice$Form;"⟩, 10, prog_1_method_50_code, 2, (some (.object "CensusOffice$Form")), []),
  (⟨"CensusOffice", "needStatement", "(LCensusOffice$Form;I)V"⟩, 10, prog_1_method_45_code, 3, none, []),
  (⟨"CensusOffice", "statement", "(III)I"⟩, 10, prog_1_method_11_code, 5, (some (.int)), []),
  (⟨"CensusOfficeLaw", "statement", "(LCensusOffice;III[J)I"⟩, 12, method_12_code, 6, (some (.int)), [(0, 12, 15, 25), (0, 12, 19, 13)]),
  (⟨"CensusOfficeModel", "isForm", "(I)Z"⟩, 11, prog_14_method_32_code, 2, (some (.boolean)), []),
  (⟨"CensusOfficeModel", "isStatementOf", "(II)Z"⟩, 11, prog_14_method_33_code, 3, (some (.boolean)), []),
  (⟨"CensusOfficeModel", "statement", "(III)I"⟩, 11, prog_14_method_34_code, 5, (some (.int)), []),
  (⟨"CensusOffice$Register", "numbersOf", "(II)[I"⟩, 2, prog_6_method_8_code, 5, (some (.array (.int))), [])]
def aMt8 : List (MethodName × Nat × ByteArray × Nat × Option FieldType × List (Nat × Nat × Nat × Nat)) := [(⟨"CensusOffice$Session", "<init>", "(LCensusOffice$Form;I[I)V"⟩, 17, prog_10_method_1_code, 4, none, []),
  (⟨"CensusOffice$Form", "closed", "(J)I"⟩, 4, prog_3_method_19_code, 3, (some (.int)), []),
  (⟨"CensusOffice$Form", "outcome", "(II)I"⟩, 4, prog_3_method_17_code, 3, (some (.int)), []),
  (⟨"CensusOffice$Form", "term", "(I[I[I)J"⟩, 4, prog_3_method_18_code, 6, (some (.long)), []),
  (⟨"CensusOffice$Form", "judge", "(II[I[I)I"⟩, 4, prog_3_method_16_code, 14, (some (.int)), []),
  (⟨"CensusOffice$Form", "applies", "(I[I[I)Z"⟩, 4, prog_3_method_13_code, 4, (some (.boolean)), []),
  (⟨"CensusOffice$Form", "worth", "(I[I[I)I"⟩, 4, prog_3_method_15_code, 7, (some (.int)), []),
  (⟨"CensusOffice$Form", "isBroken", "(I[I[I)Z"⟩, 4, prog_3_method_14_code, 4, (some (.boolean)), []),
  (⟨"CensusOffice$Session", "walk", "()V"⟩, 17, prog_10_method_3_code, 3, none, []),
  (⟨"CensusOffice", "open", "(II)I"⟩, 10, prog_1_method_12_code, 5, (some (.int)), []),
  (⟨"CensusOfficeLaw", "open", "(LCensusOffice;II[J)I"⟩, 12, method_13_code, 5, (some (.int)), [(0, 10, 13, 25), (0, 10, 17, 27), (0, 10, 21, 19)]),
  (⟨"CensusOfficeModel", "open", "(II)I"⟩, 11, prog_14_method_38_code, 4, (some (.int)), []),
  (⟨"CensusOffice", "sessionAt", "(I)LCensusOffice$Session;"⟩, 10, prog_1_method_51_code, 2, (some (.object "CensusOffice$Session")), []),
  (⟨"CensusOffice$Form", "has", "(I)Z"⟩, 4, prog_3_method_8_code, 2, (some (.boolean)), []),
  (⟨"CensusOffice$Session", "asked", "()I"⟩, 17, prog_10_method_2_code, 1, (some (.int)), []),
  (⟨"CensusOffice", "question", "(I)I"⟩, 10, prog_1_method_13_code, 2, (some (.int)), [])]
def aMt9 : List (MethodName × Nat × ByteArray × Nat × Option FieldType × List (Nat × Nat × Nat × Nat)) := [(⟨"CensusOfficeLaw", "question", "(LCensusOffice;I[J)I"⟩, 12, method_14_code, 4, (some (.int)), [(0, 9, 12, 25)]),
  (⟨"CensusOfficeModel", "isSession", "(I)Z"⟩, 11, prog_14_method_37_code, 2, (some (.boolean)), []),
  (⟨"CensusOfficeModel", "sum", "(II)I"⟩, 11, prog_14_method_35_code, 8, (some (.int)), []),
  (⟨"CensusOfficeModel", "holds", "(II)Z"⟩, 11, prog_14_method_36_code, 10, (some (.boolean)), []),
  (⟨"CensusOfficeModel", "walk", "(II)V"⟩, 11, prog_14_method_39_code, 7, none, []),
  (⟨"CensusOfficeModel", "questionOf", "(I)I"⟩, 11, prog_14_method_40_code, 2, (some (.int)), []),
  (⟨"CensusOfficeModel", "question", "(I)I"⟩, 11, prog_14_method_41_code, 2, (some (.int)), []),
  (⟨"CensusOffice$Session", "behind", "(I)I"⟩, 17, prog_10_method_7_code, 2, (some (.int)), []),
  (⟨"java/lang/Integer", "numberOfTrailingZeros", "(I)I"⟩, 18, prog_21_method_48_code, 2, (some (.int)), []),
  (⟨"CensusOffice$Session", "refusalBehind", "(I)I"⟩, 17, prog_10_method_6_code, 5, (some (.int)), []),
  (⟨"CensusOffice$Session", "takeAsides", "()V"⟩, 17, prog_10_method_8_code, 3, none, []),
  (⟨"CensusOffice$Session", "take", "(I)I"⟩, 17, prog_10_method_4_code, 4, (some (.int)), []),
  (⟨"CensusOffice", "answer", "(II)I"⟩, 10, prog_1_method_14_code, 5, (some (.int)), []),
  (⟨"CensusOfficeLaw", "answer", "(LCensusOffice;II[J)I"⟩, 12, method_15_code, 5, (some (.int)), [(0, 10, 13, 25), (0, 10, 17, 27), (0, 10, 21, 13)]),
  (⟨"CensusOfficeModel", "forgetNotes", "(I)V"⟩, 11, prog_14_method_42_code, 3, none, []),
  (⟨"CensusOfficeModel", "takeUp", "(I)V"⟩, 11, prog_14_method_44_code, 3, none, [])]
def aMt10 : List (MethodName × Nat × ByteArray × Nat × Option FieldType × List (Nat × Nat × Nat × Nat)) := [(⟨"CensusOfficeModel", "answer", "(II)I"⟩, 11, prog_14_method_43_code, 5, (some (.int)), []),
  (⟨"CensusOffice$Session", "goBack", "()I"⟩, 17, prog_10_method_5_code, 2, (some (.int)), []),
  (⟨"CensusOffice", "back", "(I)I"⟩, 10, prog_1_method_15_code, 3, (some (.int)), []),
  (⟨"CensusOfficeLaw", "back", "(LCensusOffice;I[J)I"⟩, 12, method_16_code, 4, (some (.int)), [(0, 9, 12, 25), (0, 9, 15, 27)]),
  (⟨"CensusOfficeModel", "back", "(I)I"⟩, 11, prog_14_method_45_code, 4, (some (.int)), []),
  (⟨"CensusOffice", "given", "(IIZ)I"⟩, 10, prog_1_method_16_code, 5, (some (.int)), []),
  (⟨"CensusOfficeLaw", "given", "(LCensusOffice;IIZ[J)I"⟩, 12, method_17_code, 6, (some (.int)), [(0, 12, 15, 25)]),
  (⟨"CensusOfficeModel", "given", "(IIZ)I"⟩, 11, prog_14_method_46_code, 4, (some (.int)), []),
  (⟨"CensusOffice$Rec", "<init>", "(LCensusOffice$Session;)V"⟩, 19, prog_5_method_1_code, 2, none, []),
  (⟨"CensusOffice", "close", "(I)I"⟩, 10, prog_1_method_17_code, 3, (some (.int)), []),
  (⟨"CensusOfficeLaw", "close", "(LCensusOffice;I[J)I"⟩, 12, method_18_code, 4, (some (.int)), [(0, 9, 12, 25), (0, 9, 15, 27)]),
  (⟨"CensusOfficeModel", "close", "(I)I"⟩, 11, prog_14_method_47_code, 3, (some (.int)), []),
  (⟨"CensusOffice", "recordAt", "(I)LCensusOffice$Rec;"⟩, 10, prog_1_method_52_code, 2, (some (.object "CensusOffice$Rec")), []),
  (⟨"CensusOffice", "item", "(II)I"⟩, 10, prog_1_method_18_code, 4, (some (.int)), []),
  (⟨"CensusOfficeLaw", "item", "(LCensusOffice;II[J)I"⟩, 12, method_19_code, 5, (some (.int)), [(0, 10, 13, 25)]),
  (⟨"CensusOfficeModel", "formOf", "(I)I"⟩, 11, prog_14_method_48_code, 2, (some (.int)), [])]
def aMt11 : List (MethodName × Nat × ByteArray × Nat × Option FieldType × List (Nat × Nat × Nat × Nat)) := [(⟨"CensusOfficeModel", "isItem", "(II)Z"⟩, 11, prog_14_method_49_code, 3, (some (.boolean)), []),
  (⟨"CensusOfficeModel", "item", "(II)I"⟩, 11, prog_14_method_50_code, 3, (some (.int)), []),
  (⟨"CensusOffice", "mark", "(II)I"⟩, 10, prog_1_method_19_code, 4, (some (.int)), []),
  (⟨"CensusOfficeLaw", "mark", "(LCensusOffice;II[J)I"⟩, 12, method_20_code, 5, (some (.int)), [(0, 10, 13, 25)]),
  (⟨"CensusOfficeModel", "mark", "(II)I"⟩, 11, prog_14_method_51_code, 3, (some (.int)), []),
  (⟨"CensusOffice", "needStatementOrNone", "(LCensusOffice$Form;I)V"⟩, 10, prog_1_method_46_code, 3, none, []),
  (⟨"CensusOffice$Form", "isAsk", "(I)Z"⟩, 4, prog_3_method_9_code, 2, (some (.boolean)), []),
  (⟨"CensusOffice$Form", "addRule", "(III)I"⟩, 4, prog_3_method_20_code, 5, (some (.int)), []),
  (⟨"CensusOffice", "rule", "(IIII)I"⟩, 10, prog_1_method_20_code, 6, (some (.int)), []),
  (⟨"CensusOfficeLaw", "rule", "(LCensusOffice;IIII[J)I"⟩, 12, method_21_code, 7, (some (.int)), [(0, 14, 17, 25), (0, 14, 21, 13), (0, 14, 25, 19)]),
  (⟨"CensusOfficeModel", "isAsk", "(II)Z"⟩, 11, prog_14_method_52_code, 3, (some (.boolean)), []),
  (⟨"CensusOfficeModel", "rule", "(IIII)I"⟩, 11, prog_14_method_53_code, 6, (some (.int)), []),
  (⟨"CensusOffice", "cost", "(III)I"⟩, 10, prog_1_method_21_code, 6, (some (.int)), []),
  (⟨"CensusOfficeLaw", "cost", "(LCensusOffice;III[J)I"⟩, 12, method_22_code, 6, (some (.int)), [(0, 12, 15, 25), (0, 12, 19, 13)]),
  (⟨"CensusOfficeModel", "cost", "(III)I"⟩, 11, prog_14_method_54_code, 5, (some (.int)), []),
  (⟨"CensusOffice$Form", "ruled", "(I[I)I"⟩, 4, prog_3_method_22_code, 3, (some (.int)), [])]
def aMt12 : List (MethodName × Nat × ByteArray × Nat × Option FieldType × List (Nat × Nat × Nat × Nat)) := [(⟨"CensusOffice$Form", "excess", "(I[I)I"⟩, 4, prog_3_method_21_code, 5, (some (.int)), []),
  (⟨"CensusOffice$Form", "countBroken", "([I)I"⟩, 4, prog_3_method_23_code, 4, (some (.int)), []),
  (⟨"CensusOffice$Form", "brokenAt", "([II)I"⟩, 4, prog_3_method_24_code, 5, (some (.int)), []),
  (⟨"CensusOffice", "broken", "(II)I"⟩, 10, prog_1_method_22_code, 4, (some (.int)), []),
  (⟨"CensusOfficeLaw", "broken", "(LCensusOffice;II[J)I"⟩, 12, method_23_code, 5, (some (.int)), [(0, 10, 13, 25)]),
  (⟨"CensusOfficeModel", "breaks", "(II)Z"⟩, 11, prog_14_method_55_code, 5, (some (.boolean)), []),
  (⟨"CensusOfficeModel", "broken", "(II)I"⟩, 11, prog_14_method_56_code, 6, (some (.int)), []),
  (⟨"CensusOffice", "hasBit", "(II)Z"⟩, 10, prog_1_method_57_code, 2, (some (.boolean)), []),
  (⟨"CensusOffice$Editor", "lower", "(LCensusOffice$Form;I)I"⟩, 6, prog_2_method_5_code, 7, (some (.int)), []),
  (⟨"CensusOffice$Editor", "fits", "(LCensusOffice$Rec;I)Z"⟩, 6, prog_2_method_4_code, 5, (some (.boolean)), []),
  (⟨"java/lang/Integer", "numberOfLeadingZeros", "(I)I"⟩, 18, prog_21_method_47_code, 2, (some (.int)), []),
  (⟨"java/lang/Integer", "highestOneBit", "(I)I"⟩, 18, prog_21_method_45_code, 1, (some (.int)), []),
  (⟨"CensusOffice$Form", "costOf", "(I)I"⟩, 4, prog_3_method_11_code, 2, (some (.int)), []),
  (⟨"CensusOffice$Editor", "choose", "(LCensusOffice$Rec;III)V"⟩, 6, prog_2_method_3_code, 8, none, []),
  (⟨"CensusOffice$Editor", "leastSet", "(LCensusOffice$Rec;)I"⟩, 6, prog_2_method_2_code, 4, (some (.int)), []),
  (⟨"CensusOffice", "least", "(IZ)I"⟩, 10, prog_1_method_23_code, 4, (some (.int)), [])]
def aMt13 : List (MethodName × Nat × ByteArray × Nat × Option FieldType × List (Nat × Nat × Nat × Nat)) := [(⟨"CensusOfficeLaw", "least", "(LCensusOffice;IZ[J)I"⟩, 12, method_24_code, 5, (some (.int)), [(0, 10, 13, 25)]),
  (⟨"CensusOfficeModel", "side", "(III)I"⟩, 11, prog_14_method_58_code, 4, (some (.int)), []),
  (⟨"CensusOfficeModel", "fits", "(II)Z"⟩, 11, prog_14_method_59_code, 11, (some (.boolean)), []),
  (⟨"CensusOfficeModel", "find", "(I)V"⟩, 11, prog_14_method_60_code, 8, none, []),
  (⟨"CensusOfficeModel", "least", "(IZ)I"⟩, 11, prog_14_method_61_code, 3, (some (.int)), []),
  (⟨"CensusOffice$Rec", "breaksNone", "()Z"⟩, 19, prog_5_method_2_code, 1, (some (.boolean)), []),
  (⟨"CensusOffice$Editor", "canGive", "(LCensusOffice$Rec;LCensusOffice$Rec;I)Z"⟩, 6, prog_2_method_8_code, 5, (some (.boolean)), []),
  (⟨"java/lang/Math", "abs", "(I)I"⟩, 0, prog_23_method_59_code, 1, (some (.int)), []),
  (⟨"CensusOffice$Editor", "distance", "(LCensusOffice$Rec;LCensusOffice$Rec;I)I"⟩, 6, prog_2_method_9_code, 6, (some (.int)), []),
  (⟨"CensusOffice$Editor", "donorOf", "(Ljava/util/ArrayList;LCensusOffice$Rec;I)I"⟩, 6, prog_2_method_7_code, 9, (some (.int)), []),
  (⟨"CensusOffice$Rec", "change", "(I[II)V"⟩, 19, prog_5_method_3_code, 5, none, []),
  (⟨"CensusOffice$Editor", "greatestOf", "(LCensusOffice$Rec;I)[I"⟩, 6, prog_2_method_6_code, 3, (some (.array (.int))), []),
  (⟨"java/lang/Integer", "bitCount", "(I)I"⟩, 18, prog_21_method_49_code, 1, (some (.int)), []),
  (⟨"CensusOffice", "impute", "(II)I"⟩, 10, prog_1_method_24_code, 6, (some (.int)), []),
  (⟨"CensusOfficeLaw", "impute", "(LCensusOffice;II[J)I"⟩, 12, method_25_code, 5, (some (.int)), [(0, 10, 13, 25), (0, 10, 17, 13), (0, 10, 21, 27)]),
  (⟨"CensusOfficeModel", "isClean", "(I)Z"⟩, 11, prog_14_method_57_code, 4, (some (.boolean)), [])]
def aMt14 : List (MethodName × Nat × ByteArray × Nat × Option FieldType × List (Nat × Nat × Nat × Nat)) := [(⟨"CensusOfficeModel", "mayGive", "(III)Z"⟩, 11, prog_14_method_63_code, 10, (some (.boolean)), []),
  (⟨"CensusOfficeModel", "distance", "(III)J"⟩, 11, prog_14_method_62_code, 11, (some (.long)), []),
  (⟨"CensusOfficeModel", "letsOf", "(I)V"⟩, 11, prog_14_method_65_code, 6, none, []),
  (⟨"CensusOfficeModel", "impute", "(II)I"⟩, 11, prog_14_method_64_code, 8, (some (.int)), []),
  (⟨"CensusOffice$Register", "frame", "(IIIII)I"⟩, 2, prog_6_method_9_code, 8, (some (.int)), []),
  (⟨"CensusOffice$Sample", "<init>", "(I)V"⟩, 20, prog_9_method_1_code, 2, none, []),
  (⟨"CensusOffice$Sample", "leaders", "([I)[I"⟩, 20, prog_9_method_7_code, 7, (some (.array (.int))), []),
  (⟨"CensusOffice$Sample", "allot", "([I[III)V"⟩, 20, prog_9_method_8_code, 14, none, []),
  (⟨"CensusOffice$Sample", "key", "(II)I"⟩, 20, prog_9_method_10_code, 4, (some (.int)), []),
  (⟨"CensusOffice$Sample", "rank", "([III)I"⟩, 20, prog_9_method_9_code, 8, (some (.int)), []),
  (⟨"CensusOffice$Sample", "commonDivisor", "(II)I"⟩, 20, prog_9_method_11_code, 7, (some (.int)), []),
  (⟨"CensusOffice$Sample", "draw", "([IIII)V"⟩, 20, prog_9_method_6_code, 7, none, []),
  (⟨"CensusOffice", "sample", "(IIIIII)I"⟩, 10, prog_1_method_25_code, 9, (some (.int)), []),
  (⟨"CensusOfficeLaw", "sample", "(LCensusOffice;IIIIII[J)I"⟩, 12, method_26_code, 9, (some (.int)), [(0, 18, 21, 25), (0, 18, 25, 13), (0, 18, 29, 19)]),
  (⟨"CensusOfficeModel", "isFirst", "(I)Z"⟩, 11, prog_14_method_69_code, 4, (some (.boolean)), []),
  (⟨"CensusOfficeModel", "keyOf", "(II)I"⟩, 11, prog_14_method_66_code, 3, (some (.int)), [])]
def aMt15 : List (MethodName × Nat × ByteArray × Nat × Option FieldType × List (Nat × Nat × Nat × Nat)) := [(⟨"CensusOfficeModel", "isBefore", "(III)Z"⟩, 11, prog_14_method_67_code, 6, (some (.boolean)), []),
  (⟨"CensusOfficeModel", "sample", "(IIIIII)I"⟩, 11, prog_14_method_68_code, 15, (some (.int)), []),
  (⟨"CensusOffice", "sampleAt", "(I)LCensusOffice$Sample;"⟩, 10, prog_1_method_53_code, 2, (some (.object "CensusOffice$Sample")), []),
  (⟨"CensusOffice$Sample", "unitAt", "(I)I"⟩, 20, prog_9_method_5_code, 4, (some (.int)), []),
  (⟨"CensusOffice", "drawn", "(II)I"⟩, 10, prog_1_method_26_code, 4, (some (.int)), []),
  (⟨"CensusOfficeLaw", "drawn", "(LCensusOffice;II[J)I"⟩, 12, method_27_code, 5, (some (.int)), [(0, 10, 13, 25)]),
  (⟨"CensusOfficeModel", "isSample", "(I)Z"⟩, 11, prog_14_method_70_code, 2, (some (.boolean)), []),
  (⟨"CensusOfficeModel", "drawn", "(II)I"⟩, 11, prog_14_method_71_code, 5, (some (.int)), []),
  (⟨"CensusOffice$Sample", "chanceBelow", "(I)I"⟩, 20, prog_9_method_4_code, 2, (some (.int)), []),
  (⟨"CensusOffice$Sample", "chanceAbove", "(I)I"⟩, 20, prog_9_method_3_code, 2, (some (.int)), []),
  (⟨"CensusOffice", "chance", "(IIZ)I"⟩, 10, prog_1_method_27_code, 5, (some (.int)), []),
  (⟨"CensusOfficeLaw", "chance", "(LCensusOffice;IIZ[J)I"⟩, 12, method_28_code, 6, (some (.int)), [(0, 12, 15, 25)]),
  (⟨"CensusOfficeModel", "divisor", "(II)I"⟩, 11, prog_14_method_72_code, 5, (some (.int)), []),
  (⟨"CensusOfficeModel", "chance", "(IIZ)I"⟩, 11, prog_14_method_73_code, 7, (some (.int)), []),
  (⟨"CensusOffice$Sample", "drew", "(I)Z"⟩, 20, prog_9_method_2_code, 2, (some (.boolean)), []),
  (⟨"CensusOffice", "overlap", "(II)I"⟩, 10, prog_1_method_28_code, 7, (some (.int)), [])]
def aMt16 : List (MethodName × Nat × ByteArray × Nat × Option FieldType × List (Nat × Nat × Nat × Nat)) := [(⟨"CensusOfficeLaw", "overlap", "(LCensusOffice;II[J)I"⟩, 12, method_29_code, 5, (some (.int)), [(0, 10, 13, 25)]),
  (⟨"CensusOfficeModel", "overlap", "(II)I"⟩, 11, prog_14_method_74_code, 5, (some (.int)), []),
  (⟨"CensusOffice$Form", "isItem", "(I)Z"⟩, 4, prog_3_method_10_code, 2, (some (.boolean)), []),
  (⟨"CensusOffice$Form", "span", "(I)I"⟩, 4, prog_3_method_12_code, 2, (some (.int)), []),
  (⟨"CensusOffice$Table", "<init>", "(LCensusOffice$Form;III)V"⟩, 21, prog_11_method_1_code, 5, none, []),
  (⟨"CensusOffice", "isOfSample", "(LCensusOffice$Rec;I)Z"⟩, 10, prog_1_method_56_code, 3, (some (.boolean)), []),
  (⟨"CensusOffice$Table", "count", "(LCensusOffice$Rec;)V"⟩, 21, prog_11_method_2_code, 6, none, []),
  (⟨"CensusOffice$Table", "settle", "()V"⟩, 21, prog_11_method_3_code, 4, none, []),
  (⟨"CensusOffice", "table", "(IIIII)I"⟩, 10, prog_1_method_29_code, 10, (some (.int)), []),
  (⟨"CensusOfficeLaw", "table", "(LCensusOffice;IIIII[J)I"⟩, 12, method_30_code, 8, (some (.int)), [(0, 16, 19, 25), (0, 16, 23, 13), (0, 16, 27, 19)]),
  (⟨"CensusOfficeModel", "table", "(IIIII)I"⟩, 11, prog_14_method_75_code, 14, (some (.int)), []),
  (⟨"CensusOffice", "tableAt", "(I)LCensusOffice$Table;"⟩, 10, prog_1_method_54_code, 2, (some (.object "CensusOffice$Table")), []),
  (⟨"CensusOffice", "needSumOrCell", "(LCensusOffice$Table;II)V"⟩, 10, prog_1_method_49_code, 4, none, []),
  (⟨"CensusOffice$Table", "isIn", "(III)Z"⟩, 21, prog_11_method_7_code, 4, (some (.boolean)), []),
  (⟨"CensusOffice$Table", "sumOf", "([III)I"⟩, 21, prog_11_method_5_code, 6, (some (.int)), []),
  (⟨"CensusOffice$Table", "greatestOf", "(II)I"⟩, 21, prog_11_method_6_code, 5, (some (.int)), [])]
def aMt17 : List (MethodName × Nat × ByteArray × Nat × Option FieldType × List (Nat × Nat × Nat × Nat)) := [(⟨"CensusOffice", "cell", "(IIII)I"⟩, 10, prog_1_method_30_code, 6, (some (.int)), []),
  (⟨"CensusOfficeLaw", "cell", "(LCensusOffice;IIII[J)I"⟩, 12, method_31_code, 7, (some (.int)), [(0, 14, 17, 25), (0, 14, 21, 13)]),
  (⟨"CensusOfficeModel", "isTable", "(I)Z"⟩, 11, prog_14_method_76_code, 2, (some (.boolean)), []),
  (⟨"CensusOfficeModel", "now", "(III)I"⟩, 11, prog_14_method_77_code, 5, (some (.int)), []),
  (⟨"CensusOfficeModel", "cell", "(IIII)I"⟩, 11, prog_14_method_78_code, 8, (some (.int)), []),
  (⟨"CensusOffice$Table", "columnsOf", "(II)I"⟩, 21, prog_11_method_15_code, 5, (some (.int)), []),
  (⟨"CensusOffice$Table", "cut", "(III)I"⟩, 21, prog_11_method_16_code, 6, (some (.int)), []),
  (⟨"CensusOffice$Table", "roomAbove", "(II)I"⟩, 21, prog_11_method_13_code, 7, (some (.int)), []),
  (⟨"CensusOffice$Table", "roomBelow", "(II)I"⟩, 21, prog_11_method_14_code, 7, (some (.int)), []),
  (⟨"CensusOffice$Table", "isGood", "(II)Z"⟩, 21, prog_11_method_10_code, 4, (some (.boolean)), []),
  (⟨"CensusOffice$Table", "choose", "(IIII)V"⟩, 21, prog_11_method_9_code, 8, none, []),
  (⟨"CensusOffice$Table", "hide", "(III)I"⟩, 21, prog_11_method_8_code, 6, (some (.int)), []),
  (⟨"CensusOffice", "secrecy", "(IIII)I"⟩, 10, prog_1_method_31_code, 6, (some (.int)), []),
  (⟨"CensusOfficeLaw", "secrecy", "(LCensusOffice;IIII[J)I"⟩, 12, method_32_code, 7, (some (.int)), [(0, 14, 17, 25), (0, 14, 21, 13)]),
  (⟨"CensusOfficeModel", "most", "(IIIZ)I"⟩, 11, prog_14_method_79_code, 20, (some (.int)), []),
  (⟨"CensusOfficeModel", "isGood", "(III)Z"⟩, 11, prog_14_method_80_code, 7, (some (.boolean)), [])]
def aMt18 : List (MethodName × Nat × ByteArray × Nat × Option FieldType × List (Nat × Nat × Nat × Nat)) := [(⟨"CensusOfficeModel", "secrecy", "(IIII)I"⟩, 11, prog_14_method_81_code, 12, (some (.int)), []),
  (⟨"CensusOffice", "needCell", "(LCensusOffice$Table;II)V"⟩, 10, prog_1_method_48_code, 4, none, []),
  (⟨"CensusOffice$Table", "bitOf", "(II)I"⟩, 21, prog_11_method_4_code, 3, (some (.int)), []),
  (⟨"CensusOffice", "secret", "(III)I"⟩, 10, prog_1_method_32_code, 6, (some (.int)), []),
  (⟨"CensusOfficeLaw", "secret", "(LCensusOffice;III[J)I"⟩, 12, method_33_code, 6, (some (.int)), [(0, 12, 15, 25)]),
  (⟨"CensusOfficeModel", "isCell", "(III)Z"⟩, 11, prog_14_method_82_code, 4, (some (.boolean)), []),
  (⟨"CensusOfficeModel", "secret", "(III)I"⟩, 11, prog_14_method_83_code, 5, (some (.int)), []),
  (⟨"CensusOffice$Table", "greatestGuess", "(II)I"⟩, 21, prog_11_method_11_code, 4, (some (.int)), []),
  (⟨"CensusOffice$Table", "leastGuess", "(II)I"⟩, 21, prog_11_method_12_code, 4, (some (.int)), []),
  (⟨"CensusOffice", "interval", "(IIIZ)I"⟩, 10, prog_1_method_33_code, 6, (some (.int)), []),
  (⟨"CensusOfficeLaw", "interval", "(LCensusOffice;IIIZ[J)I"⟩, 12, method_34_code, 7, (some (.int)), [(0, 14, 17, 25)]),
  (⟨"CensusOfficeModel", "interval", "(IIIZ)I"⟩, 11, prog_14_method_84_code, 7, (some (.int)), []),
  (⟨"CensusOffice$Table", "keepsSum", "(IIIII)Z"⟩, 21, prog_11_method_20_code, 9, (some (.boolean)), []),
  (⟨"CensusOffice$Table", "keepsSums", "(IIII)Z"⟩, 21, prog_11_method_19_code, 5, (some (.boolean)), []),
  (⟨"CensusOffice$Table", "raise", "(IIII)I"⟩, 21, prog_11_method_18_code, 7, (some (.int)), []),
  (⟨"CensusOffice$Table", "roundTo", "(I)I"⟩, 21, prog_11_method_17_code, 5, (some (.int)), [])]
def aMt19 : List (MethodName × Nat × ByteArray × Nat × Option FieldType × List (Nat × Nat × Nat × Nat)) := [(⟨"CensusOffice", "round", "(II)I"⟩, 10, prog_1_method_34_code, 4, (some (.int)), []),
  (⟨"CensusOfficeLaw", "round", "(LCensusOffice;II[J)I"⟩, 12, method_35_code, 5, (some (.int)), [(0, 10, 13, 25), (0, 10, 17, 13)]),
  (⟨"CensusOfficeModel", "isNext", "(JJ)Z"⟩, 11, prog_14_method_85_code, 7, (some (.boolean)), []),
  (⟨"CensusOfficeModel", "isWay", "(II)Z"⟩, 11, prog_14_method_86_code, 11, (some (.boolean)), []),
  (⟨"CensusOfficeModel", "round", "(II)I"⟩, 11, prog_14_method_87_code, 6, (some (.int)), []),
  (⟨"CensusOffice", "person", "(I)I"⟩, 10, prog_1_method_35_code, 3, (some (.int)), []),
  (⟨"CensusOfficeLaw", "person", "(LCensusOffice;I[J)I"⟩, 12, method_36_code, 4, (some (.int)), [(0, 9, 12, 13), (0, 9, 15, 19)]),
  (⟨"CensusOfficeModel", "person", "(I)I"⟩, 11, prog_14_method_88_code, 2, (some (.int)), []),
  (⟨"CensusOffice", "needPerson", "(I)V"⟩, 10, prog_1_method_47_code, 2, none, []),
  (⟨"CensusOffice$Release", "<init>", "(LCensusOffice$Table;II)V"⟩, 22, prog_7_method_1_code, 4, none, []),
  (⟨"CensusOffice", "release", "(III)I"⟩, 10, prog_1_method_36_code, 5, (some (.int)), []),
  (⟨"CensusOfficeLaw", "release", "(LCensusOffice;III[J)I"⟩, 12, method_37_code, 6, (some (.int)), [(0, 12, 15, 25), (0, 12, 19, 27), (0, 12, 23, 13), (0, 12, 27, 19)]),
  (⟨"CensusOfficeModel", "release", "(III)I"⟩, 11, prog_14_method_89_code, 5, (some (.int)), []),
  (⟨"CensusOffice", "releaseAt", "(I)LCensusOffice$Release;"⟩, 10, prog_1_method_55_code, 2, (some (.object "CensusOffice$Release")), []),
  (⟨"CensusOffice$Release", "seenBy", "(IIIII)I"⟩, 22, prog_7_method_2_code, 7, (some (.int)), []),
  (⟨"CensusOffice", "look", "(IIII)I"⟩, 10, prog_1_method_37_code, 8, (some (.int)), [])]
def aMt20 : List (MethodName × Nat × ByteArray × Nat × Option FieldType × List (Nat × Nat × Nat × Nat)) := [(⟨"CensusOfficeLaw", "look", "(LCensusOffice;IIII[J)I"⟩, 12, method_38_code, 7, (some (.int)), [(0, 14, 17, 25), (0, 14, 21, 19)]),
  (⟨"CensusOfficeModel", "look", "(IIII)I"⟩, 11, prog_14_method_90_code, 10, (some (.int)), []),
  (⟨"CensusOffice", "looked", "(II)I"⟩, 10, prog_1_method_38_code, 3, (some (.int)), []),
  (⟨"CensusOfficeLaw", "looked", "(LCensusOffice;II[J)I"⟩, 12, method_39_code, 5, (some (.int)), [(0, 10, 13, 25), (0, 10, 17, 13)]),
  (⟨"CensusOfficeModel", "looked", "(II)I"⟩, 11, prog_14_method_91_code, 3, (some (.int)), []),
  (⟨"CensusOffice", "told", "(I)I"⟩, 10, prog_1_method_39_code, 2, (some (.int)), []),
  (⟨"CensusOfficeLaw", "told", "(LCensusOffice;I[J)I"⟩, 12, method_40_code, 4, (some (.int)), [(0, 9, 12, 13)]),
  (⟨"CensusOfficeModel", "told", "(I)I"⟩, 11, prog_14_method_92_code, 4, (some (.int)), []),
  (⟨"CensusOfficeLaw", "law", "([I)Z"⟩, 12, code, 7, (some (.boolean)), [])]
def aMts : List (List (MethodName × Nat × ByteArray × Nat × Option FieldType × List (Nat × Nat × Nat × Nat))) := [aMt0, aMt1, aMt2, aMt3, aMt4, aMt5, aMt6, aMt7, aMt8, aMt9, aMt10, aMt11, aMt12, aMt13, aMt14, aMt15, aMt16, aMt17, aMt18, aMt19, aMt20]
def aMt (mi : Nat) : MethodName × Nat × ByteArray × Nat × Option FieldType × List (Nat × Nat × Nat × Nat) := (aMts.getD (mi / 16) []).getD (mi % 16) (⟨"", "", ""⟩, 0, ⟨#[]⟩, 0, none, [])
def aIn0 : List aMI := [(2, 2, false, []), (3, 3, false, []), (1, 1, false, []), (1, 1, false, []), (2, 2, false, []), (2, 2, false, []), (1, 1, false, []), (1, 1, false, []), (1, 1, false, []), (1, 1, false, []), (1, 1, false, []), (1, 1, false, []), (2, 2, false, []), (3, 4, false, [(0, 9, 12, 1)]), (3, 6, true, []), (2, 2, false, [])]
def aIn1 : List aMI := [(2, 2, false, []), (1, 1, false, []), (1, 1, true, []), (2, 2, false, []), (2, 3, false, []), (1, 1, false, []), (2, 2, true, []), (4, 4, false, []), (1, 2, false, []), (1, 1, false, []), (2, 3, false, [(0, 8, 11, 4)]), (1, 1, false, []), (1, 1, false, []), (2, 2, false, []), (2, 2, false, []), (2, 2, false, [])]
def aIn2 : List aMI := [(3, 3, false, []), (2, 2, true, []), (2, 2, false, []), (1, 1, false, []), (6, 7, false, []), (5, 5, false, []), (6, 7, false, [(0, 14, 17, 3), (0, 14, 21, 1), (0, 14, 25, 2), (0, 14, 29, 4)]), (2, 2, true, []), (1, 1, false, []), (5, 5, false, []), (3, 6, false, []), (4, 4, false, []), (3, 4, false, []), (4, 5, false, [(0, 10, 13, 3), (0, 10, 17, 2)]), (3, 4, false, []), (3, 3, false, [])]
def aIn3 : List aMI := [(2, 4, false, []), (4, 7, false, []), (5, 6, false, []), (5, 5, false, []), (6, 7, false, [(0, 14, 17, 3), (0, 14, 21, 1)]), (5, 8, false, []), (5, 5, false, []), (2, 2, false, []), (3, 4, false, [(0, 9, 12, 3)]), (2, 2, false, []), (2, 3, false, []), (6, 6, false, []), (7, 8, false, [(0, 16, 19, 4)]), (6, 8, false, []), (2, 3, false, []), (3, 4, false, [(0, 9, 12, 1)])]
def aIn4 : List aMI := [(2, 3, false, []), (1, 1, false, []), (2, 2, true, []), (1, 1, false, []), (1, 1, false, []), (2, 3, false, []), (2, 2, false, []), (1, 2, false, []), (1, 1, false, []), (2, 3, true, []), (1, 1, false, []), (2, 2, true, []), (2, 2, false, []), (2, 3, true, []), (2, 4, false, []), (1, 1, true, [])]
def aIn5 : List aMI := [(1, 2, true, []), (3, 3, false, []), (1, 3, true, []), (3, 3, false, []), (2, 5, true, []), (1, 3, true, []), (1, 1, false, []), (1, 3, true, []), (2, 3, false, []), (1, 3, true, []), (2, 3, false, []), (2, 3, false, []), (3, 4, false, []), (3, 4, false, []), (2, 2, false, []), (2, 4, false, [])]
def aIn6 : List aMI := [(1, 1, false, []), (4, 4, false, []), (2, 2, true, []), (1, 3, false, []), (2, 3, false, [(0, 8, 11, 4)]), (2, 2, false, []), (2, 3, false, []), (2, 4, false, []), (1, 2, false, []), (1, 2, true, []), (3, 5, false, []), (1, 2, true, []), (2, 3, true, []), (3, 3, false, []), (2, 3, true, []), (1, 1, true, [])]
def aIn7 : List aMI := [(1, 1, true, []), (1, 2, true, []), (1, 5, true, []), (1, 3, false, []), (3, 3, false, []), (2, 2, false, []), (2, 2, false, []), (2, 2, false, []), (2, 2, false, []), (3, 3, false, []), (4, 5, false, []), (5, 6, false, [(0, 12, 15, 3), (0, 12, 19, 1)]), (2, 2, true, []), (3, 3, true, []), (4, 5, false, []), (3, 5, false, [])]
def aIn8 : List aMI := [(4, 4, false, []), (2, 3, false, []), (3, 3, false, []), (4, 6, false, []), (5, 14, false, []), (4, 4, true, []), (4, 7, false, []), (4, 4, true, []), (1, 3, false, []), (3, 5, false, []), (4, 5, false, [(0, 10, 13, 3), (0, 10, 17, 2), (0, 10, 21, 4)]), (3, 4, false, []), (2, 2, false, []), (2, 2, true, []), (1, 1, false, []), (2, 2, false, [])]
def aIn9 : List aMI := [(3, 4, false, [(0, 9, 12, 3)]), (2, 2, true, []), (3, 8, false, []), (3, 10, true, []), (3, 7, false, []), (2, 2, false, []), (2, 2, false, []), (2, 2, false, []), (1, 2, false, []), (2, 5, false, []), (1, 3, false, []), (2, 4, false, []), (3, 5, false, []), (4, 5, false, [(0, 10, 13, 3), (0, 10, 17, 2), (0, 10, 21, 1)]), (2, 3, false, []), (2, 3, false, [])]
def aIn10 : List aMI := [(3, 5, false, []), (1, 2, false, []), (2, 3, false, []), (3, 4, false, [(0, 9, 12, 3), (0, 9, 15, 2)]), (2, 4, false, []), (4, 5, false, []), (5, 6, false, [(0, 12, 15, 3)]), (4, 4, false, []), (2, 2, false, []), (2, 3, false, []), (3, 4, false, [(0, 9, 12, 3), (0, 9, 15, 2)]), (2, 3, false, []), (2, 2, false, []), (3, 4, false, []), (4, 5, false, [(0, 10, 13, 3)]), (2, 2, false, [])]
def aIn11 : List aMI := [(3, 3, true, []), (3, 3, false, []), (3, 4, false, []), (4, 5, false, [(0, 10, 13, 3)]), (3, 3, false, []), (3, 3, false, []), (2, 2, true, []), (4, 5, false, []), (5, 6, false, []), (6, 7, false, [(0, 14, 17, 3), (0, 14, 21, 1), (0, 14, 25, 4)]), (3, 3, true, []), (5, 6, false, []), (4, 6, false, []), (5, 6, false, [(0, 12, 15, 3), (0, 12, 19, 1)]), (4, 5, false, []), (3, 3, false, [])]
def aIn12 : List aMI := [(3, 5, false, []), (2, 4, false, []), (3, 5, false, []), (3, 4, false, []), (4, 5, false, [(0, 10, 13, 3)]), (3, 5, true, []), (3, 6, false, []), (2, 2, true, []), (3, 7, false, []), (3, 5, true, []), (1, 2, false, []), (1, 1, false, []), (2, 2, false, []), (5, 8, false, []), (2, 4, false, []), (3, 4, false, [])]
def aIn13 : List aMI := [(4, 5, false, [(0, 10, 13, 3)]), (4, 4, false, []), (3, 11, true, []), (2, 8, false, []), (3, 3, false, []), (1, 1, true, []), (4, 5, true, []), (1, 1, false, []), (4, 6, false, []), (4, 9, false, []), (4, 5, false, []), (3, 3, false, []), (1, 1, false, []), (3, 6, false, []), (4, 5, false, [(0, 10, 13, 3), (0, 10, 17, 1), (0, 10, 21, 2)]), (2, 4, true, [])]
def aIn14 : List aMI := [(4, 10, true, []), (4, 11, false, []), (2, 6, false, []), (3, 8, false, []), (6, 8, false, []), (2, 2, false, []), (2, 7, false, []), (5, 14, false, []), (3, 4, false, []), (4, 8, false, []), (3, 7, false, []), (5, 7, false, []), (7, 9, false, []), (8, 9, false, [(0, 18, 21, 3), (0, 18, 25, 1), (0, 18, 29, 4)]), (2, 4, true, []), (2, 3, false, [])]
def aIn15 : List aMI := [(4, 6, true, []), (7, 15, false, []), (2, 2, false, []), (2, 4, false, []), (3, 4, false, []), (4, 5, false, [(0, 10, 13, 3)]), (2, 2, true, []), (3, 5, false, []), (2, 2, false, []), (2, 2, false, []), (4, 5, false, []), (5, 6, false, [(0, 12, 15, 3)]), (2, 5, false, []), (4, 7, false, []), (2, 2, true, []), (3, 7, false, [])]
def aIn16 : List aMI := [(4, 5, false, [(0, 10, 13, 3)]), (3, 5, false, []), (2, 2, true, []), (2, 2, false, []), (5, 5, false, []), (3, 3, true, []), (2, 6, false, []), (1, 4, false, []), (6, 10, false, []), (7, 8, false, [(0, 16, 19, 3), (0, 16, 23, 1), (0, 16, 27, 4)]), (6, 14, false, []), (2, 2, false, []), (4, 4, false, []), (4, 4, true, []), (4, 6, false, []), (3, 5, false, [])]
def aIn17 : List aMI := [(5, 6, false, []), (6, 7, false, [(0, 14, 17, 3), (0, 14, 21, 1)]), (2, 2, true, []), (4, 5, false, []), (5, 8, false, []), (3, 5, false, []), (4, 6, false, []), (3, 7, false, []), (3, 7, false, []), (3, 4, true, []), (5, 8, false, []), (4, 6, false, []), (5, 6, false, []), (6, 7, false, [(0, 14, 17, 3), (0, 14, 21, 1)]), (5, 20, false, []), (4, 7, true, [])]
def aIn18 : List aMI := [(5, 12, false, []), (4, 4, false, []), (3, 3, false, []), (4, 6, false, []), (5, 6, false, [(0, 12, 15, 3)]), (4, 4, true, []), (4, 5, false, []), (3, 4, false, []), (3, 4, false, []), (5, 6, false, []), (6, 7, false, [(0, 14, 17, 3)]), (5, 7, false, []), (6, 9, true, []), (5, 5, true, []), (5, 7, false, []), (2, 5, false, [])]
def aIn19 : List aMI := [(3, 4, false, []), (4, 5, false, [(0, 10, 13, 3), (0, 10, 17, 1)]), (3, 7, true, []), (3, 11, true, []), (3, 6, false, []), (2, 3, false, []), (3, 4, false, [(0, 9, 12, 1), (0, 9, 15, 4)]), (2, 2, false, []), (2, 2, false, []), (4, 4, false, []), (4, 5, false, []), (5, 6, false, [(0, 12, 15, 3), (0, 12, 19, 2), (0, 12, 23, 1), (0, 12, 27, 4)]), (4, 5, false, []), (2, 2, false, []), (6, 7, false, []), (5, 8, false, [])]
def aIn20 : List aMI := [(6, 7, false, [(0, 14, 17, 3), (0, 14, 21, 4)]), (5, 10, false, []), (3, 3, false, []), (4, 5, false, [(0, 10, 13, 3), (0, 10, 17, 1)]), (3, 3, false, []), (2, 2, false, []), (3, 4, false, [(0, 9, 12, 1)]), (2, 4, false, []), (1, 7, true, [])]
def aIns : List (List aMI) := [aIn0, aIn1, aIn2, aIn3, aIn4, aIn5, aIn6, aIn7, aIn8, aIn9, aIn10, aIn11, aIn12, aIn13, aIn14, aIn15, aIn16, aIn17, aIn18, aIn19, aIn20]
def aInf (mi : Nat) : aMI := (aIns.getD (mi / 16) []).getD (mi % 16) (0, 0, false, [])
/-- constants: who, which entry, what, where the word stands -/
def aCn : List (Nat × Nat × aV × Nat) := [(6, 19, vI 2147483647, 330), (10, 77, vI 1000000, 418), (10, 78, vI 100000000, 419), (10, 109, vI 100000, 588), (10, 110, vI (-1000000), 589), (1, 35, vI (-2000000), 603), (2, 58, vI (-2000000), 665), (5, 92, vL 6386539, 748), (5, 94, vL 7103860, 753), (5, 96, vL 1836413812, 754), (5, 98, vL 2002874990, 755), (5, 79, vL 26982, 773), (5, 110, vL 6385252, 774), (5, 112, vL 28530, 775), (5, 114, vL 7497063, 776), (14, 200, vI 2147483639, 837), (17, 54, vI (-2000000), 923), (4, 91, vL (-1000000), 993), (4, 93, vL 1000000, 994), (4, 77, vI (-2000000), 995), (4, 89, vL 1099511627776, 1004), (18, 264, vI 65536, 1055), (10, 270, vI (-2000000), 1152), (10, 271, vI 2000000, 1153), (6, 41, vI (-2000000), 1208), (18, 127, vI (-2147483648), 1230), (18, 265, vI 1431655765, 1285), (18, 266, vI 858993459, 1286), (18, 267, vI 252645135, 1287), (20, 43, vI (-2000000), 1328), (20, 53, vI (-1640531527), 1342), (20, 54, vI (-2048144789), 1343), (20, 55, vI (-1028477387), 1344), (21, 82, vI (-2000000), 1489), (21, 104, vL 100, 1536), (21, 106, vI 2147483647, 1537), (11, 205, vL 1000000, 1991), (11, 211, vL 100000000, 1995), (11, 224, vL 5, 2012), (11, 226, vL 100000, 2013), (11, 228, vL (-1000000), 2014), (11, 244, vI (-2000000), 2035), (11, 264, vL 97, 2060), (11, 266, vL 122, 2061), (11, 276, vL 48, 2065), (11, 278, vL 57, 2066), (11, 287, vL 6386539, 2075), (11, 289, vL 7103860, 2076), (11, 291, vL 1836413812, 2077), (11, 293, vL 2002874990, 2078), (11, 295, vL 26982, 2082), (11, 297, vL 6385252, 2083), (11, 299, vL 28530, 2084), (11, 301, vL 7497063, 2085), (11, 356, vL 3, 2130), (11, 410, vL (-2000000), 2207), (11, 412, vL 2000000, 2208), (11, 414, vL 100, 2213), (11, 449, vI (-1640531527), 2273), (11, 450, vI (-2048144789), 2274), (11, 451, vI (-1028477387), 2275), (11, 479, vL (-1), 2315), (11, 497, vL 1000, 2340), (11, 502, vL 7, 2353)]
/-- classes linked: who, which entry, the class by its number (100: int[], 104: Object[], 99: Object, 201 on: the exceptions), its name, where the word stands -/
def aKl : List (Nat × Nat × Nat × String × Nat) := [(12, 8, 1, "CensusOffice", 142), (10, 7, 6, "CensusOffice$Register", 150), (2, 9, 8, "CensusOffice$Rows", 156), (10, 16, 12, "CensusOffice$Tape", 202), (10, 23, 4, "CensusOffice$Reader", 236), (5, 9, 3, "CensusOffice$Form", 242), (4, 34, 8, "CensusOffice$Rows", 248), (10, 32, 2, "CensusOffice$Editor", 324), (10, 39, 13, "java/util/ArrayList", 342), (10, 61, 8, "CensusOffice$Rows", 368), (12, 13, 201, "java/lang/IllegalArgumentException", 413), (10, 79, 201, "java/lang/IllegalArgumentException", 420), (12, 19, 204, "java/lang/UnsupportedOperationException", 491), (10, 93, 204, "java/lang/UnsupportedOperationException", 500), (13, 317, 100, "[I", 533), (12, 25, 203, "java/lang/IndexOutOfBoundsException", 551), (12, 27, 202, "java/lang/IllegalStateException", 552), (10, 285, 203, "java/lang/IndexOutOfBoundsException", 568), (10, 132, 202, "java/lang/IllegalStateException", 604), (10, 162, 3, "CensusOffice$Form", 706), (13, 110, 104, "[Ljava/lang/Object;", 869), (13, 2, 99, "java/lang/Object", 871), (9, 7, 99, "java/lang/Object", 873), (10, 199, 10, "CensusOffice$Session", 912), (10, 247, 5, "CensusOffice$Rec", 1087), (6, 24, 5, "CensusOffice$Rec", 1254), (10, 333, 9, "CensusOffice$Sample", 1302), (10, 376, 11, "CensusOffice$Table", 1411), (10, 467, 7, "CensusOffice$Release", 1645), (12, 142, 14, "CensusOfficeModel", 1703)]
/-- members without code of ours: who, which entry, which (0 the constructor of Object, 1 clone of int[], 2 System.arraycopy, 3 getClass), where the word stands -/
def aNl : List (Nat × Nat × Nat × Nat) := [(1, 3, 0, 161), (2, 3, 0, 155), (3, 3, 0, 207), (4, 5, 0, 247), (5, 3, 0, 241), (6, 3, 0, 329), (7, 1, 0, 353), (10, 1, 0, 147), (11, 1, 0, 1708), (13, 86, 3, 844), (13, 150, 2, 537), (13, 316, 1, 527), (17, 3, 0, 922), (19, 3, 0, 1092), (20, 3, 0, 1307), (21, 3, 0, 1416), (21, 90, 2, 1495), (22, 3, 0, 1650)]
/-- constructors of exceptions: who, which entry, which exception -/
def aXt : List (Nat × Nat × Nat) := [(10, 83, 1), (10, 97, 4), (10, 136, 2), (10, 289, 3)]
/-- String constants: who, which entry, the text, where the word stands -/
def aSr : List (Nat × Nat × String × Nat) := [(10, 81, "the clock cannot go on by so many minutes", 462), (10, 95, "no room for a unit", 509), (10, 111, "the day or the number is out of its range", 590), (10, 119, "no room for a telling", 620), (10, 134, "both units have the same last one", 641), (10, 141, "a day is below 0", 653), (10, 150, "no room on the tape", 681), (10, 155, "the tape has not so many bytes", 693), (10, 160, "no room for a form", 705), (10, 182, "what is 0 .. 3", 903), (10, 197, "no room for a session", 911), (10, 218, "the session is at its end", 1036), (10, 224, "no answer of this question", 1037), (10, 234, "the session is closed", 1067), (10, 245, "the session is not at its end, or closed", 1086), (10, 268, "a rule is of asks", 1151), (10, 272, "both are the same, or n is out of its range", 1154), (10, 277, "no room for a rule", 1155), (10, 283, "no ask, or no cost", 1169), (10, 287, "k is below NONE", 1177), (10, 305, "way is 0 or 1", 1246), (10, 307, "there is no set", 1247), (10, 329, "the frame has not so many units", 1300), (10, 331, "no room for a sample", 1301), (10, 348, "k is below 0", 1361), (10, 362, "row and column are two asks", 1399), (10, 367, "the measure is an ask or a let", 1404), (10, 372, "too many numbers", 1409), (10, 374, "no room for a table", 1410), (10, 419, "few, share or wide is out of its range", 1531), (10, 442, "the base is 1 .. 1000", 1601), (10, 447, "roles are 0 .. 7", 1626), (10, 449, "no room for a person", 1627), (10, 461, "the person is no maker", 1642), (10, 463, "the minute is over", 1643), (10, 465, "no room for a release", 1644), (10, 479, "no room for a look", 1680), (10, 487, "what is 0 .. 5", 1694), (10, 492, "what is 0 .. 14", 1702), (10, 494, "there is no such thing of those that the call names", 577), (10, 499, "the unit went into another one", 613)]
def aX : aE := (.athrow, 0, [], vJ)
