/-! THE TABLES OF THIS CLAIM FOR THE ABSTRACT MACHINE (printed by wip/p2/gen_tables.py): classes, methods, links, static arrays; each row held against lw_tbl by its place -/
def aj_T0 : u_T := fun k => match k with
  | 0 => ("DimShelf$Checker", "tokens", "LDimShelf$Tokens;", true)
  | 1 => ("DimShelf$Checker", "plan", "LDimShelf$Plan;", true)
  | 2 => ("DimShelf$Checker", "shelf", "LDimShelf$Shelf;", false)
  | 3 => ("DimShelf$Checker", "columns", "[J", true)
  | 4 => ("DimShelf$Checker", "widths", "[I", true)
  | 5 => ("DimShelf$Checker", "depth", "I", false)
  | 6 => ("DimShelf$Checker", "picks", "[J", true)
  | 7 => ("DimShelf$Checker", "picked", "I", false)
  | _ => ("DimShelf$Checker", "fresh", "J", false)
def aj_F0 : Nat → FieldType := fun k => match k with
  | 0 => .object "DimShelf$Tokens"
  | 1 => .object "DimShelf$Plan"
  | 2 => .object "DimShelf$Shelf"
  | 3 => .array .long
  | 4 => .array .int
  | 5 => .int
  | 6 => .array .long
  | 7 => .int
  | _ => .long
def aj_T1 : u_T := fun k => match k with
  | 0 => ("DimShelf$Grouper", "picks", "[I", true)
  | 1 => ("DimShelf$Grouper", "picked", "I", false)
  | 2 => ("DimShelf$Grouper", "fold", "I", false)
  | 3 => ("DimShelf$Grouper", "folded", "I", false)
  | 4 => ("DimShelf$Grouper", "line", "[I", true)
  | 5 => ("DimShelf$Grouper", "tuple", "[I", true)
  | _ => ("DimShelf$Grouper", "sorts", "[Z", true)
def aj_F1 : Nat → FieldType := fun k => match k with
  | 0 => .array .int
  | 1 => .int
  | 2 => .int
  | 3 => .int
  | 4 => .array .int
  | 5 => .array .int
  | _ => .array .boolean
def aj_T2 : u_T := fun k => match k with
  | 0 => ("DimShelf$Listing", "told", "I", false)
  | 1 => ("DimShelf$Listing", "fewest", "I", false)
  | 2 => ("DimShelf$Listing", "most", "I", false)
  | 3 => ("DimShelf$Listing", "length", "I", false)
  | 4 => ("DimShelf$Listing", "sures", "I", false)
  | 5 => ("DimShelf$Listing", "refs", "[I", false)
  | 6 => ("DimShelf$Listing", "merged", "[I", false)
  | 7 => ("DimShelf$Listing", "ends", "[I", true)
  | 8 => ("DimShelf$Listing", "runs", "I", false)
  | 9 => ("DimShelf$Listing", "sureAt", "[I", true)
  | _ => ("DimShelf$Listing", "line", "[I", true)
def aj_F2 : Nat → FieldType := fun k => match k with
  | 0 => .int
  | 1 => .int
  | 2 => .int
  | 3 => .int
  | 4 => .int
  | 5 => .array .int
  | 6 => .array .int
  | 7 => .array .int
  | 8 => .int
  | 9 => .array .int
  | _ => .array .int
def aj_T3 : u_T := fun k => match k with
  | 0 => ("DimShelf$Parser", "tokens", "LDimShelf$Tokens;", true)
  | 1 => ("DimShelf$Parser", "plan", "LDimShelf$Plan;", true)
  | 2 => ("DimShelf$Parser", "stack", "[I", true)
  | 3 => ("DimShelf$Parser", "names", "[J", true)
  | 4 => ("DimShelf$Parser", "rows", "[I", true)
  | 5 => ("DimShelf$Parser", "depth", "I", false)
  | 6 => ("DimShelf$Parser", "next", "I", false)
  | 7 => ("DimShelf$Parser", "near", "I", false)
  | 8 => ("DimShelf$Parser", "unknowns", "I", false)
  | 9 => ("DimShelf$Parser", "tables", "I", false)
  | 10 => ("DimShelf$Parser", "columns", "I", false)
  | 11 => ("DimShelf$Parser", "always", "I", false)
  | 12 => ("DimShelf$Parser", "signs", "I", false)
  | 13 => ("DimShelf$Parser", "listed", "I", false)
  | 14 => ("DimShelf$Parser", "open", "I", false)
  | _ => ("DimShelf$Parser", "rowNote", "I", false)
def aj_F3 : Nat → FieldType := fun k => match k with
  | 0 => .object "DimShelf$Tokens"
  | 1 => .object "DimShelf$Plan"
  | 2 => .array .int
  | 3 => .array .long
  | 4 => .array .int
  | 5 => .int
  | 6 => .int
  | 7 => .int
  | 8 => .int
  | 9 => .int
  | 10 => .int
  | 11 => .int
  | 12 => .int
  | 13 => .int
  | 14 => .int
  | _ => .int
def aj_T4 : u_T := fun k => match k with
  | 0 => ("DimShelf$Plan", "notes", "[I", true)
  | 1 => ("DimShelf$Plan", "nears", "[I", true)
  | 2 => ("DimShelf$Plan", "leads", "[I", true)
  | 3 => ("DimShelf$Plan", "args", "[I", true)
  | 4 => ("DimShelf$Plan", "length", "I", false)
  | 5 => ("DimShelf$Plan", "fault", "I", false)
  | _ => ("DimShelf$Plan", "place", "I", false)
def aj_F4 : Nat → FieldType := fun k => match k with
  | 0 => .array .int
  | 1 => .array .int
  | 2 => .array .int
  | 3 => .array .int
  | 4 => .int
  | 5 => .int
  | _ => .int
def aj_T5 : u_T := fun k => match k with
  | 0 => ("DimShelf$Reason", "known", "Z", false)
  | 1 => ("DimShelf$Reason", "chosen", "I", false)
  | 2 => ("DimShelf$Reason", "masks", "[I", true)
  | _ => ("DimShelf$Reason", "length", "I", false)
def aj_F5 : Nat → FieldType := fun k => match k with
  | 0 => .boolean
  | 1 => .int
  | 2 => .array .int
  | _ => .int
def aj_T6 : u_T := fun k => match k with
  | 0 => ("DimShelf$Rows", "terms", "[I", true)
  | 1 => ("DimShelf$Rows", "open", "[Z", true)
  | 2 => ("DimShelf$Rows", "there", "[I", true)
  | 3 => ("DimShelf$Rows", "width", "I", false)
  | _ => ("DimShelf$Rows", "height", "I", false)
def aj_F6 : Nat → FieldType := fun k => match k with
  | 0 => .array .int
  | 1 => .array .boolean
  | 2 => .array .int
  | 3 => .int
  | _ => .int
def aj_T7 : u_T := fun k => match k with
  | 0 => ("DimShelf$Shelf", "names", "[J", true)
  | 1 => ("DimShelf$Shelf", "sizes", "[I", true)
  | 2 => ("DimShelf$Shelf", "values", "[I", true)
  | 3 => ("DimShelf$Shelf", "cells", "[I", true)
  | 4 => ("DimShelf$Shelf", "broken", "[I", true)
  | 5 => ("DimShelf$Shelf", "held", "[I", true)
  | 6 => ("DimShelf$Shelf", "asked", "[Z", true)
  | 7 => ("DimShelf$Shelf", "rows", "[LDimShelf$Rows;", true)
  | 8 => ("DimShelf$Shelf", "tableNames", "[J", true)
  | 9 => ("DimShelf$Shelf", "columnNames", "[J", true)
  | 10 => ("DimShelf$Shelf", "answers", "[Z", true)
  | 11 => ("DimShelf$Shelf", "unknowns", "I", false)
  | 12 => ("DimShelf$Shelf", "tables", "I", false)
  | 13 => ("DimShelf$Shelf", "all", "I", false)
  | 14 => ("DimShelf$Shelf", "holding", "I", false)
  | 15 => ("DimShelf$Shelf", "parts", "I", false)
  | 16 => ("DimShelf$Shelf", "learned", "I", false)
  | _ => ("DimShelf$Shelf", "wasAsked", "Z", false)
def aj_F7 : Nat → FieldType := fun k => match k with
  | 0 => .array .long
  | 1 => .array .int
  | 2 => .array .int
  | 3 => .array .int
  | 4 => .array .int
  | 5 => .array .int
  | 6 => .array .boolean
  | 7 => .array (.object "DimShelf$Rows")
  | 8 => .array .long
  | 9 => .array .long
  | 10 => .array .boolean
  | 11 => .int
  | 12 => .int
  | 13 => .int
  | 14 => .int
  | 15 => .int
  | 16 => .int
  | _ => .boolean
def aj_T8 : u_T := fun k => match k with
  | 0 => ("DimShelf$Tokens", "kinds", "[I", true)
  | 1 => ("DimShelf$Tokens", "starts", "[I", true)
  | 2 => ("DimShelf$Tokens", "words", "[J", true)
  | _ => ("DimShelf$Tokens", "length", "I", false)
def aj_F8 : Nat → FieldType := fun k => match k with
  | 0 => .array .int
  | 1 => .array .int
  | 2 => .array .long
  | _ => .int
def aj_T9 : u_T := fun k => match k with
  | 0 => ("DimShelf$Worker", "tokens", "LDimShelf$Tokens;", true)
  | 1 => ("DimShelf$Worker", "plan", "LDimShelf$Plan;", true)
  | 2 => ("DimShelf$Worker", "grouper", "LDimShelf$Grouper;", true)
  | 3 => ("DimShelf$Worker", "stack", "[LDimShelf$Rows;", true)
  | 4 => ("DimShelf$Worker", "depth", "I", false)
  | 5 => ("DimShelf$Worker", "scratch", "LDimShelf$Rows;", false)
  | 6 => ("DimShelf$Worker", "truths", "[I", true)
  | 7 => ("DimShelf$Worker", "shelf", "LDimShelf$Shelf;", false)
  | 8 => ("DimShelf$Worker", "leftSort", "I", false)
  | 9 => ("DimShelf$Worker", "leftNumber", "I", false)
  | 10 => ("DimShelf$Worker", "rightSort", "I", false)
  | 11 => ("DimShelf$Worker", "rightNumber", "I", false)
  | 12 => ("DimShelf$Worker", "relation", "I", false)
  | 13 => ("DimShelf$Worker", "rowTable", "I", false)
  | _ => ("DimShelf$Worker", "rowTerms", "I", false)
def aj_F9 : Nat → FieldType := fun k => match k with
  | 0 => .object "DimShelf$Tokens"
  | 1 => .object "DimShelf$Plan"
  | 2 => .object "DimShelf$Grouper"
  | 3 => .array (.object "DimShelf$Rows")
  | 4 => .int
  | 5 => .object "DimShelf$Rows"
  | 6 => .array .int
  | 7 => .object "DimShelf$Shelf"
  | 8 => .int
  | 9 => .int
  | 10 => .int
  | 11 => .int
  | 12 => .int
  | 13 => .int
  | _ => .int
def aj_T10 : u_T := fun k => match k with
  | 0 => ("DimShelf", "tape", "[C", true)
  | 1 => ("DimShelf", "bytes", "I", false)
  | 2 => ("DimShelf", "faultPlace", "I", false)
  | 3 => ("DimShelf", "shelf", "LDimShelf$Shelf;", false)
  | 4 => ("DimShelf", "spare", "LDimShelf$Shelf;", false)
  | 5 => ("DimShelf", "tokens", "LDimShelf$Tokens;", true)
  | 6 => ("DimShelf", "plan", "LDimShelf$Plan;", true)
  | 7 => ("DimShelf", "parser", "LDimShelf$Parser;", true)
  | 8 => ("DimShelf", "checker", "LDimShelf$Checker;", true)
  | 9 => ("DimShelf", "worker", "LDimShelf$Worker;", true)
  | 10 => ("DimShelf", "listing", "LDimShelf$Listing;", true)
  | 11 => ("DimShelf", "reason", "LDimShelf$Reason;", true)
  | 12 => ("DimShelf", "line", "[I", true)
  | _ => ("DimShelf", "otherLine", "[I", true)
def aj_F10 : Nat → FieldType := fun k => match k with
  | 0 => .array .char
  | 1 => .int
  | 2 => .int
  | 3 => .object "DimShelf$Shelf"
  | 4 => .object "DimShelf$Shelf"
  | 5 => .object "DimShelf$Tokens"
  | 6 => .object "DimShelf$Plan"
  | 7 => .object "DimShelf$Parser"
  | 8 => .object "DimShelf$Checker"
  | 9 => .object "DimShelf$Worker"
  | 10 => .object "DimShelf$Listing"
  | 11 => .object "DimShelf$Reason"
  | 12 => .array .int
  | _ => .array .int
def aj_T11 : u_T := fun k => match k with
  | 0 => ("DimShelfModel", "half", "I", false)
  | 1 => ("DimShelfModel", "unknowns", "[I", true)
  | 2 => ("DimShelfModel", "unknownName", "[J", true)
  | 3 => ("DimShelfModel", "valueMany", "[I", true)
  | 4 => ("DimShelfModel", "values", "[I", true)
  | 5 => ("DimShelfModel", "worlds", "[I", true)
  | 6 => ("DimShelfModel", "valueIn", "[I", true)
  | 7 => ("DimShelfModel", "tables", "[I", true)
  | 8 => ("DimShelfModel", "tableName", "[J", true)
  | 9 => ("DimShelfModel", "isAnswer", "[Z", true)
  | 10 => ("DimShelfModel", "parts", "[I", true)
  | 11 => ("DimShelfModel", "learned", "[I", true)
  | 12 => ("DimShelfModel", "part", "[I", true)
  | 13 => ("DimShelfModel", "isAsked", "Z", false)
  | 14 => ("DimShelfModel", "asked", "[I", true)
  | 15 => ("DimShelfModel", "rows", "[I", true)
  | 16 => ("DimShelfModel", "cols", "[I", true)
  | 17 => ("DimShelfModel", "column", "[J", true)
  | 18 => ("DimShelfModel", "kindOf", "[B", true)
  | 19 => ("DimShelfModel", "valueOf", "[I", true)
  | 20 => ("DimShelfModel", "bits", "[I", true)
  | 21 => ("DimShelfModel", "cond", "[I", true)
  | 22 => ("DimShelfModel", "tape", "[B", true)
  | 23 => ("DimShelfModel", "taped", "I", false)
  | 24 => ("DimShelfModel", "faultKind", "I", false)
  | 25 => ("DimShelfModel", "faultPlace", "I", false)
  | 26 => ("DimShelfModel", "kind", "I", false)
  | 27 => ("DimShelfModel", "begin", "I", false)
  | 28 => ("DimShelfModel", "end", "I", false)
  | 29 => ("DimShelfModel", "mark", "I", false)
  | 30 => ("DimShelfModel", "tokens", "I", false)
  | 31 => ("DimShelfModel", "stopped", "Z", false)
  | 32 => ("DimShelfModel", "isWork", "Z", false)
  | 33 => ("DimShelfModel", "name", "J", false)
  | 34 => ("DimShelfModel", "namePlace", "I", false)
  | 35 => ("DimShelfModel", "number", "I", false)
  | 36 => ("DimShelfModel", "numberPlace", "I", false)
  | 37 => ("DimShelfModel", "in", "I", false)
  | 38 => ("DimShelfModel", "termKind", "I", false)
  | 39 => ("DimShelfModel", "termValue", "I", false)
  | 40 => ("DimShelfModel", "rel", "I", false)
  | 41 => ("DimShelfModel", "conds", "I", false)
  | 42 => ("DimShelfModel", "waiting", "[I", true)
  | 43 => ("DimShelfModel", "waits", "I", false)
  | 44 => ("DimShelfModel", "held", "I", false)
  | 45 => ("DimShelfModel", "alwayses", "I", false)
  | 46 => ("DimShelfModel", "brackets", "I", false)
  | 47 => ("DimShelfModel", "acts", "I", false)
  | 48 => ("DimShelfModel", "acting", "[I", true)
  | 49 => ("DimShelfModel", "actPlace", "[I", true)
  | 50 => ("DimShelfModel", "actings", "I", false)
  | 51 => ("DimShelfModel", "top", "I", false)
  | 52 => ("DimShelfModel", "sideKind", "I", false)
  | 53 => ("DimShelfModel", "sideValue", "I", false)
  | 54 => ("DimShelfModel", "sideBad", "Z", false)
  | 55 => ("DimShelfModel", "taken", "[I", true)
  | 56 => ("DimShelfModel", "takens", "I", false)
  | 57 => ("DimShelfModel", "row", "[I", true)
  | 58 => ("DimShelfModel", "found", "I", false)
  | 59 => ("DimShelfModel", "made", "[I", true)
  | 60 => ("DimShelfModel", "broken", "[I", true)
  | 61 => ("DimShelfModel", "brokens", "I", false)
  | 62 => ("DimShelfModel", "chosen", "[I", true)
  | 63 => ("DimShelfModel", "sureRow", "[I", true)
  | 64 => ("DimShelfModel", "sureWorld", "I", false)
  | 65 => ("DimShelfModel", "certain", "I", false)
  | 66 => ("DimShelfModel", "pair", "[I", true)
  | 67 => ("DimShelfModel", "possible", "I", false)
  | 68 => ("DimShelfModel", "version", "J", false)
  | 69 => ("DimShelfModel", "pairVersion", "J", false)
  | 70 => ("DimShelfModel", "pairTable", "I", false)
  | _ => ("DimShelfModel", "other", "[I", true)
def aj_F11 : Nat → FieldType := fun k => match k with
  | 0 => .int
  | 1 => .array .int
  | 2 => .array .long
  | 3 => .array .int
  | 4 => .array .int
  | 5 => .array .int
  | 6 => .array .int
  | 7 => .array .int
  | 8 => .array .long
  | 9 => .array .boolean
  | 10 => .array .int
  | 11 => .array .int
  | 12 => .array .int
  | 13 => .boolean
  | 14 => .array .int
  | 15 => .array .int
  | 16 => .array .int
  | 17 => .array .long
  | 18 => .array .byte
  | 19 => .array .int
  | 20 => .array .int
  | 21 => .array .int
  | 22 => .array .byte
  | 23 => .int
  | 24 => .int
  | 25 => .int
  | 26 => .int
  | 27 => .int
  | 28 => .int
  | 29 => .int
  | 30 => .int
  | 31 => .boolean
  | 32 => .boolean
  | 33 => .long
  | 34 => .int
  | 35 => .int
  | 36 => .int
  | 37 => .int
  | 38 => .int
  | 39 => .int
  | 40 => .int
  | 41 => .int
  | 42 => .array .int
  | 43 => .int
  | 44 => .int
  | 45 => .int
  | 46 => .int
  | 47 => .int
  | 48 => .array .int
  | 49 => .array .int
  | 50 => .int
  | 51 => .int
  | 52 => .int
  | 53 => .int
  | 54 => .boolean
  | 55 => .array .int
  | 56 => .int
  | 57 => .array .int
  | 58 => .int
  | 59 => .array .int
  | 60 => .array .int
  | 61 => .int
  | 62 => .array .int
  | 63 => .array .int
  | 64 => .int
  | 65 => .int
  | 66 => .array .int
  | 67 => .int
  | 68 => .long
  | 69 => .long
  | 70 => .int
  | _ => .array .int
def aj_cls : List aj_C := [("DimShelf$Checker", aj_T0, 9, aj_F0), ("DimShelf$Grouper", aj_T1, 7, aj_F1), ("DimShelf$Listing", aj_T2, 11, aj_F2), ("DimShelf$Parser", aj_T3, 16, aj_F3), ("DimShelf$Plan", aj_T4, 7, aj_F4), ("DimShelf$Reason", aj_T5, 4, aj_F5), ("DimShelf$Rows", aj_T6, 5, aj_F6), ("DimShelf$Shelf", aj_T7, 18, aj_F7), ("DimShelf$Tokens", aj_T8, 4, aj_F8), ("DimShelf$Worker", aj_T9, 15, aj_F9), ("DimShelf", aj_T10, 14, aj_F10), ("DimShelfModel", aj_T11, 72, aj_F11)]
def aj_cl : List vw_C := aj_cls.map fun q => (q.1, q.2.1, q.2.2.1)
def aj_sf : List (String × String × String) := [("DimShelf$Tokens", "WORDS", "[J"), ("DimShelf$Grammar", "TELL_UNKNOWN", "[I"), ("DimShelf$Grammar", "TELL_TABLE", "[I"), ("DimShelf$Grammar", "TELL_ROW", "[I"), ("DimShelf$Grammar", "TELL_ALWAYS", "[I"), ("DimShelf$Grammar", "TELL_ANSWER", "[I"), ("DimShelf$Grammar", "EMPTY", "[I"), ("DimShelf$Grammar", "LISTED_BELOW", "[I"), ("DimShelf$Grammar", "LISTED_PLAIN", "[I"), ("DimShelf$Grammar", "LAST_BELOW", "[I"), ("DimShelf$Grammar", "LAST_PLAIN", "[I"), ("DimShelf$Grammar", "UP_TO", "[I"), ("DimShelf$Grammar", "ONE_MORE_LISTED", "[I"), ("DimShelf$Grammar", "ONE_MORE_COLUMN", "[I"), ("DimShelf$Grammar", "ONE_MORE_TERM", "[I"), ("DimShelf$Grammar", "IF_COND", "[I"), ("DimShelf$Grammar", "ANY_OF", "[I"), ("DimShelf$Grammar", "ONE_MORE_OR", "[I"), ("DimShelf$Grammar", "ALL_OF", "[I"), ("DimShelf$Grammar", "ONE_MORE_AND", "[I"), ("DimShelf$Grammar", "NOT_LITERAL", "[I"), ("DimShelf$Grammar", "COND_IN_BRACKETS", "[I"), ("DimShelf$Grammar", "COMPARED", "[I"), ("DimShelf$Grammar", "EQUAL_SIGN", "[I"), ("DimShelf$Grammar", "UNLIKE_SIGN", "[I"), ("DimShelf$Grammar", "BELOW_SIGN", "[I"), ("DimShelf$Grammar", "AT_MOST_SIGN", "[I"), ("DimShelf$Grammar", "UNKNOWN_TERM", "[I"), ("DimShelf$Grammar", "BELOW_TERM", "[I"), ("DimShelf$Grammar", "PLAIN_TERM", "[I"), ("DimShelf$Grammar", "SUMMED", "[I"), ("DimShelf$Grammar", "ONE_MORE_PLUS", "[I"), ("DimShelf$Grammar", "ONE_MORE_MINUS", "[I"), ("DimShelf$Grammar", "MULTIPLIED", "[I"), ("DimShelf$Grammar", "ONE_MORE_JOIN", "[I"), ("DimShelf$Grammar", "QUERY_IN_BRACKETS", "[I"), ("DimShelf$Grammar", "TABLE_NAMED", "[I"), ("DimShelf$Grammar", "STEP_TESTS", "[I"), ("DimShelf$Grammar", "STEP_PICKS", "[I"), ("DimShelf$Grammar", "STEP_RENAME", "[I"), ("DimShelf$Grammar", "STEP_GROUP", "[I"), ("DimShelf$Grammar", "ONE_TEST", "[I"), ("DimShelf$Grammar", "ONE_MORE_TEST", "[I"), ("DimShelf$Grammar", "COLUMN_SIDE", "[I"), ("DimShelf$Grammar", "TERM_SIDE", "[I"), ("DimShelf$Grammar", "ONE_MORE_PICK", "[I"), ("DimShelf$Grammar", "FIRST_PICK", "[I"), ("DimShelf$Grammar", "FOLD_COUNT", "[I"), ("DimShelf$Grammar", "FOLD_LEAST", "[I"), ("DimShelf$Grammar", "FOLD_MOST", "[I"), ("DimShelf$Grammar", "FOLD_SUM", "[I")]
def aj_tbS : aj_T := [(1, 10, .inr (.inl (fun j => ([33053979968501614, 499850046565, 7499639, 26982, 107118487239027, 107127011501426, 427071729268, 465557353332, 1836020596, 7566701] : List Int64).getD j 0))), (0, 9, .inl (fun j => ([10, 3, 180, 58, 131, 132, 59, 183, 130] : List Int32).getD j 0)), (0, 10, .inl (fun j => ([11, 3, 184, 40, 3, 185, 135, 41, 59, 130] : List Int32).getD j 0)), (0, 11, .inl (fun j => ([12, 3, 186, 40, 144, 187, 136, 41, 137, 59, 130] : List Int32).getD j 0)), (0, 6, .inl (fun j => ([14, 189, 138, 59, 190, 130] : List Int32).getD j 0)), (0, 8, .inl (fun j => ([15, 3, 191, 61, 145, 59, 192, 130] : List Int32).getD j 0)), (0, 0, .inl (fun j => ([] : List Int32).getD j 0)), (0, 3, .inl (fun j => ([45, 181, 4] : List Int32).getD j 0)), (0, 2, .inl (fun j => ([4, 181] : List Int32).getD j 0)), (0, 3, .inl (fun j => ([45, 182, 4] : List Int32).getD j 0)), (0, 2, .inl (fun j => ([4, 182] : List Int32).getD j 0)), (0, 2, .inl (fun j => ([5, 134] : List Int32).getD j 0)), (0, 3, .inl (fun j => ([44, 131, 133] : List Int32).getD j 0)), (0, 4, .inl (fun j => ([44, 3, 185, 135] : List Int32).getD j 0)), (0, 4, .inl (fun j => ([44, 144, 187, 136] : List Int32).getD j 0)), (0, 3, .inl (fun j => ([13, 138, 188] : List Int32).getD j 0)), (0, 2, .inl (fun j => ([140, 139] : List Int32).getD j 0)), (0, 4, .inl (fun j => ([124, 140, 207, 139] : List Int32).getD j 0)), (0, 2, .inl (fun j => ([142, 141] : List Int32).getD j 0)), (0, 4, .inl (fun j => ([38, 142, 206, 141] : List Int32).getD j 0)), (0, 5, .inl (fun j => ([33, 170, 142, 171, 205] : List Int32).getD j 0)), (0, 5, .inl (fun j => ([40, 170, 138, 41, 171] : List Int32).getD j 0)), (0, 4, .inl (fun j => ([144, 143, 144, 204] : List Int32).getD j 0)), (0, 2, .inl (fun j => ([61, 203] : List Int32).getD j 0)), (0, 2, .inl (fun j => ([6, 203] : List Int32).getD j 0)), (0, 2, .inl (fun j => ([60, 203] : List Int32).getD j 0)), (0, 2, .inl (fun j => ([7, 203] : List Int32).getD j 0)), (0, 3, .inl (fun j => ([63, 3, 201] : List Int32).getD j 0)), (0, 3, .inl (fun j => ([45, 200, 4] : List Int32).getD j 0)), (0, 2, .inl (fun j => ([4, 200] : List Int32).getD j 0)), (0, 2, .inl (fun j => ([147, 146] : List Int32).getD j 0)), (0, 5, .inl (fun j => ([43, 172, 147, 211, 146] : List Int32).getD j 0)), (0, 5, .inl (fun j => ([45, 172, 147, 212, 146] : List Int32).getD j 0)), (0, 2, .inl (fun j => ([149, 148] : List Int32).getD j 0)), (0, 5, .inl (fun j => ([42, 172, 149, 213, 148] : List Int32).getD j 0)), (0, 6, .inl (fun j => ([40, 170, 145, 41, 171, 150] : List Int32).getD j 0)), (0, 3, .inl (fun j => ([3, 210, 150] : List Int32).getD j 0)), (0, 5, .inl (fun j => ([91, 151, 152, 93, 150] : List Int32).getD j 0)), (0, 9, .inl (fun j => ([58, 40, 215, 3, 216, 154, 41, 217, 150] : List Int32).getD j 0)), (0, 8, .inl (fun j => ([123, 3, 218, 61, 3, 219, 125, 150] : List Int32).getD j 0)), (0, 11, .inl (fun j => ([35, 172, 40, 215, 155, 41, 220, 156, 3, 223, 150] : List Int32).getD j 0)), (0, 4, .inl (fun j => ([153, 143, 153, 214] : List Int32).getD j 0)), (0, 3, .inl (fun j => ([44, 151, 152] : List Int32).getD j 0)), (0, 2, .inl (fun j => ([3, 202] : List Int32).getD j 0)), (0, 1, .inl (fun j => ([144] : List Int32).getD j 0)), (0, 4, .inl (fun j => ([44, 3, 216, 154] : List Int32).getD j 0)), (0, 3, .inl (fun j => ([3, 216, 154] : List Int32).getD j 0)), (0, 2, .inl (fun j => ([16, 221] : List Int32).getD j 0)), (0, 4, .inl (fun j => ([17, 221, 3, 222] : List Int32).getD j 0)), (0, 4, .inl (fun j => ([18, 221, 3, 222] : List Int32).getD j 0)), (0, 4, .inl (fun j => ([19, 221, 3, 222] : List Int32).getD j 0))]
def aj_nw : List Cond := [.fieldLinkNest "DimShelf$Rows" 22 "DimShelf$Shelf" "cells" "[I" "DimShelf", .fieldLinkNest "DimShelf" 149 "DimShelf$Shelf" "unknowns" "I" "DimShelf", .fieldLinkNest "DimShelf" 225 "DimShelf$Shelf" "tables" "I" "DimShelf", .fieldLinkNest "DimShelf$Grouper" 60 "DimShelf$Shelf" "all" "I" "DimShelf", .fieldLinkNest "DimShelf$Reason" 35 "DimShelf$Shelf" "all" "I" "DimShelf", .fieldLinkNest "DimShelf$Worker" 127 "DimShelf$Shelf" "all" "I" "DimShelf", .fieldLinkNest "DimShelf" 222 "DimShelf$Shelf" "all" "I" "DimShelf", .fieldLinkNest "DimShelf$Worker" 103 "DimShelf$Shelf" "holding" "I" "DimShelf", .fieldLinkNest "DimShelf" 131 "DimShelf$Shelf" "holding" "I" "DimShelf", .fieldLinkNest "DimShelf$Listing" 59 "DimShelf$Shelf" "holding" "I" "DimShelf", .fieldLinkNest "DimShelf$Reason" 50 "DimShelf$Shelf" "parts" "I" "DimShelf", .fieldLinkNest "DimShelf" 228 "DimShelf$Shelf" "parts" "I" "DimShelf", .fieldLinkNest "DimShelf" 124 "DimShelf$Shelf" "learned" "I" "DimShelf", .fieldLinkNest "DimShelf$Reason" 32 "DimShelf$Shelf" "wasAsked" "Z" "DimShelf", .fieldLinkNest "DimShelf$Checker" 45 "DimShelf$Plan" "length" "I" "DimShelf", .fieldLinkNest "DimShelf$Worker" 45 "DimShelf$Plan" "length" "I" "DimShelf", .fieldLinkNest "DimShelf$Parser" 124 "DimShelf$Plan" "length" "I" "DimShelf", .fieldLinkNest "DimShelf$Checker" 54 "DimShelf$Plan" "fault" "I" "DimShelf", .fieldLinkNest "DimShelf$Parser" 73 "DimShelf$Plan" "fault" "I" "DimShelf", .fieldLinkNest "DimShelf" 103 "DimShelf$Plan" "fault" "I" "DimShelf", .fieldLinkNest "DimShelf$Worker" 68 "DimShelf$Plan" "fault" "I" "DimShelf", .fieldLinkNest "DimShelf" 110 "DimShelf$Plan" "place" "I" "DimShelf", .fieldLinkNest "DimShelf$Worker" 201 "DimShelf$Grouper" "picked" "I" "DimShelf", .fieldLinkNest "DimShelf$Worker" 211 "DimShelf$Grouper" "fold" "I" "DimShelf", .fieldLinkNest "DimShelf$Worker" 214 "DimShelf$Grouper" "folded" "I" "DimShelf", .fieldLinkNest "DimShelf$Grouper" 48 "DimShelf$Rows" "width" "I" "DimShelf", .fieldLinkNest "DimShelf$Checker" 150 "DimShelf$Rows" "width" "I" "DimShelf", .fieldLinkNest "DimShelf$Shelf" 81 "DimShelf$Rows" "width" "I" "DimShelf", .fieldLinkNest "DimShelf" 164 "DimShelf$Rows" "width" "I" "DimShelf", .fieldLinkNest "DimShelf$Worker" 244 "DimShelf$Rows" "width" "I" "DimShelf", .fieldLinkNest "DimShelf$Grouper" 33 "DimShelf$Rows" "height" "I" "DimShelf", .fieldLinkNest "DimShelf$Worker" 124 "DimShelf$Rows" "height" "I" "DimShelf", .fieldLinkNest "DimShelf$Shelf" 84 "DimShelf$Rows" "height" "I" "DimShelf", .fieldLinkNest "DimShelf" 161 "DimShelf$Rows" "height" "I" "DimShelf", .fieldLinkNest "DimShelf" 175 "DimShelf$Listing" "fewest" "I" "DimShelf", .fieldLinkNest "DimShelf" 178 "DimShelf$Listing" "most" "I" "DimShelf", .fieldLinkNest "DimShelf" 184 "DimShelf$Listing" "length" "I" "DimShelf", .fieldLinkNest "DimShelf" 181 "DimShelf$Listing" "sures" "I" "DimShelf", .methodLinkNest "DimShelf" 32 ⟨"DimShelf$Tokens", "<init>", "()V"⟩ "DimShelf", .methodLinkNest "DimShelf" 39 ⟨"DimShelf$Plan", "<init>", "()V"⟩ "DimShelf", .methodLinkNest "DimShelf$Worker" 9 ⟨"DimShelf$Grouper", "<init>", "()V"⟩ "DimShelf", .methodLinkNest "DimShelf$Worker" 22 ⟨"DimShelf$Rows", "<init>", "()V"⟩ "DimShelf", .methodLinkNest "DimShelf" 69 ⟨"DimShelf$Listing", "<init>", "()V"⟩ "DimShelf", .methodLinkNest "DimShelf" 76 ⟨"DimShelf$Reason", "<init>", "()V"⟩ "DimShelf", .methodLinkNest "DimShelf$Shelf" 80 ⟨"DimShelf$Rows", "<init>", "()V"⟩ "DimShelf"]
def aj_nwP : List Nat := [225, 234, 236, 238, 239, 240, 241, 242, 243, 244, 247, 248, 250, 252, 324, 325, 326, 328, 329, 330, 331, 333, 452, 454, 456, 484, 486, 487, 488, 489, 490, 491, 493, 494, 560, 562, 564, 566, 296, 315, 446, 477, 554, 598, 1064]
def aj_lk0 : List aj_L := [(9, 0, 10, 0, 1), (13, 0, 10, 1, 0), (17, 0, 10, 2, 0), (23, 0, 10, 3, 0), (27, 0, 10, 4, 0), (33, 0, 10, 5, 1), (40, 0, 10, 6, 1), (49, 0, 10, 7, 1), (56, 0, 10, 8, 1), (63, 0, 10, 9, 1), (70, 0, 10, 10, 1), (77, 0, 10, 11, 1), (83, 0, 10, 12, 1), (87, 0, 10, 13, 1), (149, 1, 7, 11, 0), (225, 1, 7, 12, 0), (222, 1, 7, 13, 0), (131, 1, 7, 14, 0), (228, 1, 7, 15, 0), (124, 1, 7, 16, 0), (103, 1, 4, 5, 0), (110, 1, 4, 6, 0), (164, 1, 6, 3, 0), (161, 1, 6, 4, 0), (175, 1, 2, 1, 0), (178, 1, 2, 2, 0), (184, 1, 2, 3, 0), (181, 1, 2, 4, 0), (1, 5, 0, 0, 0), (22, 3, 1, 0, 0), (46, 3, 9, 2, 0), (55, 3, 10, 2, 0), (62, 3, 11, 2, 0), (90, 2, 17, 1, 10), (94, 2, 2, 0, 7), (99, 2, 20, 2, 10), (231, 2, 21, 2, 8), (235, 2, 31, 0, 4), (236, 2, 32, 1, 3), (239, 2, 56, 1, 0), (106, 2, 97, 1, 9), (113, 2, 150, 0, 10), (245, 2, 151, 0, 2), (140, 2, 152, 0, 5), (116, 2, 155, 0, 10), (242, 2, 156, 1, 9), (120, 2, 157, 1, 7), (127, 2, 148, 1, 7), (134, 2, 160, 0, 7), (137, 2, 162, 1, 7), (141, 2, 164, 2, 5), (145, 2, 158, 1, 7), (153, 2, 124, 2, 7), (157, 2, 63, 1, 7), (167, 2, 95, 1, 7), (171, 2, 174, 2, 2), (187, 2, 103, 2, 6), (191, 2, 104, 2, 6), (194, 2, 108, 2, 6), (197, 2, 129, 3, 6), (201, 2, 114, 4, 6), (205, 2, 192, 1, 2), (208, 2, 193, 3, 10), (246, 6, 182, 1, 0), (249, 6, 183, 1, 0), (212, 2, 181, 1, 2), (215, 6, 184, 1, 0), (218, 2, 197, 3, 10), (252, 2, 130, 6, 6), (32, 4, 7, 0, 0), (39, 4, 8, 0, 0), (69, 4, 14, 0, 0), (76, 4, 15, 0, 0), (20, 12, 7, 0, 0), (30, 12, 8, 0, 0), (37, 12, 4, 0, 0), (44, 12, 3, 0, 0), (53, 12, 0, 0, 0), (60, 12, 9, 0, 0), (67, 12, 2, 0, 0), (74, 12, 5, 0, 0), (152, 10, 0, 0, -100000)]
def aj_lp0 : List (List Nat) := [[615], [616], [617], [618], [619], [620], [621], [622], [623], [624], [625], [626], [627], [628], [1], [2], [6], [8], [11], [12], [19], [21], [28], [33], [34], [35], [36], [37], [190, 191, 192], [195, 196, 169], [351, 352, 172], [406, 407, 173], [440, 441, 174], [662, 664, 3, 168], [674, 202, 203, 169], [675, 677, 4, 168], [679, 680, 681, 170], [717, 718, 719, 171], [721, 722, 723, 172], [910, 911, 912, 173], [1083, 1084, 1085, 174], [1324, 1326, 70, 168], [1328, 1329, 1330, 177], [1332, 1333, 1334, 178], [1344, 1346, 71, 168], [1348, 1349, 1350, 174], [1352, 1353, 1354, 169], [1360, 1316, 1317, 169], [1365, 1366, 1367, 169], [1373, 1374, 1375, 169], [1381, 1382, 1383, 178], [1418, 1357, 1358, 169], [1420, 1207, 1208, 169], [1425, 940, 941, 169], [1426, 1076, 1077, 169], [1427, 1428, 1429, 177], [1490, 1112, 1113, 176], [1491, 1116, 1117, 176], [1496, 1139, 1140, 176], [1505, 1235, 1236, 176], [1510, 1165, 1166, 176], [1515, 1516, 1517, 177], [1519, 1521, 80, 168], [1523, 1473, 177], [1524, 1476, 177], [1529, 1469, 1470, 177], [1534, 1480, 177], [1539, 1541, 81, 168], [1543, 1239, 1240, 176], [38, 297, 170], [39, 316, 171], [42, 555, 177], [43, 599, 178], [193, 194, 169], [294, 295, 170], [313, 314, 171], [349, 350, 172], [404, 405, 173], [438, 439, 174], [552, 553, 177], [596, 597, 178], [1419]]
def aj_lk1 : List aj_L := [(11, 0, 7, 0, 1), (15, 0, 7, 1, 1), (19, 0, 7, 2, 1), (22, 0, 7, 3, 1), (25, 0, 7, 4, 1), (28, 0, 7, 5, 1), (31, 0, 7, 6, 1), (37, 0, 7, 7, 1), (41, 0, 7, 8, 1), (44, 0, 7, 9, 1), (47, 0, 7, 10, 1), (56, 0, 7, 11, 0), (60, 0, 7, 12, 0), (63, 0, 7, 13, 0), (102, 0, 7, 14, 0), (66, 0, 7, 15, 0), (69, 0, 7, 16, 0), (72, 0, 7, 17, 0), (81, 1, 6, 3, 0), (84, 1, 6, 4, 0), (3, 5, 0, 0, 0), (50, 2, 2, 0, 7), (53, 2, 3, 0, 7), (76, 2, 4, 1, 7), (95, 2, 5, 3, 7), (99, 2, 6, 0, 7), (87, 2, 63, 1, 7), (91, 2, 66, 2, 7), (108, 2, 147, 1, 9), (105, 2, 158, 1, 7), (80, 4, 13, 0, 0), (35, 12, 6, 0, 0)]
def aj_lp1 : List (List Nat) := [[221], [222], [223], [224], [226], [227], [228], [229], [230], [231], [232], [233], [235], [237], [245], [246], [249], [251], [27], [32], [198, 191, 192], [201, 202, 203, 169], [205, 206, 207, 169], [209, 211, 0, 169], [213, 215, 1, 169], [217, 219, 2, 169], [1069, 940, 941, 169], [1070, 955, 956, 169], [1319, 1312, 1313, 174], [1356, 1357, 1358, 169], [44, 478, 176], [199, 476, 176]]
def aj_lk2 : List aj_L := [(9, 0, 8, 0, 1), (13, 0, 8, 1, 1), (16, 0, 8, 2, 1), (22, 0, 8, 3, 0), (60, 9, 0, 0, 0), (1, 5, 0, 0, 0), (26, 6, 22, 1, 0), (30, 2, 23, 3, 8), (38, 6, 24, 1, 0), (41, 2, 25, 3, 8), (44, 6, 26, 1, 0), (34, 2, 27, 3, 8), (54, 6, 28, 1, 0), (47, 2, 29, 3, 8), (50, 6, 30, 1, 0), (58, 11, 0, 0, 10)]
def aj_lp2 : List (List Nat) := [[300], [301], [302], [303], [707], [299, 191, 192], [683, 684, 170], [686, 688, 5, 170], [690, 691, 170], [693, 695, 6, 170], [697, 698, 170], [700, 702, 7, 170], [704, 705, 170], [709, 711, 8, 170], [714, 715, 170], [713]]
def aj_lk3 : List aj_L := [(9, 0, 4, 0, 1), (13, 0, 4, 1, 1), (16, 0, 4, 2, 1), (19, 0, 4, 3, 1), (22, 0, 4, 4, 0), (26, 0, 4, 5, 0), (29, 0, 4, 6, 0), (1, 5, 0, 0, 0)]
def aj_lp3 : List (List Nat) := [[319], [320], [321], [322], [323], [327], [332], [318, 191, 192]]
def aj_lk4 : List aj_L := [(24, 0, 3, 0, 1), (28, 0, 3, 1, 1), (11, 0, 3, 2, 1), (17, 0, 3, 3, 1), (21, 0, 3, 4, 1), (63, 0, 3, 5, 0), (32, 0, 3, 6, 0), (36, 0, 3, 7, 0), (39, 0, 3, 8, 0), (42, 0, 3, 9, 0), (45, 0, 3, 10, 0), (48, 0, 3, 11, 0), (51, 0, 3, 12, 0), (54, 0, 3, 13, 0), (57, 0, 3, 14, 0), (60, 0, 3, 15, 0), (124, 1, 4, 4, 0), (73, 1, 4, 5, 0), (3, 5, 0, 0, 0), (68, 2, 33, 1, 3), (78, 2, 34, 2, 3), (104, 2, 35, 1, 3), (111, 2, 36, 0, 3), (118, 2, 37, 1, 8), (115, 2, 38, 0, 3), (108, 2, 39, 2, 3), (127, 2, 40, 1, 4), (130, 2, 41, 2, 4), (133, 2, 42, 4, 4), (98, 2, 43, 1, 8), (101, 2, 44, 2, 4), (82, 2, 45, 1, 3), (88, 2, 46, 1, 8), (94, 6, 47, 2, 0), (85, 2, 55, 1, 3), (72, 10, 0, 0, 1000000)]
def aj_lp4 : List (List Nat) := [[355], [356], [357], [358], [359], [360], [361], [362], [363], [364], [365], [366], [367], [368], [369], [370], [16], [18], [354, 191, 192], [725, 727, 9, 172], [730, 732, 10, 172], [734, 736, 11, 172], [738, 740, 12, 172], [742, 743, 744, 170], [746, 748, 13, 172], [750, 752, 14, 172], [754, 755, 756, 171], [758, 759, 760, 171], [762, 763, 764, 171], [766, 767, 768, 170], [770, 771, 772, 171], [774, 776, 15, 172], [778, 779, 780, 170], [782, 783, 180], [906, 908, 16, 172], [729]]
def aj_lk5 : List aj_L := [(26, 0, 0, 0, 1), (30, 0, 0, 1, 1), (34, 0, 0, 2, 0), (13, 0, 0, 3, 1), (19, 0, 0, 4, 1), (38, 0, 0, 5, 0), (23, 0, 0, 6, 1), (42, 0, 0, 7, 0), (197, 0, 0, 8, 0), (45, 1, 4, 4, 0), (54, 1, 4, 5, 0), (150, 1, 6, 3, 0), (3, 5, 0, 0, 0), (50, 2, 57, 1, 4), (59, 2, 58, 2, 0), (178, 2, 59, 1, 0), (90, 2, 60, 1, 0), (69, 2, 61, 1, 4), (83, 2, 37, 1, 8), (140, 2, 62, 1, 7), (143, 2, 63, 1, 7), (97, 2, 64, 2, 0), (72, 2, 43, 1, 8), (77, 2, 44, 2, 4), (158, 2, 41, 2, 4), (208, 2, 65, 2, 0), (211, 2, 66, 2, 7), (214, 2, 67, 2, 0), (181, 2, 68, 2, 0), (161, 2, 69, 1, 0), (164, 2, 70, 2, 0), (185, 2, 71, 2, 0), (80, 2, 72, 1, 4), (188, 2, 73, 1, 0), (171, 2, 74, 2, 0), (191, 2, 75, 1, 0), (217, 2, 76, 1, 0), (194, 2, 77, 0, 0), (168, 2, 78, 2, 0), (155, 2, 40, 1, 4), (201, 2, 79, 3, 0), (175, 2, 46, 1, 8), (205, 2, 80, 1, 0), (63, 2, 81, 2, 0), (104, 2, 82, 1, 0), (87, 2, 83, 1, 8), (93, 2, 84, 1, 7), (66, 2, 85, 2, 0), (100, 2, 86, 1, 7), (107, 2, 87, 1, 7), (111, 2, 88, 1, 0), (136, 2, 89, 0, 7), (115, 2, 90, 0, 7), (119, 2, 91, 1, 0), (122, 2, 92, 2, 7), (126, 2, 93, 1, 7), (130, 2, 94, 1, 0), (147, 2, 95, 1, 7), (133, 2, 96, 1, 0)]
def aj_lp5 : List (List Nat) := [[410], [411], [412], [413], [414], [415], [416], [417], [418], [14], [17], [26], [409, 191, 192], [914, 915, 916, 171], [918, 920, 17, 173], [922, 924, 18, 173], [926, 928, 19, 173], [930, 931, 932, 171], [934, 743, 744, 170], [935, 936, 937, 169], [939, 940, 941, 169], [943, 945, 20, 173], [947, 767, 768, 170], [948, 771, 772, 171], [949, 759, 760, 171], [950, 952, 21, 173], [954, 955, 956, 169], [958, 960, 22, 173], [962, 964, 23, 173], [966, 968, 24, 173], [970, 972, 25, 173], [974, 976, 26, 173], [978, 979, 980, 171], [982, 984, 27, 173], [986, 988, 28, 173], [990, 992, 29, 173], [994, 996, 30, 173], [998, 1000, 31, 173], [1002, 1004, 32, 173], [1006, 755, 756, 171], [1007, 1009, 33, 173], [1011, 779, 780, 170], [1012, 1014, 34, 173], [1016, 1018, 35, 173], [1020, 1022, 36, 173], [1024, 1025, 1026, 170], [1028, 1029, 1030, 169], [1032, 1034, 37, 173], [1036, 1037, 1038, 169], [1040, 1041, 1042, 169], [1044, 1046, 38, 173], [1048, 1049, 1050, 169], [1052, 1053, 1054, 169], [1056, 1058, 39, 173], [1060, 1061, 1062, 169], [1065, 1066, 1067, 169], [1071, 1073, 40, 173], [1075, 1076, 1077, 169], [1079, 1081, 41, 173]]
def aj_lk6 : List aj_L := [(33, 0, 9, 0, 1), (37, 0, 9, 1, 1), (10, 0, 9, 2, 1), (18, 0, 9, 3, 1), (65, 0, 9, 4, 0), (23, 0, 9, 5, 0), (29, 0, 9, 6, 1), (41, 0, 9, 7, 0), (163, 0, 9, 8, 0), (166, 0, 9, 9, 0), (133, 0, 9, 10, 0), (136, 0, 9, 11, 0), (156, 0, 9, 12, 0), (79, 0, 9, 13, 0), (82, 0, 9, 14, 0), (127, 1, 7, 13, 0), (103, 1, 7, 14, 0), (45, 1, 4, 4, 0), (68, 1, 4, 5, 0), (201, 1, 1, 1, 0), (211, 1, 1, 2, 0), (214, 1, 1, 3, 0), (244, 1, 6, 3, 0), (124, 1, 6, 4, 0), (1, 5, 0, 0, 0), (62, 2, 3, 0, 7), (51, 2, 57, 1, 4), (73, 2, 98, 2, 9), (55, 2, 40, 1, 4), (85, 2, 63, 1, 7), (185, 2, 99, 1, 9), (117, 2, 100, 1, 9), (150, 2, 101, 1, 6), (188, 2, 106, 3, 9), (221, 2, 107, 1, 9), (106, 2, 72, 1, 4), (109, 2, 43, 1, 8), (114, 2, 44, 2, 4), (231, 2, 102, 2, 6), (227, 2, 108, 2, 6), (130, 2, 109, 2, 6), (147, 2, 110, 2, 6), (192, 2, 111, 2, 9), (236, 2, 112, 4, 6), (240, 2, 113, 6, 6), (195, 2, 115, 3, 9), (247, 2, 116, 1, 6), (250, 2, 118, 5, 9), (257, 2, 103, 2, 6), (260, 2, 104, 2, 6), (139, 2, 105, 4, 6), (254, 2, 119, 2, 6), (224, 2, 120, 0, 9), (198, 2, 121, 1, 9), (169, 2, 122, 3, 9), (173, 2, 123, 5, 9), (177, 2, 124, 2, 7), (181, 2, 114, 4, 6), (204, 2, 125, 1, 1), (208, 2, 126, 1, 1), (217, 2, 127, 3, 1), (58, 2, 140, 2, 9), (153, 2, 141, 2, 9), (159, 2, 142, 3, 9), (76, 2, 143, 2, 9), (89, 2, 144, 1, 9), (93, 2, 145, 1, 9), (96, 2, 146, 1, 9), (143, 2, 147, 1, 9), (99, 2, 148, 1, 7), (120, 2, 149, 2, 9), (9, 4, 12, 0, 0), (22, 4, 13, 0, 0), (7, 12, 1, 0, 0), (16, 12, 6, 0, 0), (235, 10, 0, 0, 181896)]
def aj_lp6 : List (List Nat) := [[506], [507], [508], [509], [510], [511], [512], [513], [514], [515], [516], [517], [518], [519], [520], [5], [7], [15], [20], [22], [23], [24], [29], [31], [443, 191, 192], [1087, 206, 207, 169], [1088, 915, 916, 171], [1089, 1091, 42, 174], [1093, 755, 756, 171], [1094, 940, 941, 169], [1095, 1097, 43, 174], [1099, 1101, 44, 174], [1103, 1104, 1105, 176], [1126, 1128, 45, 174], [1130, 1132, 46, 174], [1134, 979, 980, 171], [1135, 767, 768, 170], [1136, 771, 772, 171], [1137, 1108, 1109, 176], [1138, 1139, 1140, 176], [1142, 1143, 1144, 176], [1146, 1147, 1148, 176], [1150, 1152, 47, 174], [1155, 1156, 1157, 176], [1159, 1160, 1161, 176], [1168, 1170, 48, 174], [1172, 1173, 1174, 176], [1179, 1181, 49, 174], [1183, 1112, 1113, 176], [1184, 1116, 1117, 176], [1185, 1120, 1121, 176], [1186, 1187, 1188, 176], [1190, 1192, 50, 174], [1194, 1196, 51, 174], [1198, 1200, 52, 174], [1202, 1204, 53, 174], [1206, 1207, 1208, 169], [1210, 1165, 1166, 176], [1211, 1212, 1213, 175], [1215, 1216, 1217, 175], [1222, 1223, 1224, 175], [1283, 1285, 62, 174], [1287, 1289, 63, 174], [1291, 1293, 64, 174], [1295, 1297, 65, 174], [1299, 1301, 66, 174], [1303, 1305, 67, 174], [1307, 1309, 68, 174], [1311, 1312, 1313, 174], [1315, 1316, 1317, 169], [1320, 1322, 69, 174], [40, 447, 175], [41, 478, 176], [444, 445, 175], [475, 476, 176], [1154]]
def aj_lk7 : List aj_L := [(11, 0, 1, 0, 1), (29, 0, 1, 1, 0), (109, 0, 1, 2, 0), (99, 0, 1, 3, 0), (19, 0, 1, 4, 1), (22, 0, 1, 5, 1), (25, 0, 1, 6, 1), (60, 1, 7, 13, 0), (48, 1, 6, 3, 0), (33, 1, 6, 4, 0), (3, 5, 0, 0, 0), (36, 2, 104, 2, 6), (40, 2, 103, 2, 6), (44, 2, 105, 4, 6), (51, 7, 0, 0, 0), (56, 2, 116, 1, 6), (63, 2, 128, 4, 1), (71, 2, 129, 3, 6), (75, 2, 131, 4, 1), (95, 2, 132, 5, 1), (79, 2, 114, 4, 6), (83, 2, 133, 5, 1), (102, 2, 134, 1, 1), (106, 2, 135, 2, 1), (114, 8, 0, 0, 0), (87, 2, 136, 1, 1), (117, 2, 137, 2, 1), (91, 2, 109, 2, 6), (67, 6, 138, 2, 0), (121, 2, 130, 6, 6), (125, 2, 139, 3, 6)]
def aj_lp7 : List (List Nat) := [[450], [451], [453], [455], [457], [458], [459], [3], [25], [30], [449, 191, 192], [1219, 1116, 1117, 176], [1220, 1112, 1113, 176], [1221, 1120, 1121, 176], [1226, 1227, 183, 1228], [1229, 1173, 1174, 176], [1230, 1232, 54, 175], [1234, 1235, 1236, 176], [1242, 1244, 55, 175], [1246, 1248, 56, 175], [1250, 1165, 1166, 176], [1251, 1253, 57, 175], [1255, 1257, 58, 175], [1259, 1261, 59, 175], [1263, 1264, 183, 1265], [1266, 1268, 60, 175], [1270, 1272, 61, 175], [1274, 1143, 1144, 176], [1275, 1276, 175], [1278, 1239, 1240, 176], [1279, 1280, 1281, 176]]
def aj_lk8 : List aj_L := [(11, 0, 6, 0, 1), (15, 0, 6, 1, 1), (19, 0, 6, 2, 1), (25, 0, 6, 3, 0), (29, 0, 6, 4, 0), (22, 1, 7, 3, 2), (3, 5, 0, 0, 0), (38, 2, 102, 2, 6), (48, 2, 103, 2, 6), (52, 2, 104, 2, 6), (56, 2, 105, 4, 6), (42, 13, 0, 0, 0), (64, 2, 108, 2, 6), (60, 2, 114, 4, 6), (32, 6, 117, 2, 0), (67, 2, 130, 6, 6)]
def aj_lp8 : List (List Nat) := [[481], [482], [483], [485], [492], [0], [480, 191, 192], [1107, 1108, 1109, 176], [1111, 1112, 1113, 176], [1115, 1116, 1117, 176], [1119, 1120, 1121, 176], [1123, 1125, 1124, 181], [1163, 1139, 1140, 176], [1164, 1165, 1166, 176], [1176, 1177, 182], [1238, 1239, 1240, 176]]
def aj_lk9 : List aj_L := [(9, 0, 2, 0, 0), (66, 0, 2, 1, 0), (69, 0, 2, 2, 0), (35, 0, 2, 3, 0), (38, 0, 2, 4, 0), (15, 0, 2, 5, 0), (19, 0, 2, 6, 0), (24, 0, 2, 7, 1), (53, 0, 2, 8, 0), (29, 0, 2, 9, 1), (32, 0, 2, 10, 1), (59, 1, 7, 14, 0), (3, 5, 0, 0, 0), (45, 2, 63, 1, 7), (49, 2, 175, 2, 2), (72, 2, 158, 1, 7), (75, 2, 129, 3, 6), (79, 7, 0, 0, 0), (85, 8, 0, 0, 0), (88, 2, 176, 1, 2), (96, 6, 177, 2, 0), (92, 6, 178, 3, 0), (56, 2, 179, 2, 2), (102, 2, 180, 6, 2), (41, 2, 181, 1, 2), (106, 6, 182, 1, 0), (109, 6, 183, 1, 0), (112, 2, 130, 6, 6), (116, 6, 184, 1, 0), (62, 2, 185, 1, 2), (91, 10, 0, 0, 32768)]
def aj_lp9 : List (List Nat) := [[558], [559], [561], [563], [565], [567], [568], [569], [570], [571], [572], [9], [557, 191, 192], [1431, 940, 941, 169], [1432, 1434, 75, 177], [1436, 1357, 1358, 169], [1437, 1235, 1236, 176], [1438, 1227, 183, 1228], [1439, 1264, 183, 1265], [1440, 1442, 76, 177], [1444, 1445, 182], [1457, 1458, 177], [1460, 1462, 77, 177], [1464, 1466, 78, 177], [1468, 1469, 1470, 177], [1472, 1473, 177], [1475, 1476, 177], [1478, 1239, 1240, 176], [1479, 1480, 177], [1482, 1484, 79, 177], [1456]]
def aj_lk10 : List aj_L := [(17, 0, 5, 0, 0), (25, 0, 5, 1, 0), (11, 0, 5, 2, 1), (29, 0, 5, 3, 0), (35, 1, 7, 13, 0), (50, 1, 7, 15, 0), (32, 1, 7, 17, 0), (3, 5, 0, 0, 0), (21, 2, 165, 1, 5), (38, 2, 166, 1, 7), (42, 2, 167, 1, 7), (46, 2, 168, 1, 5), (53, 6, 169, 6, 0), (61, 6, 170, 1, 0), (57, 2, 171, 2, 5)]
def aj_lp10 : List (List Nat) := [[602], [603], [604], [605], [4], [10], [13], [601, 191, 192], [1385, 1387, 72, 178], [1389, 1390, 1391, 169], [1393, 1394, 1395, 169], [1397, 1399, 73, 178], [1401, 1402, 178], [1404, 1405, 184], [1410, 1412, 74, 178]]
def aj_lk11 : List aj_L := [(23, 9, 1, 0, 0), (27, 9, 2, 0, 0), (30, 9, 3, 0, 0), (33, 9, 4, 0, 0), (36, 9, 5, 0, 0), (39, 9, 6, 0, 0), (42, 9, 7, 0, 0), (45, 9, 8, 0, 0), (48, 9, 9, 0, 0), (51, 9, 10, 0, 0), (54, 9, 11, 0, 0), (57, 9, 12, 0, 0), (60, 9, 13, 0, 0), (63, 9, 14, 0, 0), (66, 9, 15, 0, 0), (69, 9, 16, 0, 0), (72, 9, 17, 0, 0), (75, 9, 18, 0, 0), (78, 9, 19, 0, 0), (81, 9, 20, 0, 0), (84, 9, 21, 0, 0), (87, 9, 22, 0, 0), (102, 9, 23, 0, 0), (105, 9, 24, 0, 0), (108, 9, 25, 0, 0), (111, 9, 26, 0, 0), (93, 9, 27, 0, 0), (96, 9, 28, 0, 0), (99, 9, 29, 0, 0), (114, 9, 30, 0, 0), (117, 9, 31, 0, 0), (120, 9, 32, 0, 0), (123, 9, 33, 0, 0), (126, 9, 34, 0, 0), (129, 9, 35, 0, 0), (132, 9, 36, 0, 0), (159, 9, 37, 0, 0), (162, 9, 38, 0, 0), (165, 9, 39, 0, 0), (168, 9, 40, 0, 0), (138, 9, 41, 0, 0), (141, 9, 42, 0, 0), (144, 9, 43, 0, 0), (147, 9, 44, 0, 0), (150, 9, 45, 0, 0), (153, 9, 46, 0, 0), (171, 9, 47, 0, 0), (174, 9, 48, 0, 0), (177, 9, 49, 0, 0), (180, 9, 50, 0, 0), (9, 6, 48, 1, 0), (13, 6, 49, 2, 0), (17, 6, 50, 2, 0), (90, 6, 51, 1, 0), (20, 6, 52, 2, 0), (135, 6, 53, 1, 0), (156, 6, 54, 1, 0)]
def aj_lp11 : List (List Nat) := [[788], [790], [792], [794], [796], [798], [803], [805], [807], [809], [811], [813], [815], [817], [819], [824], [826], [828], [830], [832], [834], [836], [841], [843], [845], [847], [849], [851], [853], [858], [860], [862], [864], [866], [868], [870], [875], [877], [879], [881], [883], [885], [887], [889], [891], [893], [898], [900], [902], [904], [785, 786, 180], [800, 801, 180], [821, 822, 180], [838, 839, 180], [855, 856, 180], [872, 873, 180], [895, 896, 180]]
def aj_lk12 : List aj_L := [(304, 7, 0, 0, 0), (150, 13, 0, 0, 0)]
def aj_lp12 : List (List Nat) := [[1454, 1227, 183, 1228], [1455, 1125, 1124, 181]]
def aj_lk13 : List aj_L := [(265, 10, 0, 0, 1431655765), (266, 10, 0, 0, 858993459), (267, 10, 0, 0, 252645135)]
def aj_lp13 : List (List Nat) := [[1407], [1408], [1409]]
def aj_lk14 : List aj_L := [(302, 0, 11, 0, 0), (7, 0, 11, 1, 1), (13, 0, 11, 2, 1), (17, 0, 11, 3, 1), (20, 0, 11, 4, 1), (23, 0, 11, 5, 1), (26, 0, 11, 6, 1), (29, 0, 11, 7, 1), (32, 0, 11, 8, 1), (35, 0, 11, 9, 1), (39, 0, 11, 10, 1), (42, 0, 11, 11, 1), (45, 0, 11, 12, 1), (308, 0, 11, 13, 0), (48, 0, 11, 14, 1), (51, 0, 11, 15, 1), (54, 0, 11, 16, 1), (57, 0, 11, 17, 1), (60, 0, 11, 18, 1), (64, 0, 11, 19, 1), (68, 0, 11, 20, 1), (71, 0, 11, 21, 1), (74, 0, 11, 22, 1), (123, 0, 11, 23, 0), (203, 0, 11, 24, 0), (77, 0, 11, 25, 0), (163, 0, 11, 26, 0), (157, 0, 11, 27, 0), (154, 0, 11, 28, 0), (160, 0, 11, 29, 0), (181, 0, 11, 30, 0), (184, 0, 11, 31, 0), (210, 0, 11, 32, 0), (220, 0, 11, 33, 0), (223, 0, 11, 34, 0), (229, 0, 11, 35, 0), (226, 0, 11, 36, 0), (244, 0, 11, 37, 0), (232, 0, 11, 38, 0), (238, 0, 11, 39, 0), (259, 0, 11, 40, 0), (188, 0, 11, 41, 0), (81, 0, 11, 42, 1), (270, 0, 11, 43, 0), (273, 0, 11, 44, 0), (197, 0, 11, 45, 0), (191, 0, 11, 46, 0), (194, 0, 11, 47, 0), (84, 0, 11, 48, 1), (87, 0, 11, 49, 1), (385, 0, 11, 50, 0), (388, 0, 11, 51, 0), (439, 0, 11, 52, 0), (445, 0, 11, 53, 0), (448, 0, 11, 54, 0), (90, 0, 11, 55, 1), (458, 0, 11, 56, 0), (93, 0, 11, 57, 1), (469, 0, 11, 58, 0), (96, 0, 11, 59, 1), (99, 0, 11, 60, 1), (497, 0, 11, 61, 0), (102, 0, 11, 62, 1), (105, 0, 11, 63, 1), (528, 0, 11, 64, 0), (516, 0, 11, 65, 0), (108, 0, 11, 66, 1), (522, 0, 11, 67, 0), (311, 0, 11, 68, 0), (113, 0, 11, 69, 0), (117, 0, 11, 70, 0), (120, 0, 11, 71, 1), (1, 5, 0, 0, 0), (126, 2, 201, 1, 11), (305, 2, 204, 0, 11), (314, 2, 205, 0, 11), (200, 2, 206, 0, 11), (130, 2, 207, 1, 11), (166, 2, 208, 1, 11), (170, 2, 209, 1, 11), (173, 2, 210, 2, 11), (177, 6, 211, 1, 0), (317, 2, 212, 1, 11), (320, 2, 213, 0, 11), (216, 2, 214, 0, 11), (206, 2, 215, 2, 11), (241, 2, 216, 0, 11), (247, 2, 217, 2, 11), (251, 2, 218, 2, 11), (335, 2, 219, 1, 11), (213, 2, 220, 1, 11), (235, 2, 221, 0, 11), (338, 2, 222, 1, 11), (341, 2, 223, 1, 11), (344, 2, 224, 0, 11), (347, 2, 225, 2, 11), (351, 2, 226, 3, 11), (262, 6, 227, 3, 0), (266, 6, 228, 4, 0), (323, 2, 229, 0, 11), (358, 2, 230, 1, 11), (355, 2, 231, 2, 11), (360, 2, 232, 1, 11), (363, 2, 233, 2, 11), (326, 2, 234, 0, 11), (288, 2, 235, 0, 11), (366, 6, 236, 3, 0), (369, 2, 237, 0, 11), (279, 2, 238, 0, 11), (291, 2, 239, 0, 11), (294, 2, 240, 4, 11), (255, 2, 241, 3, 11), (298, 6, 242, 3, 0), (282, 2, 243, 1, 11), (285, 2, 244, 0, 11), (276, 2, 245, 1, 11), (329, 2, 246, 0, 11), (372, 2, 247, 2, 11), (332, 2, 248, 0, 11), (375, 2, 249, 0, 11), (403, 2, 250, 1, 11), (378, 2, 251, 2, 11), (381, 2, 252, 4, 11), (406, 2, 253, 1, 11), (418, 2, 254, 1, 11), (451, 2, 255, 1, 11), (442, 2, 256, 1, 11), (454, 2, 257, 5, 11), (433, 2, 258, 4, 11), (430, 2, 259, 1, 11), (421, 2, 260, 1, 11), (461, 2, 261, 2, 11), (424, 2, 262, 1, 11), (427, 2, 263, 1, 11), (415, 2, 264, 0, 11), (465, 2, 265, 4, 11), (475, 2, 266, 2, 11), (472, 2, 267, 5, 11), (478, 2, 268, 3, 11), (488, 2, 269, 4, 11), (481, 2, 270, 5, 11), (485, 2, 271, 2, 11), (491, 2, 272, 2, 11), (409, 2, 273, 1, 11), (412, 2, 274, 0, 11), (391, 2, 275, 2, 11), (436, 2, 276, 2, 11), (394, 2, 277, 2, 11), (397, 2, 278, 2, 11), (400, 2, 279, 1, 11), (494, 2, 282, 0, 11), (500, 2, 286, 1, 11), (503, 2, 287, 1, 11), (506, 2, 289, 1, 11), (510, 2, 291, 1, 11), (513, 2, 292, 1, 11), (531, 2, 293, 4, 11), (519, 2, 294, 1, 11), (537, 2, 295, 3, 11), (534, 2, 296, 3, 11), (525, 2, 298, 2, 11), (541, 2, 307, 3, 11), (544, 2, 309, 0, 11), (67, 10, 0, 0, 48000), (509, 10, 0, 0, -100000), (111, 11, 0, 0, -1), (134, 11, 0, 0, 33053979968501614), (136, 11, 0, 0, 499850046565), (138, 11, 0, 0, 7499639), (140, 11, 0, 0, 26982), (142, 11, 0, 0, 107118487239027), (144, 11, 0, 0, 107127011501426), (146, 11, 0, 0, 427071729268), (148, 11, 0, 0, 465557353332), (150, 11, 0, 0, 1836020596), (152, 11, 0, 0, 7566701)]
def aj_lp14 : List (List Nat) := [[1556], [1557], [1558], [1559], [1560], [1561], [1562], [1563], [1564], [1565], [1566], [1567], [1568], [1569], [1570], [1571], [1572], [1573], [1574], [1575], [1576], [1577], [1578], [1579], [1580], [1581], [1582], [1583], [1584], [1585], [1586], [1587], [1588], [1589], [1590], [1591], [1592], [1593], [1594], [1595], [1596], [1597], [1598], [1599], [1600], [1601], [1602], [1603], [1604], [1605], [1606], [1607], [1608], [1609], [1610], [1611], [1612], [1613], [1614], [1615], [1616], [1617], [1618], [1619], [1620], [1621], [1622], [1623], [1624], [1625], [1626], [1627], [1553, 191, 192], [1778, 1780, 82, 179], [1790, 1792, 83, 179], [1794, 1796, 84, 179], [1798, 1800, 85, 179], [1802, 1804, 86, 179], [1806, 1808, 87, 179], [1810, 1812, 88, 179], [1814, 1816, 89, 179], [1818, 1819, 179], [1831, 1833, 90, 179], [1835, 1837, 91, 179], [1839, 1841, 92, 179], [1843, 1845, 93, 179], [1847, 1849, 94, 179], [1851, 1853, 95, 179], [1855, 1857, 96, 179], [1859, 1861, 97, 179], [1863, 1865, 98, 179], [1867, 1869, 99, 179], [1871, 1873, 100, 179], [1875, 1877, 101, 179], [1879, 1881, 102, 179], [1883, 1885, 103, 179], [1887, 1889, 104, 179], [1891, 1892, 179], [1894, 1895, 179], [1897, 1899, 105, 179], [1901, 1903, 106, 179], [1905, 1907, 107, 179], [1909, 1911, 108, 179], [1913, 1915, 109, 179], [1917, 1919, 110, 179], [1921, 1923, 111, 179], [1925, 1926, 179], [1928, 1930, 112, 179], [1932, 1934, 113, 179], [1936, 1938, 114, 179], [1940, 1942, 115, 179], [1944, 1946, 116, 179], [1948, 1949, 179], [1951, 1953, 117, 179], [1955, 1957, 118, 179], [1959, 1961, 119, 179], [1963, 1965, 120, 179], [1967, 1969, 121, 179], [1971, 1973, 122, 179], [1975, 1977, 123, 179], [1979, 1981, 124, 179], [1983, 1985, 125, 179], [1987, 1989, 126, 179], [1991, 1993, 127, 179], [1995, 1997, 128, 179], [1999, 2001, 129, 179], [2003, 2005, 130, 179], [2007, 2009, 131, 179], [2011, 2013, 132, 179], [2015, 2017, 133, 179], [2019, 2021, 134, 179], [2023, 2025, 135, 179], [2027, 2029, 136, 179], [2031, 2033, 137, 179], [2035, 2037, 138, 179], [2039, 2041, 139, 179], [2043, 2045, 140, 179], [2047, 2049, 141, 179], [2051, 2053, 142, 179], [2055, 2057, 143, 179], [2059, 2061, 144, 179], [2063, 2065, 145, 179], [2067, 2069, 146, 179], [2071, 2073, 147, 179], [2075, 2077, 148, 179], [2079, 2081, 149, 179], [2083, 2085, 150, 179], [2087, 2089, 151, 179], [2091, 2093, 152, 179], [2095, 2097, 153, 179], [2107, 2109, 154, 179], [2123, 2125, 155, 179], [2127, 2129, 156, 179], [2135, 2137, 157, 179], [2144, 2146, 158, 179], [2148, 2150, 159, 179], [2152, 2154, 160, 179], [2156, 2158, 161, 179], [2160, 2162, 162, 179], [2164, 2166, 163, 179], [2172, 2174, 164, 179], [2208, 2210, 165, 179], [2216, 2218, 166, 179], [1554], [2139], [1555], [1821], [1822], [1823], [1824], [1825], [1826], [1827], [1828], [1829], [1830]]
def aj_lk15 : List aj_L := [(9, 3, 0, 0, 0), (13, 2, 16, 5, 10), (18, 2, 18, 1, 10), (23, 2, 19, 0, 10), (28, 2, 153, 0, 10), (32, 2, 154, 0, 10), (36, 2, 159, 0, 10), (41, 2, 161, 0, 10), (45, 2, 163, 1, 10), (49, 2, 172, 2, 10), (54, 2, 173, 2, 10), (58, 2, 186, 4, 10), (63, 2, 187, 2, 10), (67, 2, 188, 3, 10), (72, 2, 189, 2, 10), (76, 2, 190, 4, 10), (80, 2, 191, 3, 10), (85, 2, 194, 3, 10), (89, 2, 195, 2, 10), (93, 2, 196, 2, 10), (97, 2, 198, 1, 10), (12, 3, 199, 0, 0), (17, 2, 200, 5, 11), (22, 2, 202, 1, 11), (27, 2, 203, 0, 11), (31, 2, 280, 0, 11), (35, 2, 281, 0, 11), (40, 2, 283, 0, 11), (44, 2, 284, 0, 11), (48, 2, 285, 1, 11), (53, 2, 288, 2, 11), (57, 2, 290, 2, 11), (62, 2, 297, 4, 11), (66, 2, 299, 2, 11), (71, 2, 300, 3, 11), (75, 2, 301, 2, 11), (79, 2, 302, 4, 11), (84, 2, 303, 3, 11), (88, 2, 304, 3, 11), (92, 2, 305, 2, 11), (96, 2, 306, 2, 11), (100, 2, 308, 1, 11), (7, 12, 10, 0, 0), (10, 12, 11, 0, 0)]
def aj_lp15 : List (List Nat) := [[187, 188, 168], [658, 659, 660, 168], [666, 667, 668, 168], [670, 671, 672, 168], [1336, 1337, 1338, 168], [1340, 1341, 1342, 168], [1361, 1362, 1363, 168], [1369, 1370, 1371, 168], [1377, 1378, 1379, 168], [1414, 1415, 1416, 168], [1421, 1422, 1423, 168], [1486, 1487, 1488, 168], [1492, 1493, 1494, 168], [1497, 1498, 1499, 168], [1501, 1502, 1503, 168], [1506, 1507, 1508, 168], [1511, 1512, 1513, 168], [1525, 1526, 1527, 168], [1530, 1531, 1532, 168], [1535, 1536, 1537, 168], [1544, 1545, 1546, 168], [1550, 1551, 179], [1774, 1775, 1776, 179], [1782, 1783, 1784, 179], [1786, 1787, 1788, 179], [2099, 2100, 2101, 179], [2103, 2104, 2105, 179], [2111, 2112, 2113, 179], [2115, 2116, 2117, 179], [2119, 2120, 2121, 179], [2131, 2132, 2133, 179], [2140, 2141, 2142, 179], [2168, 2169, 2170, 179], [2176, 2177, 2178, 179], [2180, 2181, 2182, 179], [2184, 2185, 2186, 179], [2188, 2189, 2190, 179], [2192, 2193, 2194, 179], [2196, 2197, 2198, 179], [2200, 2201, 2202, 179], [2204, 2205, 2206, 179], [2212, 2213, 2214, 179], [185, 186, 168], [1548, 1549, 179]]
def aj_owns : List String := ["DimShelf", "DimShelf$Shelf", "DimShelf$Tokens", "DimShelf$Plan", "DimShelf$Parser", "DimShelf$Checker", "DimShelf$Worker", "DimShelf$Grouper", "DimShelf$Rows", "DimShelf$Listing", "DimShelf$Reason", "DimShelf$Grammar", "java/util/Arrays", "java/lang/Integer", "DimShelfModel", "DimShelfLaw"]
/-- the bytes of the code that stands at the place i of the tables -/
def aj_bc (i : Nat) : ByteArray := match lw_tbl[i]? with
  | some (.code _ b _ _) => b
  | _ => ⟨#[]⟩
def aj_rt0 : List (MethodName × Nat × Nat × Option FieldType × Nat × List aj_L × String) := [(⟨"DimShelf", "<init>", "()V"⟩, 189, 1, none, 0, aj_lk0, "DimShelf"),
  (⟨"DimShelf$Shelf", "<init>", "()V"⟩, 197, 1, none, 0, aj_lk1, "DimShelf$Shelf"),
  (⟨"DimShelf$Shelf", "empty", "()V"⟩, 204, 1, none, 0, aj_lk1, "DimShelf$Shelf"),
  (⟨"DimShelf$Shelf", "settle", "()V"⟩, 208, 5, none, 0, aj_lk1, "DimShelf$Shelf"),
  (⟨"DimShelf$Shelf", "sizeOf", "(I)I"⟩, 212, 2, (some (FieldType.int)), 1, aj_lk1, "DimShelf$Shelf"),
  (⟨"DimShelf$Shelf", "setCell", "(III)V"⟩, 216, 5, none, 3, aj_lk1, "DimShelf$Shelf"),
  (⟨"DimShelf$Shelf", "hold", "()V"⟩, 220, 2, none, 0, aj_lk1, "DimShelf$Shelf"),
  (⟨"DimShelf$Tokens", "<init>", "()V"⟩, 298, 1, none, 0, aj_lk2, "DimShelf$Tokens"),
  (⟨"DimShelf$Plan", "<init>", "()V"⟩, 317, 1, none, 0, aj_lk3, "DimShelf$Plan"),
  (⟨"DimShelf$Parser", "<init>", "(LDimShelf$Tokens;LDimShelf$Plan;)V"⟩, 353, 3, none, 2, aj_lk4, "DimShelf$Parser"),
  (⟨"DimShelf$Checker", "<init>", "(LDimShelf$Tokens;LDimShelf$Plan;)V"⟩, 408, 3, none, 2, aj_lk5, "DimShelf$Checker"),
  (⟨"DimShelf$Worker", "<init>", "(LDimShelf$Tokens;LDimShelf$Plan;)V"⟩, 442, 3, none, 2, aj_lk6, "DimShelf$Worker"),
  (⟨"DimShelf$Grouper", "<init>", "()V"⟩, 448, 1, none, 0, aj_lk7, "DimShelf$Grouper"),
  (⟨"DimShelf$Rows", "<init>", "()V"⟩, 479, 1, none, 0, aj_lk8, "DimShelf$Rows"),
  (⟨"DimShelf$Listing", "<init>", "()V"⟩, 556, 1, none, 0, aj_lk9, "DimShelf$Listing"),
  (⟨"DimShelf$Reason", "<init>", "()V"⟩, 600, 1, none, 0, aj_lk10, "DimShelf$Reason"),
  (⟨"DimShelf", "feed", "(IIIII)I"⟩, 661, 6, (some (FieldType.int)), 5, aj_lk0, "DimShelf"),
  (⟨"DimShelf", "put", "(I)V"⟩, 665, 3, none, 1, aj_lk0, "DimShelf"),
  (⟨"DimShelf", "back", "(I)I"⟩, 669, 2, (some (FieldType.int)), 1, aj_lk0, "DimShelf"),
  (⟨"DimShelf", "read", "()I"⟩, 673, 2, (some (FieldType.int)), 0, aj_lk0, "DimShelf"),
  (⟨"DimShelf", "understand", "(ILDimShelf$Shelf;)V"⟩, 678, 3, none, 2, aj_lk0, "DimShelf"),
  (⟨"DimShelf$Tokens", "scan", "([CI)V"⟩, 682, 7, none, 2, aj_lk2, "DimShelf$Tokens"),
  (⟨"DimShelf$Tokens", "isBlank", "(C)Z"⟩, 685, 1, (some (FieldType.boolean)), 1, aj_lk2, "DimShelf$Tokens"),
  (⟨"DimShelf$Tokens", "scanOne", "([CII)I"⟩, 689, 6, (some (FieldType.int)), 3, aj_lk2, "DimShelf$Tokens"),
  (⟨"DimShelf$Tokens", "isLetter", "(C)Z"⟩, 692, 1, (some (FieldType.boolean)), 1, aj_lk2, "DimShelf$Tokens"),
  (⟨"DimShelf$Tokens", "scanName", "([CII)I"⟩, 696, 7, (some (FieldType.int)), 3, aj_lk2, "DimShelf$Tokens"),
  (⟨"DimShelf$Tokens", "isDigit", "(C)Z"⟩, 699, 1, (some (FieldType.boolean)), 1, aj_lk2, "DimShelf$Tokens"),
  (⟨"DimShelf$Tokens", "add", "(IIJ)V"⟩, 703, 5, none, 3, aj_lk2, "DimShelf$Tokens"),
  (⟨"DimShelf$Tokens", "kindOf", "(J)I"⟩, 706, 3, (some (FieldType.int)), 1, aj_lk2, "DimShelf$Tokens"),
  (⟨"DimShelf$Tokens", "scanNumber", "([CII)I"⟩, 712, 7, (some (FieldType.int)), 3, aj_lk2, "DimShelf$Tokens"),
  (⟨"DimShelf$Tokens", "isSign", "(I)Z"⟩, 716, 1, (some (FieldType.boolean)), 1, aj_lk2, "DimShelf$Tokens"),
  (⟨"DimShelf$Plan", "empty", "()V"⟩, 720, 1, none, 0, aj_lk3, "DimShelf$Plan"),
  (⟨"DimShelf$Parser", "parse", "(I)V"⟩, 724, 5, none, 1, aj_lk4, "DimShelf$Parser"),
  (⟨"DimShelf$Parser", "push", "(I)V"⟩, 728, 2, none, 1, aj_lk4, "DimShelf$Parser"),
  (⟨"DimShelf$Parser", "note", "(II)V"⟩, 733, 3, none, 2, aj_lk4, "DimShelf$Parser"),
  (⟨"DimShelf$Parser", "hasRoom", "(I)Z"⟩, 737, 2, (some (FieldType.boolean)), 1, aj_lk4, "DimShelf$Parser"),
  (⟨"DimShelf$Parser", "hasRoomForTable", "()Z"⟩, 741, 1, (some (FieldType.boolean)), 0, aj_lk4, "DimShelf$Parser"),
  (⟨"DimShelf$Tokens", "wordAt", "(I)J"⟩, 745, 2, (some (FieldType.long)), 1, aj_lk2, "DimShelf$Tokens"),
  (⟨"DimShelf$Parser", "hasRoomForRow", "()Z"⟩, 749, 4, (some (FieldType.boolean)), 0, aj_lk4, "DimShelf$Parser"),
  (⟨"DimShelf$Parser", "keep", "(II)V"⟩, 753, 3, none, 2, aj_lk4, "DimShelf$Parser"),
  (⟨"DimShelf$Plan", "argAt", "(I)I"⟩, 757, 2, (some (FieldType.int)), 1, aj_lk3, "DimShelf$Plan"),
  (⟨"DimShelf$Plan", "setArg", "(II)V"⟩, 761, 3, none, 2, aj_lk3, "DimShelf$Plan"),
  (⟨"DimShelf$Plan", "add", "(IIII)V"⟩, 765, 5, none, 4, aj_lk3, "DimShelf$Plan"),
  (⟨"DimShelf$Tokens", "startAt", "(I)I"⟩, 769, 2, (some (FieldType.int)), 1, aj_lk2, "DimShelf$Tokens"),
  (⟨"DimShelf$Plan", "fail", "(II)V"⟩, 773, 3, none, 2, aj_lk3, "DimShelf$Plan"),
  (⟨"DimShelf$Parser", "expand", "(I)V"⟩, 777, 4, none, 1, aj_lk4, "DimShelf$Parser"),
  (⟨"DimShelf$Tokens", "kindAt", "(I)I"⟩, 781, 2, (some (FieldType.int)), 1, aj_lk2, "DimShelf$Tokens"),
  (⟨"DimShelf$Grammar", "rule", "(II)[I"⟩, 784, 2, (some (FieldType.array FieldType.int)), 2, aj_lk11, "DimShelf$Grammar"),
  (⟨"DimShelf$Grammar", "textRule", "(I)[I"⟩, 787, 1, (some (FieldType.array FieldType.int)), 1, aj_lk11, "DimShelf$Grammar"),
  (⟨"DimShelf$Grammar", "tellRule", "(II)[I"⟩, 802, 2, (some (FieldType.array FieldType.int)), 2, aj_lk11, "DimShelf$Grammar"),
  (⟨"DimShelf$Grammar", "condRule", "(II)[I"⟩, 823, 2, (some (FieldType.array FieldType.int)), 2, aj_lk11, "DimShelf$Grammar"),
  (⟨"DimShelf$Grammar", "relationRule", "(I)[I"⟩, 840, 1, (some (FieldType.array FieldType.int)), 1, aj_lk11, "DimShelf$Grammar"),
  (⟨"DimShelf$Grammar", "queryRule", "(II)[I"⟩, 857, 2, (some (FieldType.array FieldType.int)), 2, aj_lk11, "DimShelf$Grammar"),
  (⟨"DimShelf$Grammar", "stepRule", "(I)[I"⟩, 874, 1, (some (FieldType.array FieldType.int)), 1, aj_lk11, "DimShelf$Grammar"),
  (⟨"DimShelf$Grammar", "foldRule", "(I)[I"⟩, 897, 1, (some (FieldType.array FieldType.int)), 1, aj_lk11, "DimShelf$Grammar"),
  (⟨"DimShelf$Parser", "take", "(I)V"⟩, 909, 2, none, 1, aj_lk4, "DimShelf$Parser"),
  (⟨"DimShelf$Checker", "check", "(LDimShelf$Shelf;)V"⟩, 913, 4, none, 1, aj_lk5, "DimShelf$Checker"),
  (⟨"DimShelf$Plan", "noteAt", "(I)I"⟩, 917, 2, (some (FieldType.int)), 1, aj_lk3, "DimShelf$Plan"),
  (⟨"DimShelf$Checker", "checkQuery", "(II)V"⟩, 921, 3, none, 2, aj_lk5, "DimShelf$Checker"),
  (⟨"DimShelf$Checker", "load", "(I)V"⟩, 925, 5, none, 1, aj_lk5, "DimShelf$Checker")]
def aj_rt1 : List (MethodName × Nat × Nat × Option FieldType × Nat × List aj_L × String) := [(⟨"DimShelf$Checker", "wordNear", "(I)J"⟩, 929, 2, (some (FieldType.long)), 1, aj_lk5, "DimShelf$Checker"),
  (⟨"DimShelf$Plan", "nearAt", "(I)I"⟩, 933, 2, (some (FieldType.int)), 1, aj_lk3, "DimShelf$Plan"),
  (⟨"DimShelf$Shelf", "tableNamed", "(J)I"⟩, 938, 4, (some (FieldType.int)), 1, aj_lk1, "DimShelf$Shelf"),
  (⟨"DimShelf$Shelf", "rowsOf", "(I)LDimShelf$Rows;"⟩, 942, 2, (some (FieldType.object "DimShelf$Rows")), 1, aj_lk1, "DimShelf$Shelf"),
  (⟨"DimShelf$Checker", "failNear", "(II)V"⟩, 946, 3, none, 2, aj_lk5, "DimShelf$Checker"),
  (⟨"DimShelf$Checker", "setWidth", "(II)V"⟩, 953, 3, none, 2, aj_lk5, "DimShelf$Checker"),
  (⟨"DimShelf$Shelf", "columnName", "(II)J"⟩, 957, 4, (some (FieldType.long)), 2, aj_lk1, "DimShelf$Shelf"),
  (⟨"DimShelf$Checker", "addColumn", "(IJ)V"⟩, 961, 5, none, 2, aj_lk5, "DimShelf$Checker"),
  (⟨"DimShelf$Checker", "isSameWidth", "(II)Z"⟩, 965, 4, (some (FieldType.boolean)), 2, aj_lk5, "DimShelf$Checker"),
  (⟨"DimShelf$Checker", "widthAt", "(I)I"⟩, 969, 2, (some (FieldType.int)), 1, aj_lk5, "DimShelf$Checker"),
  (⟨"DimShelf$Checker", "columnAt", "(II)J"⟩, 973, 4, (some (FieldType.long)), 2, aj_lk5, "DimShelf$Checker"),
  (⟨"DimShelf$Checker", "failLead", "(II)V"⟩, 977, 3, none, 2, aj_lk5, "DimShelf$Checker"),
  (⟨"DimShelf$Plan", "leadAt", "(I)I"⟩, 981, 2, (some (FieldType.int)), 1, aj_lk3, "DimShelf$Plan"),
  (⟨"DimShelf$Checker", "join", "(I)V"⟩, 985, 8, none, 1, aj_lk5, "DimShelf$Checker"),
  (⟨"DimShelf$Checker", "columnNamed", "(IJ)I"⟩, 989, 5, (some (FieldType.int)), 2, aj_lk5, "DimShelf$Checker"),
  (⟨"DimShelf$Checker", "pick", "(I)V"⟩, 993, 5, none, 1, aj_lk5, "DimShelf$Checker"),
  (⟨"DimShelf$Checker", "isPicked", "(J)Z"⟩, 997, 4, (some (FieldType.boolean)), 1, aj_lk5, "DimShelf$Checker"),
  (⟨"DimShelf$Checker", "usePicks", "()V"⟩, 1001, 2, none, 0, aj_lk5, "DimShelf$Checker"),
  (⟨"DimShelf$Checker", "keepNamed", "(II)V"⟩, 1005, 3, none, 2, aj_lk5, "DimShelf$Checker"),
  (⟨"DimShelf$Checker", "setColumn", "(IIJ)V"⟩, 1010, 6, none, 3, aj_lk5, "DimShelf$Checker"),
  (⟨"DimShelf$Checker", "group", "(I)V"⟩, 1015, 2, none, 1, aj_lk5, "DimShelf$Checker"),
  (⟨"DimShelf$Checker", "checkTerm", "(II)V"⟩, 1019, 3, none, 2, aj_lk5, "DimShelf$Checker"),
  (⟨"DimShelf$Checker", "intNear", "(I)I"⟩, 1023, 2, (some (FieldType.int)), 1, aj_lk5, "DimShelf$Checker"),
  (⟨"DimShelf$Tokens", "intAt", "(I)I"⟩, 1027, 2, (some (FieldType.int)), 1, aj_lk2, "DimShelf$Tokens"),
  (⟨"DimShelf$Shelf", "unknownNamed", "(J)I"⟩, 1031, 4, (some (FieldType.int)), 1, aj_lk1, "DimShelf$Shelf"),
  (⟨"DimShelf$Checker", "checkTold", "(II)V"⟩, 1035, 3, none, 2, aj_lk5, "DimShelf$Checker"),
  (⟨"DimShelf$Shelf", "startUnknown", "(J)V"⟩, 1039, 3, none, 1, aj_lk1, "DimShelf$Shelf"),
  (⟨"DimShelf$Shelf", "list", "(I)Z"⟩, 1043, 5, (some (FieldType.boolean)), 1, aj_lk1, "DimShelf$Shelf"),
  (⟨"DimShelf$Checker", "checkLast", "(I)V"⟩, 1047, 5, none, 1, aj_lk5, "DimShelf$Checker"),
  (⟨"DimShelf$Shelf", "firstListed", "()I"⟩, 1051, 2, (some (FieldType.int)), 0, aj_lk1, "DimShelf$Shelf"),
  (⟨"DimShelf$Shelf", "endUnknown", "()Z"⟩, 1055, 2, (some (FieldType.boolean)), 0, aj_lk1, "DimShelf$Shelf"),
  (⟨"DimShelf$Checker", "isNewTable", "(I)Z"⟩, 1059, 2, (some (FieldType.boolean)), 1, aj_lk5, "DimShelf$Checker"),
  (⟨"DimShelf$Shelf", "addTable", "(JZ)I"⟩, 1063, 5, (some (FieldType.int)), 2, aj_lk1, "DimShelf$Shelf"),
  (⟨"DimShelf$Shelf", "addColumn", "(J)Z"⟩, 1068, 6, (some (FieldType.boolean)), 1, aj_lk1, "DimShelf$Shelf"),
  (⟨"DimShelf$Checker", "checkRow", "(I)V"⟩, 1074, 4, none, 1, aj_lk5, "DimShelf$Checker"),
  (⟨"DimShelf$Shelf", "isAnswer", "(I)Z"⟩, 1078, 2, (some (FieldType.boolean)), 1, aj_lk1, "DimShelf$Shelf"),
  (⟨"DimShelf$Checker", "endAnswer", "(I)V"⟩, 1082, 3, none, 1, aj_lk5, "DimShelf$Checker"),
  (⟨"DimShelf$Worker", "work", "(LDimShelf$Shelf;)V"⟩, 1086, 4, none, 1, aj_lk6, "DimShelf$Worker"),
  (⟨"DimShelf$Worker", "workQuery", "(II)V"⟩, 1092, 3, none, 2, aj_lk6, "DimShelf$Worker"),
  (⟨"DimShelf$Worker", "load", "(LDimShelf$Rows;)V"⟩, 1098, 2, none, 1, aj_lk6, "DimShelf$Worker"),
  (⟨"DimShelf$Worker", "rowsAt", "(I)LDimShelf$Rows;"⟩, 1102, 2, (some (FieldType.object "DimShelf$Rows")), 1, aj_lk6, "DimShelf$Worker"),
  (⟨"DimShelf$Rows", "copyFrom", "(LDimShelf$Rows;)V"⟩, 1106, 3, none, 1, aj_lk8, "DimShelf$Rows"),
  (⟨"DimShelf$Rows", "addFrom", "(LDimShelf$Rows;I)I"⟩, 1110, 5, (some (FieldType.int)), 2, aj_lk8, "DimShelf$Rows"),
  (⟨"DimShelf$Rows", "isOpen", "(II)Z"⟩, 1114, 4, (some (FieldType.boolean)), 2, aj_lk8, "DimShelf$Rows"),
  (⟨"DimShelf$Rows", "termAt", "(II)I"⟩, 1118, 4, (some (FieldType.int)), 2, aj_lk8, "DimShelf$Rows"),
  (⟨"DimShelf$Rows", "setTerm", "(IIZI)V"⟩, 1122, 6, none, 4, aj_lk8, "DimShelf$Rows"),
  (⟨"DimShelf$Worker", "plus", "(LDimShelf$Rows;LDimShelf$Rows;I)V"⟩, 1129, 7, none, 3, aj_lk6, "DimShelf$Worker"),
  (⟨"DimShelf$Worker", "full", "(I)V"⟩, 1133, 2, none, 1, aj_lk6, "DimShelf$Worker"),
  (⟨"DimShelf$Rows", "has", "(II)Z"⟩, 1141, 3, (some (FieldType.boolean)), 2, aj_lk8, "DimShelf$Rows"),
  (⟨"DimShelf$Rows", "put", "(II)V"⟩, 1145, 3, none, 2, aj_lk8, "DimShelf$Rows"),
  (⟨"DimShelf$Rows", "drop", "(II)V"⟩, 1149, 3, none, 2, aj_lk8, "DimShelf$Rows"),
  (⟨"DimShelf$Worker", "minus", "(LDimShelf$Rows;LDimShelf$Rows;)V"⟩, 1153, 6, none, 2, aj_lk6, "DimShelf$Worker"),
  (⟨"DimShelf$Rows", "neverMeets", "(ILDimShelf$Rows;II)Z"⟩, 1158, 7, (some (FieldType.boolean)), 4, aj_lk8, "DimShelf$Rows"),
  (⟨"DimShelf$Rows", "meets", "(LDimShelf$Shelf;ILDimShelf$Rows;III)Z"⟩, 1162, 9, (some (FieldType.boolean)), 6, aj_lk8, "DimShelf$Rows"),
  (⟨"DimShelf$Rows", "cellIn", "(LDimShelf$Shelf;III)I"⟩, 1167, 8, (some (FieldType.int)), 4, aj_lk8, "DimShelf$Rows"),
  (⟨"DimShelf$Worker", "join", "(LDimShelf$Rows;LDimShelf$Rows;I)V"⟩, 1171, 7, none, 3, aj_lk6, "DimShelf$Worker"),
  (⟨"DimShelf$Rows", "clear", "(I)V"⟩, 1175, 2, none, 1, aj_lk8, "DimShelf$Rows"),
  (⟨"java/util/Arrays", "fill", "([II)V"⟩, 1178, 4, none, 2, aj_lk12, "java/util/Arrays"),
  (⟨"DimShelf$Worker", "joinRow", "(LDimShelf$Rows;ILDimShelf$Rows;II)V"⟩, 1182, 9, none, 5, aj_lk6, "DimShelf$Worker"),
  (⟨"DimShelf$Rows", "newColumns", "(II)I"⟩, 1189, 5, (some (FieldType.int)), 2, aj_lk8, "DimShelf$Rows")]
def aj_rt2 : List (MethodName × Nat × Nat × Option FieldType × Nat × List aj_L × String) := [(⟨"DimShelf$Worker", "useScratch", "()V"⟩, 1193, 3, none, 0, aj_lk6, "DimShelf$Worker"),
  (⟨"DimShelf$Worker", "test", "(LDimShelf$Rows;)V"⟩, 1197, 4, none, 1, aj_lk6, "DimShelf$Worker"),
  (⟨"DimShelf$Worker", "compares", "(LDimShelf$Rows;II)Z"⟩, 1201, 6, (some (FieldType.boolean)), 3, aj_lk6, "DimShelf$Worker"),
  (⟨"DimShelf$Worker", "sideIn", "(IILDimShelf$Rows;II)I"⟩, 1205, 6, (some (FieldType.int)), 5, aj_lk6, "DimShelf$Worker"),
  (⟨"DimShelf$Shelf", "valueIn", "(II)I"⟩, 1209, 4, (some (FieldType.int)), 2, aj_lk1, "DimShelf$Shelf"),
  (⟨"DimShelf$Grouper", "pick", "(I)V"⟩, 1214, 2, none, 1, aj_lk7, "DimShelf$Grouper"),
  (⟨"DimShelf$Grouper", "project", "(LDimShelf$Rows;)V"⟩, 1218, 4, none, 1, aj_lk7, "DimShelf$Grouper"),
  (⟨"DimShelf$Grouper", "group", "(LDimShelf$Shelf;LDimShelf$Rows;LDimShelf$Rows;)Z"⟩, 1225, 5, (some (FieldType.boolean)), 3, aj_lk7, "DimShelf$Grouper"),
  (⟨"DimShelf$Grouper", "groupIn", "(LDimShelf$Shelf;LDimShelf$Rows;LDimShelf$Rows;I)Z"⟩, 1233, 9, (some (FieldType.boolean)), 4, aj_lk7, "DimShelf$Grouper"),
  (⟨"DimShelf$Rows", "lineUp", "(LDimShelf$Shelf;I[I)I"⟩, 1237, 9, (some (FieldType.int)), 3, aj_lk8, "DimShelf$Rows"),
  (⟨"DimShelf$Rows", "against", "(LDimShelf$Shelf;IILDimShelf$Rows;II)I"⟩, 1241, 10, (some (FieldType.int)), 6, aj_lk8, "DimShelf$Rows"),
  (⟨"DimShelf$Grouper", "isFirst", "(LDimShelf$Shelf;LDimShelf$Rows;II)Z"⟩, 1245, 6, (some (FieldType.boolean)), 4, aj_lk7, "DimShelf$Grouper"),
  (⟨"DimShelf$Grouper", "isAlike", "(LDimShelf$Shelf;LDimShelf$Rows;III)Z"⟩, 1249, 7, (some (FieldType.boolean)), 5, aj_lk7, "DimShelf$Grouper"),
  (⟨"DimShelf$Grouper", "tally", "(LDimShelf$Shelf;LDimShelf$Rows;III)I"⟩, 1254, 9, (some (FieldType.int)), 5, aj_lk7, "DimShelf$Grouper"),
  (⟨"DimShelf$Grouper", "start", "(I)I"⟩, 1258, 2, (some (FieldType.int)), 1, aj_lk7, "DimShelf$Grouper"),
  (⟨"DimShelf$Grouper", "more", "(II)I"⟩, 1262, 3, (some (FieldType.int)), 2, aj_lk7, "DimShelf$Grouper"),
  (⟨"DimShelf$Grouper", "find", "(LDimShelf$Rows;)I"⟩, 1269, 3, (some (FieldType.int)), 1, aj_lk7, "DimShelf$Grouper"),
  (⟨"DimShelf$Grouper", "isTuple", "(LDimShelf$Rows;I)Z"⟩, 1273, 4, (some (FieldType.boolean)), 2, aj_lk7, "DimShelf$Grouper"),
  (⟨"DimShelf$Grouper", "sort", "(LDimShelf$Shelf;LDimShelf$Rows;)V"⟩, 1277, 5, none, 2, aj_lk7, "DimShelf$Grouper"),
  (⟨"DimShelf$Rows", "change", "(III)V"⟩, 1282, 7, none, 3, aj_lk8, "DimShelf$Rows"),
  (⟨"DimShelf$Worker", "workCond", "(II)V"⟩, 1286, 4, none, 2, aj_lk6, "DimShelf$Worker"),
  (⟨"DimShelf$Worker", "setSide", "(II)V"⟩, 1290, 3, none, 2, aj_lk6, "DimShelf$Worker"),
  (⟨"DimShelf$Worker", "judged", "(III)I"⟩, 1294, 4, (some (FieldType.int)), 3, aj_lk6, "DimShelf$Worker"),
  (⟨"DimShelf$Worker", "workTold", "(II)V"⟩, 1298, 3, none, 2, aj_lk6, "DimShelf$Worker"),
  (⟨"DimShelf$Worker", "startRow", "(LDimShelf$Rows;)V"⟩, 1302, 3, none, 1, aj_lk6, "DimShelf$Worker"),
  (⟨"DimShelf$Worker", "addTerm", "(LDimShelf$Rows;)V"⟩, 1306, 2, none, 1, aj_lk6, "DimShelf$Worker"),
  (⟨"DimShelf$Worker", "limitRow", "(LDimShelf$Rows;)V"⟩, 1310, 3, none, 1, aj_lk6, "DimShelf$Worker"),
  (⟨"DimShelf$Worker", "judgedTrue", "(I)Z"⟩, 1314, 2, (some (FieldType.boolean)), 1, aj_lk6, "DimShelf$Worker"),
  (⟨"DimShelf$Shelf", "addPart", "(LDimShelf$Worker;)V"⟩, 1318, 3, none, 1, aj_lk1, "DimShelf$Shelf"),
  (⟨"DimShelf$Worker", "endAnswer", "(LDimShelf$Rows;LDimShelf$Rows;)V"⟩, 1323, 3, none, 2, aj_lk6, "DimShelf$Worker"),
  (⟨"DimShelf", "forget", "()V"⟩, 1327, 1, none, 0, aj_lk0, "DimShelf"),
  (⟨"DimShelf$Listing", "forget", "()V"⟩, 1331, 1, none, 0, aj_lk9, "DimShelf$Listing"),
  (⟨"DimShelf$Reason", "forget", "()V"⟩, 1335, 1, none, 0, aj_lk10, "DimShelf$Reason"),
  (⟨"DimShelf", "place", "()I"⟩, 1339, 1, (some (FieldType.int)), 0, aj_lk0, "DimShelf"),
  (⟨"DimShelf", "learn", "()I"⟩, 1343, 1, (some (FieldType.int)), 0, aj_lk0, "DimShelf"),
  (⟨"DimShelf", "judged", "()Z"⟩, 1347, 1, (some (FieldType.boolean)), 0, aj_lk0, "DimShelf"),
  (⟨"DimShelf$Worker", "judge", "(LDimShelf$Shelf;)V"⟩, 1351, 3, none, 1, aj_lk6, "DimShelf$Worker"),
  (⟨"DimShelf$Shelf", "heldWith", "(LDimShelf$Worker;)I"⟩, 1355, 4, (some (FieldType.int)), 1, aj_lk1, "DimShelf$Shelf"),
  (⟨"DimShelf$Shelf", "heldWorld", "(I)I"⟩, 1359, 2, (some (FieldType.int)), 1, aj_lk1, "DimShelf$Shelf"),
  (⟨"DimShelf", "undo", "()Z"⟩, 1364, 1, (some (FieldType.boolean)), 0, aj_lk0, "DimShelf"),
  (⟨"DimShelf$Shelf", "dropPart", "()V"⟩, 1368, 2, none, 0, aj_lk1, "DimShelf$Shelf"),
  (⟨"DimShelf", "ask", "()I"⟩, 1372, 1, (some (FieldType.int)), 0, aj_lk0, "DimShelf"),
  (⟨"DimShelf$Shelf", "keepAsked", "(LDimShelf$Worker;)V"⟩, 1376, 3, none, 1, aj_lk1, "DimShelf$Shelf"),
  (⟨"DimShelf", "why", "(I)I"⟩, 1380, 2, (some (FieldType.int)), 1, aj_lk0, "DimShelf"),
  (⟨"DimShelf$Reason", "part", "(LDimShelf$Shelf;I)I"⟩, 1384, 5, (some (FieldType.int)), 2, aj_lk10, "DimShelf$Reason"),
  (⟨"DimShelf$Reason", "find", "(LDimShelf$Shelf;)V"⟩, 1388, 4, none, 1, aj_lk10, "DimShelf$Reason"),
  (⟨"DimShelf$Shelf", "isAsked", "(I)Z"⟩, 1392, 2, (some (FieldType.boolean)), 1, aj_lk1, "DimShelf$Shelf"),
  (⟨"DimShelf$Shelf", "brokenIn", "(I)I"⟩, 1396, 2, (some (FieldType.int)), 1, aj_lk1, "DimShelf$Shelf"),
  (⟨"DimShelf$Reason", "keep", "(I)V"⟩, 1400, 4, none, 1, aj_lk10, "DimShelf$Reason"),
  (⟨"DimShelf$Reason", "hits", "([IIIIII)Z"⟩, 1403, 12, (some (FieldType.boolean)), 6, aj_lk10, "DimShelf$Reason"),
  (⟨"java/lang/Integer", "bitCount", "(I)I"⟩, 1406, 1, (some (FieldType.int)), 1, aj_lk13, "java/lang/Integer"),
  (⟨"DimShelf$Reason", "choose", "(II)V"⟩, 1413, 7, none, 2, aj_lk10, "DimShelf$Reason"),
  (⟨"DimShelf", "value", "(II)I"⟩, 1417, 4, (some (FieldType.int)), 2, aj_lk0, "DimShelf"),
  (⟨"DimShelf", "table", "(II)I"⟩, 1424, 4, (some (FieldType.int)), 2, aj_lk0, "DimShelf"),
  (⟨"DimShelf$Listing", "gather", "(LDimShelf$Shelf;I)V"⟩, 1430, 5, none, 2, aj_lk9, "DimShelf$Listing"),
  (⟨"DimShelf$Listing", "collect", "(LDimShelf$Shelf;LDimShelf$Rows;)V"⟩, 1435, 7, none, 2, aj_lk9, "DimShelf$Listing"),
  (⟨"DimShelf$Listing", "makeRoom", "(I)V"⟩, 1443, 4, none, 1, aj_lk9, "DimShelf$Listing"),
  (⟨"java/util/Arrays", "copyOf", "([II)[I"⟩, 1446, 3, (some (FieldType.array FieldType.int)), 2, aj_lk12, "java/util/Arrays"),
  (⟨"DimShelf$Listing", "put", "([III)V"⟩, 1459, 3, none, 3, aj_lk9, "DimShelf$Listing"),
  (⟨"DimShelf$Listing", "mergeRuns", "(LDimShelf$Shelf;LDimShelf$Rows;)V"⟩, 1463, 9, none, 2, aj_lk9, "DimShelf$Listing")]
def aj_rt3 : List (MethodName × Nat × Nat × Option FieldType × Nat × List aj_L × String) := [(⟨"DimShelf$Listing", "mergeTwo", "(LDimShelf$Shelf;LDimShelf$Rows;IIII)I"⟩, 1467, 14, (some (FieldType.int)), 6, aj_lk9, "DimShelf$Listing"),
  (⟨"DimShelf$Listing", "ref", "(I)I"⟩, 1471, 2, (some (FieldType.int)), 1, aj_lk9, "DimShelf$Listing"),
  (⟨"DimShelf$Listing", "rowOf", "(I)I"⟩, 1474, 1, (some (FieldType.int)), 1, aj_lk9, "DimShelf$Listing"),
  (⟨"DimShelf$Listing", "worldOf", "(I)I"⟩, 1477, 1, (some (FieldType.int)), 1, aj_lk9, "DimShelf$Listing"),
  (⟨"DimShelf$Listing", "worldsOf", "(I)I"⟩, 1481, 1, (some (FieldType.int)), 1, aj_lk9, "DimShelf$Listing"),
  (⟨"DimShelf$Listing", "findSure", "(I)V"⟩, 1485, 3, none, 1, aj_lk9, "DimShelf$Listing"),
  (⟨"DimShelf", "term", "(IIII)I"⟩, 1489, 6, (some (FieldType.int)), 4, aj_lk0, "DimShelf"),
  (⟨"DimShelf", "many", "(II)I"⟩, 1495, 6, (some (FieldType.int)), 2, aj_lk0, "DimShelf"),
  (⟨"DimShelf", "holds", "(III)Z"⟩, 1500, 6, (some (FieldType.boolean)), 3, aj_lk0, "DimShelf"),
  (⟨"DimShelf", "size", "(II)I"⟩, 1504, 5, (some (FieldType.int)), 2, aj_lk0, "DimShelf"),
  (⟨"DimShelf", "cell", "(IIII)I"⟩, 1509, 8, (some (FieldType.int)), 4, aj_lk0, "DimShelf"),
  (⟨"DimShelf", "sure", "(III)I"⟩, 1514, 4, (some (FieldType.int)), 3, aj_lk0, "DimShelf"),
  (⟨"DimShelf$Listing", "sureRef", "(I)I"⟩, 1518, 2, (some (FieldType.int)), 1, aj_lk9, "DimShelf$Listing"),
  (⟨"DimShelf", "listedCell", "(LDimShelf$Rows;II)I"⟩, 1522, 4, (some (FieldType.int)), 3, aj_lk0, "DimShelf"),
  (⟨"DimShelf", "maybe", "(III)I"⟩, 1528, 4, (some (FieldType.int)), 3, aj_lk0, "DimShelf"),
  (⟨"DimShelf", "often", "(II)I"⟩, 1533, 4, (some (FieldType.int)), 2, aj_lk0, "DimShelf"),
  (⟨"DimShelf", "same", "(II)I"⟩, 1538, 6, (some (FieldType.int)), 2, aj_lk0, "DimShelf"),
  (⟨"DimShelf", "agree", "(LDimShelf$Rows;LDimShelf$Rows;I)Z"⟩, 1542, 6, (some (FieldType.boolean)), 3, aj_lk0, "DimShelf"),
  (⟨"DimShelf", "count", "(I)I"⟩, 1547, 2, (some (FieldType.int)), 1, aj_lk0, "DimShelf"),
  (⟨"DimShelfModel", "<init>", "()V"⟩, 1552, 1, none, 0, aj_lk14, "DimShelfModel"),
  (⟨"DimShelfModel", "feed", "(IIIII)I"⟩, 1777, 6, (some (FieldType.int)), 5, aj_lk14, "DimShelfModel"),
  (⟨"DimShelfModel", "byteRow", "(I)V"⟩, 1781, 3, none, 1, aj_lk14, "DimShelfModel"),
  (⟨"DimShelfModel", "back", "(I)I"⟩, 1785, 2, (some (FieldType.int)), 1, aj_lk14, "DimShelfModel"),
  (⟨"DimShelfModel", "read", "()I"⟩, 1789, 2, (some (FieldType.int)), 0, aj_lk14, "DimShelfModel"),
  (⟨"DimShelfModel", "text", "()Z"⟩, 1793, 2, (some (FieldType.boolean)), 0, aj_lk14, "DimShelfModel"),
  (⟨"DimShelfModel", "start", "()V"⟩, 1797, 1, none, 0, aj_lk14, "DimShelfModel"),
  (⟨"DimShelfModel", "next", "()V"⟩, 1801, 6, none, 0, aj_lk14, "DimShelfModel"),
  (⟨"DimShelfModel", "seen", "(I)I"⟩, 1805, 2, (some (FieldType.int)), 1, aj_lk14, "DimShelfModel"),
  (⟨"DimShelfModel", "isLetter", "(I)Z"⟩, 1809, 2, (some (FieldType.boolean)), 1, aj_lk14, "DimShelfModel"),
  (⟨"DimShelfModel", "isDigit", "(I)Z"⟩, 1813, 2, (some (FieldType.boolean)), 1, aj_lk14, "DimShelfModel"),
  (⟨"DimShelfModel", "packed", "(II)J"⟩, 1817, 6, (some (FieldType.long)), 2, aj_lk14, "DimShelfModel"),
  (⟨"DimShelfModel", "word", "(J)I"⟩, 1820, 2, (some (FieldType.int)), 1, aj_lk14, "DimShelfModel"),
  (⟨"DimShelfModel", "isWord", "(I)Z"⟩, 1834, 2, (some (FieldType.boolean)), 1, aj_lk14, "DimShelfModel"),
  (⟨"DimShelfModel", "unknownTold", "()Z"⟩, 1838, 6, (some (FieldType.boolean)), 0, aj_lk14, "DimShelfModel"),
  (⟨"DimShelfModel", "pass", "()Z"⟩, 1842, 1, (some (FieldType.boolean)), 0, aj_lk14, "DimShelfModel"),
  (⟨"DimShelfModel", "stop", "(II)Z"⟩, 1846, 3, (some (FieldType.boolean)), 2, aj_lk14, "DimShelfModel"),
  (⟨"DimShelfModel", "named", "()Z"⟩, 1850, 1, (some (FieldType.boolean)), 0, aj_lk14, "DimShelfModel"),
  (⟨"DimShelfModel", "unknown", "(IJ)I"⟩, 1854, 5, (some (FieldType.int)), 2, aj_lk14, "DimShelfModel"),
  (⟨"DimShelfModel", "tell", "(II)V"⟩, 1858, 3, none, 2, aj_lk14, "DimShelfModel"),
  (⟨"DimShelfModel", "sign", "(I)Z"⟩, 1862, 2, (some (FieldType.boolean)), 1, aj_lk14, "DimShelfModel"),
  (⟨"DimShelfModel", "isSign", "(I)Z"⟩, 1866, 2, (some (FieldType.boolean)), 1, aj_lk14, "DimShelfModel"),
  (⟨"DimShelfModel", "whole", "()Z"⟩, 1870, 4, (some (FieldType.boolean)), 0, aj_lk14, "DimShelfModel"),
  (⟨"DimShelfModel", "span", "(I)Z"⟩, 1874, 4, (some (FieldType.boolean)), 1, aj_lk14, "DimShelfModel"),
  (⟨"DimShelfModel", "list", "(I)Z"⟩, 1878, 3, (some (FieldType.boolean)), 1, aj_lk14, "DimShelfModel"),
  (⟨"DimShelfModel", "worldsAnew", "()V"⟩, 1882, 7, none, 0, aj_lk14, "DimShelfModel"),
  (⟨"DimShelfModel", "at", "(II)I"⟩, 1886, 3, (some (FieldType.int)), 2, aj_lk14, "DimShelfModel"),
  (⟨"DimShelfModel", "spread", "([III)V"⟩, 1890, 5, none, 3, aj_lk14, "DimShelfModel"),
  (⟨"DimShelfModel", "bit", "([III)Z"⟩, 1893, 3, (some (FieldType.boolean)), 3, aj_lk14, "DimShelfModel"),
  (⟨"DimShelfModel", "put", "([IIIZ)V"⟩, 1896, 6, none, 4, aj_lk14, "DimShelfModel"),
  (⟨"DimShelfModel", "tableTold", "()Z"⟩, 1900, 2, (some (FieldType.boolean)), 0, aj_lk14, "DimShelfModel"),
  (⟨"DimShelfModel", "tableName", "(I)Z"⟩, 1904, 2, (some (FieldType.boolean)), 1, aj_lk14, "DimShelfModel"),
  (⟨"DimShelfModel", "tableOf", "(IJ)I"⟩, 1908, 5, (some (FieldType.int)), 2, aj_lk14, "DimShelfModel"),
  (⟨"DimShelfModel", "columnTold", "(I)Z"⟩, 1912, 2, (some (FieldType.boolean)), 1, aj_lk14, "DimShelfModel"),
  (⟨"DimShelfModel", "columnOf", "(IJ)I"⟩, 1916, 5, (some (FieldType.int)), 2, aj_lk14, "DimShelfModel"),
  (⟨"DimShelfModel", "rowTold", "()Z"⟩, 1920, 8, (some (FieldType.boolean)), 0, aj_lk14, "DimShelfModel"),
  (⟨"DimShelfModel", "termTold", "()Z"⟩, 1924, 1, (some (FieldType.boolean)), 0, aj_lk14, "DimShelfModel"),
  (⟨"DimShelfModel", "cellAt", "(III)I"⟩, 1927, 3, (some (FieldType.int)), 3, aj_lk14, "DimShelfModel"),
  (⟨"DimShelfModel", "condition", "()Z"⟩, 1931, 3, (some (FieldType.boolean)), 0, aj_lk14, "DimShelfModel"),
  (⟨"DimShelfModel", "compares", "()Z"⟩, 1935, 5, (some (FieldType.boolean)), 0, aj_lk14, "DimShelfModel"),
  (⟨"DimShelfModel", "relation", "()Z"⟩, 1939, 1, (some (FieldType.boolean)), 0, aj_lk14, "DimShelfModel")]
def aj_rt4 : List (MethodName × Nat × Nat × Option FieldType × Nat × List aj_L × String) := [(⟨"DimShelfModel", "valued", "(IIII)I"⟩, 1943, 5, (some (FieldType.int)), 4, aj_lk14, "DimShelfModel"),
  (⟨"DimShelfModel", "world", "(III)I"⟩, 1947, 4, (some (FieldType.int)), 3, aj_lk14, "DimShelfModel"),
  (⟨"DimShelfModel", "related", "(III)Z"⟩, 1950, 3, (some (FieldType.boolean)), 3, aj_lk14, "DimShelfModel"),
  (⟨"DimShelfModel", "isWaiting", "(I)Z"⟩, 1954, 2, (some (FieldType.boolean)), 1, aj_lk14, "DimShelfModel"),
  (⟨"DimShelfModel", "reduce", "()V"⟩, 1958, 7, none, 0, aj_lk14, "DimShelfModel"),
  (⟨"DimShelfModel", "invert", "(I)V"⟩, 1962, 3, none, 1, aj_lk14, "DimShelfModel"),
  (⟨"DimShelfModel", "alwaysTold", "()Z"⟩, 1966, 5, (some (FieldType.boolean)), 0, aj_lk14, "DimShelfModel"),
  (⟨"DimShelfModel", "isHeld", "(II)Z"⟩, 1970, 4, (some (FieldType.boolean)), 2, aj_lk14, "DimShelfModel"),
  (⟨"DimShelfModel", "answerTold", "()Z"⟩, 1974, 4, (some (FieldType.boolean)), 0, aj_lk14, "DimShelfModel"),
  (⟨"DimShelfModel", "question", "()Z"⟩, 1978, 2, (some (FieldType.boolean)), 0, aj_lk14, "DimShelfModel"),
  (⟨"DimShelfModel", "tabled", "(I)Z"⟩, 1982, 3, (some (FieldType.boolean)), 1, aj_lk14, "DimShelfModel"),
  (⟨"DimShelfModel", "copy", "(II)V"⟩, 1986, 4, none, 2, aj_lk14, "DimShelfModel"),
  (⟨"DimShelfModel", "copyRow", "(IIII)V"⟩, 1990, 6, none, 4, aj_lk14, "DimShelfModel"),
  (⟨"DimShelfModel", "steps", "(I)Z"⟩, 1994, 3, (some (FieldType.boolean)), 1, aj_lk14, "DimShelfModel"),
  (⟨"DimShelfModel", "tests", "(I)Z"⟩, 1998, 8, (some (FieldType.boolean)), 1, aj_lk14, "DimShelfModel"),
  (⟨"DimShelfModel", "side", "(I)Z"⟩, 2002, 2, (some (FieldType.boolean)), 1, aj_lk14, "DimShelfModel"),
  (⟨"DimShelfModel", "told", "(I)I"⟩, 2006, 3, (some (FieldType.int)), 1, aj_lk14, "DimShelfModel"),
  (⟨"DimShelfModel", "sided", "(IIIII)I"⟩, 2010, 6, (some (FieldType.int)), 5, aj_lk14, "DimShelfModel"),
  (⟨"DimShelfModel", "valueAt", "(IIII)I"⟩, 2014, 6, (some (FieldType.int)), 4, aj_lk14, "DimShelfModel"),
  (⟨"DimShelfModel", "slotHalf", "(I)I"⟩, 2018, 2, (some (FieldType.int)), 1, aj_lk14, "DimShelfModel"),
  (⟨"DimShelfModel", "takes", "(I)Z"⟩, 2022, 4, (some (FieldType.boolean)), 1, aj_lk14, "DimShelfModel"),
  (⟨"DimShelfModel", "columns", "(IZ)Z"⟩, 2026, 7, (some (FieldType.boolean)), 2, aj_lk14, "DimShelfModel"),
  (⟨"DimShelfModel", "renames", "(I)Z"⟩, 2030, 6, (some (FieldType.boolean)), 1, aj_lk14, "DimShelfModel"),
  (⟨"DimShelfModel", "groups", "(I)Z"⟩, 2034, 8, (some (FieldType.boolean)), 1, aj_lk14, "DimShelfModel"),
  (⟨"DimShelfModel", "act", "()Z"⟩, 2038, 1, (some (FieldType.boolean)), 0, aj_lk14, "DimShelfModel"),
  (⟨"DimShelfModel", "group", "(IIII)Z"⟩, 2042, 8, (some (FieldType.boolean)), 4, aj_lk14, "DimShelfModel"),
  (⟨"DimShelfModel", "collect", "(II)V"⟩, 2046, 6, none, 2, aj_lk14, "DimShelfModel"),
  (⟨"DimShelfModel", "compareRows", "(IIIII)I"⟩, 2050, 9, (some (FieldType.int)), 5, aj_lk14, "DimShelfModel"),
  (⟨"DimShelfModel", "isFirst", "(III)Z"⟩, 2054, 5, (some (FieldType.boolean)), 3, aj_lk14, "DimShelfModel"),
  (⟨"DimShelfModel", "isGroup", "(IIII)Z"⟩, 2058, 6, (some (FieldType.boolean)), 4, aj_lk14, "DimShelfModel"),
  (⟨"DimShelfModel", "reckon", "(IIIII)V"⟩, 2062, 9, none, 5, aj_lk14, "DimShelfModel"),
  (⟨"DimShelfModel", "comes", "(II)Z"⟩, 2066, 6, (some (FieldType.boolean)), 2, aj_lk14, "DimShelfModel"),
  (⟨"DimShelfModel", "against", "(II)I"⟩, 2070, 5, (some (FieldType.int)), 2, aj_lk14, "DimShelfModel"),
  (⟨"DimShelfModel", "isActing", "(I)Z"⟩, 2074, 2, (some (FieldType.boolean)), 1, aj_lk14, "DimShelfModel"),
  (⟨"DimShelfModel", "done", "()Z"⟩, 2078, 5, (some (FieldType.boolean)), 0, aj_lk14, "DimShelfModel"),
  (⟨"DimShelfModel", "joined", "(II)Z"⟩, 2082, 5, (some (FieldType.boolean)), 2, aj_lk14, "DimShelfModel"),
  (⟨"DimShelfModel", "join", "(II)Z"⟩, 2086, 10, (some (FieldType.boolean)), 2, aj_lk14, "DimShelfModel"),
  (⟨"DimShelfModel", "isAlike", "(II)Z"⟩, 2090, 4, (some (FieldType.boolean)), 2, aj_lk14, "DimShelfModel"),
  (⟨"DimShelfModel", "union", "(II)Z"⟩, 2094, 4, (some (FieldType.boolean)), 2, aj_lk14, "DimShelfModel"),
  (⟨"DimShelfModel", "minus", "(I)Z"⟩, 2098, 7, (some (FieldType.boolean)), 1, aj_lk14, "DimShelfModel"),
  (⟨"DimShelfModel", "place", "()I"⟩, 2102, 1, (some (FieldType.int)), 0, aj_lk14, "DimShelfModel"),
  (⟨"DimShelfModel", "learn", "()I"⟩, 2106, 4, (some (FieldType.int)), 0, aj_lk14, "DimShelfModel"),
  (⟨"DimShelfModel", "asks", "()Z"⟩, 2110, 2, (some (FieldType.boolean)), 0, aj_lk14, "DimShelfModel"),
  (⟨"DimShelfModel", "undo", "()Z"⟩, 2114, 1, (some (FieldType.boolean)), 0, aj_lk14, "DimShelfModel"),
  (⟨"DimShelfModel", "ask", "()I"⟩, 2118, 3, (some (FieldType.int)), 0, aj_lk14, "DimShelfModel"),
  (⟨"DimShelfModel", "why", "(I)I"⟩, 2122, 5, (some (FieldType.int)), 1, aj_lk14, "DimShelfModel"),
  (⟨"DimShelfModel", "chooses", "(I)Z"⟩, 2126, 6, (some (FieldType.boolean)), 1, aj_lk14, "DimShelfModel"),
  (⟨"DimShelfModel", "meetsAll", "(I)Z"⟩, 2130, 4, (some (FieldType.boolean)), 1, aj_lk14, "DimShelfModel"),
  (⟨"DimShelfModel", "value", "(II)I"⟩, 2134, 4, (some (FieldType.int)), 2, aj_lk14, "DimShelfModel"),
  (⟨"DimShelfModel", "worldOf", "(I)I"⟩, 2138, 4, (some (FieldType.int)), 1, aj_lk14, "DimShelfModel"),
  (⟨"DimShelfModel", "table", "(II)I"⟩, 2143, 6, (some (FieldType.int)), 2, aj_lk14, "DimShelfModel"),
  (⟨"DimShelfModel", "isTable", "(I)Z"⟩, 2147, 2, (some (FieldType.boolean)), 1, aj_lk14, "DimShelfModel"),
  (⟨"DimShelfModel", "sures", "(I)V"⟩, 2151, 6, none, 1, aj_lk14, "DimShelfModel"),
  (⟨"DimShelfModel", "isIn", "(IIII)Z"⟩, 2155, 6, (some (FieldType.boolean)), 4, aj_lk14, "DimShelfModel"),
  (⟨"DimShelfModel", "maybes", "(I)V"⟩, 2159, 6, none, 1, aj_lk14, "DimShelfModel"),
  (⟨"DimShelfModel", "sink", "(III)V"⟩, 2163, 7, none, 3, aj_lk14, "DimShelfModel"),
  (⟨"DimShelfModel", "comparePairs", "(III)I"⟩, 2167, 4, (some (FieldType.int)), 3, aj_lk14, "DimShelfModel"),
  (⟨"DimShelfModel", "term", "(IIII)I"⟩, 2171, 6, (some (FieldType.int)), 4, aj_lk14, "DimShelfModel"),
  (⟨"DimShelfModel", "isRow", "(II)Z"⟩, 2175, 3, (some (FieldType.boolean)), 2, aj_lk14, "DimShelfModel"),
  (⟨"DimShelfModel", "many", "(II)I"⟩, 2179, 5, (some (FieldType.int)), 2, aj_lk14, "DimShelfModel")]
def aj_rt5 : List (MethodName × Nat × Nat × Option FieldType × Nat × List aj_L × String) := [(⟨"DimShelfModel", "holds", "(III)Z"⟩, 2183, 5, (some (FieldType.boolean)), 3, aj_lk14, "DimShelfModel"),
  (⟨"DimShelfModel", "size", "(II)I"⟩, 2187, 4, (some (FieldType.int)), 2, aj_lk14, "DimShelfModel"),
  (⟨"DimShelfModel", "cell", "(IIII)I"⟩, 2191, 6, (some (FieldType.int)), 4, aj_lk14, "DimShelfModel"),
  (⟨"DimShelfModel", "sure", "(III)I"⟩, 2195, 4, (some (FieldType.int)), 3, aj_lk14, "DimShelfModel"),
  (⟨"DimShelfModel", "maybe", "(III)I"⟩, 2199, 4, (some (FieldType.int)), 3, aj_lk14, "DimShelfModel"),
  (⟨"DimShelfModel", "often", "(II)I"⟩, 2203, 6, (some (FieldType.int)), 2, aj_lk14, "DimShelfModel"),
  (⟨"DimShelfModel", "same", "(II)I"⟩, 2207, 7, (some (FieldType.int)), 2, aj_lk14, "DimShelfModel"),
  (⟨"DimShelfModel", "isSame", "(III)Z"⟩, 2211, 7, (some (FieldType.boolean)), 3, aj_lk14, "DimShelfModel"),
  (⟨"DimShelfModel", "count", "(I)I"⟩, 2215, 2, (some (FieldType.int)), 1, aj_lk14, "DimShelfModel"),
  (⟨"DimShelfModel", "holding", "()I"⟩, 2219, 3, (some (FieldType.int)), 0, aj_lk14, "DimShelfModel")]
def aj_rt : List (MethodName × Nat × Nat × Option FieldType × Nat × List aj_L × String) := aj_rt0 ++ (aj_rt1 ++ (aj_rt2 ++ (aj_rt3 ++ (aj_rt4 ++ (aj_rt5)))))
def aj_mk (q : MethodName × Nat × Nat × Option FieldType × Nat × List aj_L × String) : aj_M := (q.1, aj_bc q.2.1, q.2.2)
def aj_mt : List aj_M := aj_rt.map aj_mk
def aj_cp : List (List Nat) := [[419, 421, 423, 425, 427, 429, 431, 433, 435], [460, 462, 464, 466, 468, 470, 472], [573, 575, 577, 579, 581, 583, 585, 587, 589, 591, 593], [371, 373, 375, 377, 379, 381, 383, 385, 387, 389, 391, 393, 395, 397, 399, 401], [334, 336, 338, 340, 342, 344, 346], [606, 608, 610, 612], [495, 497, 499, 501, 503], [253, 255, 257, 259, 261, 263, 265, 267, 269, 271, 273, 275, 277, 279, 281, 283, 285, 287], [304, 306, 308, 310], [521, 523, 525, 527, 529, 531, 533, 535, 537, 539, 541, 543, 545, 547, 549], [629, 631, 633, 635, 637, 639, 641, 643, 645, 647, 649, 651, 653, 655], [1628, 1630, 1632, 1634, 1636, 1638, 1640, 1642, 1644, 1646, 1648, 1650, 1652, 1654, 1656, 1658, 1660, 1662, 1664, 1666, 1668, 1670, 1672, 1674, 1676, 1678, 1680, 1682, 1684, 1686, 1688, 1690, 1692, 1694, 1696, 1698, 1700, 1702, 1704, 1706, 1708, 1710, 1712, 1714, 1716, 1718, 1720, 1722, 1724, 1726, 1728, 1730, 1732, 1734, 1736, 1738, 1740, 1742, 1744, 1746, 1748, 1750, 1752, 1754, 1756, 1758, 1760, 1762, 1764, 1766, 1768, 1770]]
def aj_ap : List Nat := [292, 291, 293, 290, 1773]
def aj_rc : Nat := 6
def aj_AOp : Nat := 200
