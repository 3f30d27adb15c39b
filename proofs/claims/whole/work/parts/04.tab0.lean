/-! the tables of the small machine, written by wip/gen.py out of the Statement -/
def xC0 : String := "PrePressRoom"
def xT0 : u_T := fun k => match k with
  | 0 => ("PrePressRoom", "amounts", "[I", true)
  | 1 => ("PrePressRoom", "pages", "[[I", true)
  | 2 => ("PrePressRoom", "jobs", "[LPrePressRoom$Job;", true)
  | 3 => ("PrePressRoom", "spreader", "LPrePressRoom$Spreader;", true)
  | 4 => ("PrePressRoom", "screens", "[LPrePressRoom$Screen;", true)
  | 5 => ("PrePressRoom", "sheets", "LPrePressRoom$Sheets;", true)
  | 6 => ("PrePressRoom", "blackShare", "I", false)
  | _ => ("PrePressRoom", "inkLimit", "I", false)
def xY0 : Nat → FieldType := fun k => match k with
  | 0 => .array .int
  | 1 => .array (.array .int)
  | 2 => .array (.object "PrePressRoom$Job")
  | 3 => .object "PrePressRoom$Spreader"
  | 4 => .array (.object "PrePressRoom$Screen")
  | 5 => .object "PrePressRoom$Sheets"
  | 6 => .int
  | _ => .int
def xC1 : String := "PrePressRoom$Job"
def xT1 : u_T := fun k => match k with
  | 0 => ("PrePressRoom$Job", "colours", "[I", true)
  | 1 => ("PrePressRoom$Job", "lighter", "[I", true)
  | 2 => ("PrePressRoom$Job", "amounts", "[I", true)
  | 3 => ("PrePressRoom$Job", "made", "Z", false)
  | _ => ("PrePressRoom$Job", "spread", "Z", false)
def xY1 : Nat → FieldType := fun k => match k with
  | 0 => .array .int
  | 1 => .array .int
  | 2 => .array .int
  | 3 => .boolean
  | _ => .boolean
def xC2 : String := "PrePressRoom$Spreader"
def xT2 : u_T := fun k => match k with
  | 0 => ("PrePressRoom$Spreader", "inks", "[I", true)
  | 1 => ("PrePressRoom$Spreader", "weights", "[I", true)
  | 2 => ("PrePressRoom$Spreader", "lighterShy", "[J", true)
  | 3 => ("PrePressRoom$Spreader", "near", "[J", true)
  | _ => ("PrePressRoom$Spreader", "across", "[J", true)
def xY2 : Nat → FieldType := fun k => match k with
  | 0 => .array .int
  | 1 => .array .int
  | 2 => .array .long
  | 3 => .array .long
  | _ => .array .long
def xC3 : String := "PrePressRoom$Places"
def xT3 : u_T := fun k => match k with
  | 0 => ("PrePressRoom$Places", "byDistance", "[I", true)
  | 1 => ("PrePressRoom$Places", "byForm", "[I", true)
  | 2 => ("PrePressRoom$Places", "starts", "[I", true)
  | _ => ("PrePressRoom$Places", "count", "I", true)
def xY3 : Nat → FieldType := fun k => match k with
  | 0 => .array .int
  | 1 => .array .int
  | 2 => .array .int
  | _ => .int
def xC4 : String := "PrePressRoom$Screen"
def xT4 : u_T := fun k => match k with
  | 0 => ("PrePressRoom$Screen", "places", "LPrePressRoom$Places;", true)
  | 1 => ("PrePressRoom$Screen", "rankOfClass", "[I", true)
  | 2 => ("PrePressRoom$Screen", "heartOfRank", "[I", true)
  | 3 => ("PrePressRoom$Screen", "classes", "I", false)
  | 4 => ("PrePressRoom$Screen", "rows", "I", false)
  | _ => ("PrePressRoom$Screen", "shift", "I", false)
def xY4 : Nat → FieldType := fun k => match k with
  | 0 => .object "PrePressRoom$Places"
  | 1 => .array .int
  | 2 => .array .int
  | 3 => .int
  | 4 => .int
  | _ => .int
def xC5 : String := "PrePressRoom$Sheets"
def xT5 : u_T := fun k => match k with
  | 0 => ("PrePressRoom$Sheets", "leafOfSlot", "[LPrePressRoom$Leaf;", true)
  | 1 => ("PrePressRoom$Sheets", "slotFromTop", "[I", true)
  | 2 => ("PrePressRoom$Sheets", "count", "I", false)
  | 3 => ("PrePressRoom$Sheets", "leaves", "I", false)
  | _ => ("PrePressRoom$Sheets", "creep", "I", false)
def xY5 : Nat → FieldType := fun k => match k with
  | 0 => .array (.object "PrePressRoom$Leaf")
  | 1 => .array .int
  | 2 => .int
  | 3 => .int
  | _ => .int
def xC6 : String := "PrePressRoom$Leaf"
def xT6 : u_T := fun k => match k with
  | 0 => ("PrePressRoom$Leaf", "column", "I", false)
  | 1 => ("PrePressRoom$Leaf", "row", "I", false)
  | 2 => ("PrePressRoom$Leaf", "above", "I", false)
  | 3 => ("PrePressRoom$Leaf", "upperSide", "I", false)
  | _ => ("PrePressRoom$Leaf", "turn", "I", false)
def xY6 : Nat → FieldType := fun k => match k with
  | 0 => .int
  | 1 => .int
  | 2 => .int
  | 3 => .int
  | _ => .int
def xC7 : String := "PrePressRoomModel"
def xT7 : u_T := fun k => match k with
  | 0 => ("PrePressRoomModel", "thrown", "I", false)
  | 1 => ("PrePressRoomModel", "amounts", "[I", true)
  | 2 => ("PrePressRoomModel", "cells", "[I", true)
  | 3 => ("PrePressRoomModel", "share", "I", false)
  | 4 => ("PrePressRoomModel", "limit", "I", false)
  | 5 => ("PrePressRoomModel", "hasJob", "[Z", true)
  | 6 => ("PrePressRoomModel", "isTrapped", "[Z", true)
  | 7 => ("PrePressRoomModel", "jobCells", "[I", true)
  | 8 => ("PrePressRoomModel", "jobAmounts", "[I", true)
  | 9 => ("PrePressRoomModel", "traps", "[I", true)
  | 10 => ("PrePressRoomModel", "used", "[Z", true)
  | 11 => ("PrePressRoomModel", "four", "[I", true)
  | 12 => ("PrePressRoomModel", "as", "[I", true)
  | 13 => ("PrePressRoomModel", "bs", "[I", true)
  | 14 => ("PrePressRoomModel", "shapes", "[I", true)
  | 15 => ("PrePressRoomModel", "isKnown", "[Z", true)
  | 16 => ("PrePressRoomModel", "hearts", "[I", true)
  | 17 => ("PrePressRoomModel", "heartX", "[I", true)
  | 18 => ("PrePressRoomModel", "heartY", "[I", true)
  | 19 => ("PrePressRoomModel", "hx", "I", false)
  | 20 => ("PrePressRoomModel", "hy", "I", false)
  | 21 => ("PrePressRoomModel", "sheets", "I", false)
  | 22 => ("PrePressRoomModel", "folds", "I", false)
  | 23 => ("PrePressRoomModel", "leaves", "I", false)
  | 24 => ("PrePressRoomModel", "creep", "I", false)
  | 25 => ("PrePressRoomModel", "slotOf", "[I", true)
  | 26 => ("PrePressRoomModel", "upper", "[I", true)
  | 27 => ("PrePressRoomModel", "turns", "[I", true)
  | 28 => ("PrePressRoomModel", "column", "[I", true)
  | 29 => ("PrePressRoomModel", "row", "[I", true)
  | _ => ("PrePressRoomModel", "depth", "[I", true)
def xY7 : Nat → FieldType := fun k => match k with
  | 0 => .int
  | 1 => .array .int
  | 2 => .array .int
  | 3 => .int
  | 4 => .int
  | 5 => .array .boolean
  | 6 => .array .boolean
  | 7 => .array .int
  | 8 => .array .int
  | 9 => .array .int
  | 10 => .array .boolean
  | 11 => .array .int
  | 12 => .array .int
  | 13 => .array .int
  | 14 => .array .int
  | 15 => .array .boolean
  | 16 => .array .int
  | 17 => .array .int
  | 18 => .array .int
  | 19 => .int
  | 20 => .int
  | 21 => .int
  | 22 => .int
  | 23 => .int
  | 24 => .int
  | 25 => .array .int
  | 26 => .array .int
  | 27 => .array .int
  | 28 => .array .int
  | 29 => .array .int
  | _ => .array .int
def xC8 : String := "java/lang/IndexOutOfBoundsException"
def xT8 : u_T := fun k => match k with
  | _ => ("", "", "", false)
def xY8 : Nat → FieldType := fun k => match k with
  | _ => .int
def xC9 : String := "java/lang/IllegalArgumentException"
def xT9 : u_T := fun k => match k with
  | _ => ("", "", "", false)
def xY9 : Nat → FieldType := fun k => match k with
  | _ => .int
def xC10 : String := "java/lang/IllegalStateException"
def xT10 : u_T := fun k => match k with
  | _ => ("", "", "", false)
def xY10 : Nat → FieldType := fun k => match k with
  | _ => .int
def xcl : List vw_C := [(xC0, xT0, 8), (xC1, xT1, 5), (xC2, xT2, 5), (xC3, xT3, 4), (xC4, xT4, 6), (xC5, xT5, 5), (xC6, xT6, 5), (xC7, xT7, 31), (xC8, xT8, 0), (xC9, xT9, 0), (xC10, xT10, 0)]
def xty0 : Nat → Nat → FieldType := fun c => match c with
  | 0 => xY0
  | 1 => xY1
  | 2 => xY2
  | 3 => xY3
  | 4 => xY4
  | 5 => xY5
  | 6 => xY6
  | 7 => xY7
  | 8 => xY8
  | 9 => xY9
  | _ => xY10
def xF0 : Nat → List Value := fun c => match c with
  | 0 => [.null, .null, .null, .null, .null, .null, .int 0, .int 0]
  | 1 => [.null, .null, .null, .int 0, .int 0]
  | 2 => [.null, .null, .null, .null, .null]
  | 3 => [.null, .null, .null, .int 0]
  | 4 => [.null, .null, .null, .int 0, .int 0, .int 0]
  | 5 => [.null, .null, .int 0, .int 0, .int 0]
  | 6 => [.int 0, .int 0, .int 0, .int 0, .int 0]
  | 7 => [.int 0, .null, .null, .int 0, .int 0, .null, .null, .null, .null, .null, .null, .null, .null, .null, .null, .null, .null, .null, .null, .int 0, .int 0, .int 0, .int 0, .int 0, .int 0, .null, .null, .null, .null, .null, .null]
  | 8 => []
  | 9 => []
  | _ => []
def xSL : List (String × Nat × String) := [("PrePressRoom", 174, "no such number"), ("PrePressRoom", 177, "out of its range"), ("PrePressRoom", 72, "another spot ink is above 0"), ("PrePressRoom", 181, "the page has no job"), ("PrePressRoom", 105, "no job without traps"), ("PrePressRoom", 143, "not whole sheets"), ("PrePressRoom", 179, "nothing is laid")]
def xNM : List String := ["java/lang/RuntimeException", "java/lang/Exception"]
def xEX : List Nat := [8, 9, 10]
def xsf : String × String × String := ("PrePressRoom$Job", "WEIGHTS", "[I")
