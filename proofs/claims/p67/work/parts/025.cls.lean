/-- instruction, pc, length, four numbers -/
abbrev dOp : Type := Instr × Nat × Nat × Nat × Nat × Nat × Nat
/-! ===== the classes whose objects the memory holds: fields in the order of their numbers ===== -/
def dT0 : u_T := fun k => match k with
  | 0 => ("java/lang/String", "value", "[B", true)
  | 1 => ("java/lang/String", "coder", "B", true)
  | 2 => ("java/lang/String", "hash", "I", false)
  | _ => ("java/lang/String", "hashIsZero", "Z", false)
def dY0 : Nat → FieldType := fun k => match k with
  | 0 => .array .byte
  | 1 => .byte
  | 2 => .int
  | _ => .boolean
def dT1 : u_T := fun k => match k with
  | 0 => ("java/lang/AbstractStringBuilder", "value", "[B", false)
  | 1 => ("java/lang/AbstractStringBuilder", "coder", "B", false)
  | 2 => ("java/lang/AbstractStringBuilder", "maybeLatin1", "Z", false)
  | _ => ("java/lang/AbstractStringBuilder", "count", "I", false)
def dY1 : Nat → FieldType := fun k => match k with
  | 0 => .array .byte
  | 1 => .byte
  | 2 => .boolean
  | _ => .int
def dT2 : u_T := fun k => match k with
  | 0 => ("RetentionArchive$Archive", "classes", "LRetentionArchive$RecordClasses;", true)
  | 1 => ("RetentionArchive$Archive", "readers", "LRetentionArchive$Readers;", true)
  | 2 => ("RetentionArchive$Archive", "classOfBox", "[I", true)
  | 3 => ("RetentionArchive$Archive", "closing", "[I", true)
  | 4 => ("RetentionArchive$Archive", "postponed", "[I", true)
  | 5 => ("RetentionArchive$Archive", "mark", "[I", true)
  | 6 => ("RetentionArchive$Archive", "sealEnd", "[I", true)
  | 7 => ("RetentionArchive$Archive", "holder", "[I", true)
  | 8 => ("RetentionArchive$Archive", "lentIn", "[I", true)
  | 9 => ("RetentionArchive$Archive", "waiting", "[I", true)
  | 10 => ("RetentionArchive$Archive", "queue", "[I", true)
  | 11 => ("RetentionArchive$Archive", "list", "[I", true)
  | 12 => ("RetentionArchive$Archive", "listed", "I", false)
  | 13 => ("RetentionArchive$Archive", "boxes", "I", false)
  | 14 => ("RetentionArchive$Archive", "year", "I", false)
  | 15 => ("RetentionArchive$Archive", "shelves", "I", false)
  | _ => ("RetentionArchive$Archive", "places", "I", false)
def dY2 : Nat → FieldType := fun k => match k with
  | 0 => .object "RetentionArchive$RecordClasses"
  | 1 => .object "RetentionArchive$Readers"
  | 2 => .array .int
  | 3 => .array .int
  | 4 => .array .int
  | 5 => .array .int
  | 6 => .array .int
  | 7 => .array .int
  | 8 => .array .int
  | 9 => .array .int
  | 10 => .array .int
  | 11 => .array .int
  | 12 => .int
  | 13 => .int
  | 14 => .int
  | 15 => .int
  | _ => .int
def dT3 : u_T := fun k => match k with
  | 0 => ("RetentionArchive$History", "states", "[LRetentionArchive$Archive;", true)
  | 1 => ("RetentionArchive$History", "next", "I", false)
  | _ => ("RetentionArchive$History", "count", "I", false)
def dY3 : Nat → FieldType := fun k => match k with
  | 0 => .array (.object "RetentionArchive$Archive")
  | 1 => .int
  | _ => .int
def dT4 : u_T := fun k => match k with
  | 0 => ("RetentionArchive$Input", "bytes", "[B", true)
  | 1 => ("RetentionArchive$Input", "held", "I", false)
  | 2 => ("RetentionArchive$Input", "kinds", "[I", true)
  | 3 => ("RetentionArchive$Input", "starts", "[I", true)
  | 4 => ("RetentionArchive$Input", "lengths", "[I", true)
  | 5 => ("RetentionArchive$Input", "tokens", "I", false)
  | _ => ("RetentionArchive$Input", "current", "I", false)
def dY4 : Nat → FieldType := fun k => match k with
  | 0 => .array .byte
  | 1 => .int
  | 2 => .array .int
  | 3 => .array .int
  | 4 => .array .int
  | 5 => .int
  | _ => .int
def dT5 : u_T := fun k => match k with
  | 0 => ("RetentionArchive$Parser", "input", "LRetentionArchive$Input;", true)
  | 1 => ("RetentionArchive$Parser", "draft", "LRetentionArchive$Archive;", true)
  | 2 => ("RetentionArchive$Parser", "error", "I", false)
  | 3 => ("RetentionArchive$Parser", "errorAt", "I", false)
  | _ => ("RetentionArchive$Parser", "yearsOfText", "I", false)
def dY5 : Nat → FieldType := fun k => match k with
  | 0 => .object "RetentionArchive$Input"
  | 1 => .object "RetentionArchive$Archive"
  | 2 => .int
  | 3 => .int
  | _ => .int
def dT6 : u_T := fun k => match k with
  | 0 => ("RetentionArchive$Readers", "names", "[J", true)
  | 1 => ("RetentionArchive$Readers", "limits", "[I", true)
  | _ => ("RetentionArchive$Readers", "count", "I", false)
def dY6 : Nat → FieldType := fun k => match k with
  | 0 => .array .long
  | 1 => .array .int
  | _ => .int
def dT7 : u_T := fun k => match k with
  | 0 => ("RetentionArchive$RecordClasses", "names", "[J", true)
  | 1 => ("RetentionArchive$RecordClasses", "periods", "[I", true)
  | 2 => ("RetentionArchive$RecordClasses", "closedPeriods", "[I", true)
  | 3 => ("RetentionArchive$RecordClasses", "permanent", "[Z", true)
  | _ => ("RetentionArchive$RecordClasses", "count", "I", false)
def dY7 : Nat → FieldType := fun k => match k with
  | 0 => .array .long
  | 1 => .array .int
  | 2 => .array .int
  | 3 => .array .boolean
  | _ => .int
def dT8 : u_T := fun k => match k with
  | 0 => ("RetentionArchive$Slots", "states", "[LRetentionArchive$Archive;", true)
  | _ => ("RetentionArchive$Slots", "used", "[Z", true)
def dY8 : Nat → FieldType := fun k => match k with
  | 0 => .array (.object "RetentionArchive$Archive")
  | 1 => .array .boolean
  | _ => .int
def dT9 : u_T := fun k => match k with
  | 0 => ("RetentionArchive", "parser", "LRetentionArchive$Parser;", true)
  | 1 => ("RetentionArchive", "archive", "LRetentionArchive$Archive;", true)
  | 2 => ("RetentionArchive", "forecast", "LRetentionArchive$Archive;", true)
  | 3 => ("RetentionArchive", "history", "LRetentionArchive$History;", true)
  | 4 => ("RetentionArchive", "slots", "LRetentionArchive$Slots;", true)
  | 5 => ("RetentionArchive", "written", "Ljava/lang/StringBuilder;", true)
  | _ => ("RetentionArchive", "loaded", "Z", false)
def dY9 : Nat → FieldType := fun k => match k with
  | 0 => .object "RetentionArchive$Parser"
  | 1 => .object "RetentionArchive$Archive"
  | 2 => .object "RetentionArchive$Archive"
  | 3 => .object "RetentionArchive$History"
  | 4 => .object "RetentionArchive$Slots"
  | 5 => .object "java/lang/StringBuilder"
  | _ => .boolean
def dT10 : u_T := fun k => match k with
  | 0 => ("RetentionArchiveLaw$Box", "kind", "I", true)
  | 1 => ("RetentionArchiveLaw$Box", "closing", "I", true)
  | 2 => ("RetentionArchiveLaw$Box", "queue", "[I", true)
  | 3 => ("RetentionArchiveLaw$Box", "more", "I", false)
  | 4 => ("RetentionArchiveLaw$Box", "seal", "I", false)
  | 5 => ("RetentionArchiveLaw$Box", "shelf", "I", false)
  | 6 => ("RetentionArchiveLaw$Box", "place", "I", false)
  | 7 => ("RetentionArchiveLaw$Box", "reader", "I", false)
  | 8 => ("RetentionArchiveLaw$Box", "since", "I", false)
  | 9 => ("RetentionArchiveLaw$Box", "waiting", "I", false)
  | _ => ("RetentionArchiveLaw$Box", "gone", "Z", false)
def dY10 : Nat → FieldType := fun k => match k with
  | 0 => .int
  | 1 => .int
  | 2 => .array .int
  | 3 => .int
  | 4 => .int
  | 5 => .int
  | 6 => .int
  | 7 => .int
  | 8 => .int
  | 9 => .int
  | _ => .boolean
def dT11 : u_T := fun k => match k with
  | 0 => ("RetentionArchiveLaw$Draws", "cells", "[I", true)
  | _ => ("RetentionArchiveLaw$Draws", "at", "I", false)
def dY11 : Nat → FieldType := fun k => match k with
  | 0 => .array .int
  | _ => .int
def dT12 : u_T := fun k => match k with
  | 0 => ("RetentionArchiveLaw$World", "text", "Ljava/lang/StringBuilder;", true)
  | 1 => ("RetentionArchiveLaw$World", "shelves", "I", true)
  | 2 => ("RetentionArchiveLaw$World", "places", "I", true)
  | 3 => ("RetentionArchiveLaw$World", "kinds", "I", true)
  | 4 => ("RetentionArchiveLaw$World", "readers", "I", true)
  | 5 => ("RetentionArchiveLaw$World", "period", "[I", true)
  | 6 => ("RetentionArchiveLaw$World", "closed", "[I", true)
  | 7 => ("RetentionArchiveLaw$World", "limit", "[I", true)
  | 8 => ("RetentionArchiveLaw$World", "ever", "[Z", true)
  | 9 => ("RetentionArchiveLaw$World", "box", "[LRetentionArchiveLaw$Box;", true)
  | 10 => ("RetentionArchiveLaw$World", "list", "[I", true)
  | 11 => ("RetentionArchiveLaw$World", "year", "I", false)
  | 12 => ("RetentionArchiveLaw$World", "boxes", "I", false)
  | _ => ("RetentionArchiveLaw$World", "listed", "I", false)
def dY12 : Nat → FieldType := fun k => match k with
  | 0 => .object "java/lang/StringBuilder"
  | 1 => .int
  | 2 => .int
  | 3 => .int
  | 4 => .int
  | 5 => .array .int
  | 6 => .array .int
  | 7 => .array .int
  | 8 => .array .boolean
  | 9 => .array (.object "RetentionArchiveLaw$Box")
  | 10 => .array .int
  | 11 => .int
  | 12 => .int
  | _ => .int
def dNf (c : Nat) : Nat := (bif Nat.ble c 5 then (bif Nat.ble c 2 then (bif Nat.ble c 0 then 4 else (bif Nat.ble c 1 then 4 else 17)) else (bif Nat.ble c 3 then 3 else (bif Nat.ble c 4 then 7 else 5))) else (bif Nat.ble c 8 then (bif Nat.ble c 6 then 3 else (bif Nat.ble c 7 then 5 else 2)) else (bif Nat.ble c 10 then (bif Nat.ble c 9 then 7 else 11) else (bif Nat.ble c 11 then 2 else 14))))
def dTy (c : Nat) : Nat → FieldType := (bif Nat.ble c 5 then (bif Nat.ble c 2 then (bif Nat.ble c 0 then dY0 else (bif Nat.ble c 1 then dY1 else dY2)) else (bif Nat.ble c 3 then dY3 else (bif Nat.ble c 4 then dY4 else dY5))) else (bif Nat.ble c 8 then (bif Nat.ble c 6 then dY6 else (bif Nat.ble c 7 then dY7 else dY8)) else (bif Nat.ble c 10 then (bif Nat.ble c 9 then dY9 else dY10) else (bif Nat.ble c 11 then dY11 else dY12))))
def dDef (c k : Nat) : Value := defaultValue (dTy c k)
abbrev dCl : List vw_C := [("java/lang/String", dT0, 4), ("java/lang/StringBuilder", dT1, 4), ("RetentionArchive$Archive", dT2, 17), ("RetentionArchive$History", dT3, 3), ("RetentionArchive$Input", dT4, 7), ("RetentionArchive$Parser", dT5, 5), ("RetentionArchive$Readers", dT6, 3), ("RetentionArchive$RecordClasses", dT7, 5), ("RetentionArchive$Slots", dT8, 2), ("RetentionArchive", dT9, 7), ("RetentionArchiveLaw$Box", dT10, 11), ("RetentionArchiveLaw$Draws", dT11, 2), ("RetentionArchiveLaw$World", dT12, 14)]
