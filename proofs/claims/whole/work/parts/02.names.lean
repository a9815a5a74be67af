-- printed by wip/whole/names.py: classes, fields, words of the tables
def ob_R0 : String := "OrbitBox"
def ob_T0 : u_T := fun k => match k with
  | 0 => ("OrbitBox", "tape", "LOrbitBox$Row;", true)
  | 1 => ("OrbitBox", "memory", "LOrbitBox$Row;", true)
  | 2 => ("OrbitBox", "receiver", "LOrbitBox$Receiver;", true)
  | 3 => ("OrbitBox", "gate", "LOrbitBox$Gate;", true)
  | 4 => ("OrbitBox", "timetable", "LOrbitBox$Timetable;", true)
  | 5 => ("OrbitBox", "events", "LOrbitBox$Events;", true)
  | 6 => ("OrbitBox", "limits", "LOrbitBox$Table;", true)
  | 7 => ("OrbitBox", "downlink", "LOrbitBox$Downlink;", true)
  | 8 => ("OrbitBox", "reports", "LOrbitBox$Reports;", true)
  | 9 => ("OrbitBox", "craft", "LOrbitBox$Craft;", true)
  | _ => ("OrbitBox", "handler", "LOrbitBox$Handler;", true)
def ob_y0 : Nat → FieldType := fun k => match k with
  | 0 => .object "OrbitBox$Row"
  | 1 => .object "OrbitBox$Row"
  | 2 => .object "OrbitBox$Receiver"
  | 3 => .object "OrbitBox$Gate"
  | 4 => .object "OrbitBox$Timetable"
  | 5 => .object "OrbitBox$Events"
  | 6 => .object "OrbitBox$Table"
  | 7 => .object "OrbitBox$Downlink"
  | 8 => .object "OrbitBox$Reports"
  | 9 => .object "OrbitBox$Craft"
  | _ => .object "OrbitBox$Handler"
def ob_t0 : Nat → Nat := fun k => match k with
  | 0 => 4
  | 1 => 4
  | 2 => 6
  | 3 => 7
  | 4 => 8
  | 5 => 9
  | 6 => 10
  | 7 => 12
  | 8 => 11
  | 9 => 13
  | 10 => 14
  | _ => 0
def ob_R1 : String := "OrbitBox$Row"
def ob_T1 : u_T := fun k => match k with
  | 0 => ("OrbitBox$Row", "bytes", "[I", true)
  | _ => ("OrbitBox$Row", "length", "I", false)
def ob_y1 : Nat → FieldType := fun k => match k with
  | 0 => .array (.int)
  | _ => .int
def ob_t1 : Nat → Nat := fun k => match k with
  | 0 => 22
  | _ => 0
def ob_R2 : String := "OrbitBox$Ring"
def ob_T2 : u_T := fun k => match k with
  | 0 => ("OrbitBox$Ring", "cells", "[I", true)
  | 1 => ("OrbitBox$Ring", "head", "I", false)
  | _ => ("OrbitBox$Ring", "size", "I", false)
def ob_y2 : Nat → FieldType := fun k => match k with
  | 0 => .array (.int)
  | 1 => .int
  | _ => .int
def ob_t2 : Nat → Nat := fun k => match k with
  | 0 => 22
  | _ => 0
def ob_R3 : String := "OrbitBox$Receiver"
def ob_T3 : u_T := fun k => match k with
  | 0 => ("OrbitBox$Receiver", "candidate", "LOrbitBox$Row;", true)
  | 1 => ("OrbitBox$Receiver", "collects", "Z", false)
  | 2 => ("OrbitBox$Receiver", "window", "I", false)
  | 3 => ("OrbitBox$Receiver", "bits", "I", false)
  | 4 => ("OrbitBox$Receiver", "block", "J", false)
  | 5 => ("OrbitBox$Receiver", "remainder", "I", false)
  | _ => ("OrbitBox$Receiver", "putRight", "I", false)
def ob_y3 : Nat → FieldType := fun k => match k with
  | 0 => .object "OrbitBox$Row"
  | 1 => .boolean
  | 2 => .int
  | 3 => .int
  | 4 => .long
  | 5 => .int
  | _ => .int
def ob_t3 : Nat → Nat := fun k => match k with
  | 0 => 4
  | 4 => 1
  | _ => 0
def ob_R4 : String := "OrbitBox$Gate"
def ob_T4 : u_T := fun k => match k with
  | 0 => ("OrbitBox$Gate", "queue", "[LOrbitBox$Row;", true)
  | 1 => ("OrbitBox$Gate", "first", "I", false)
  | 2 => ("OrbitBox$Gate", "queued", "I", false)
  | 3 => ("OrbitBox$Gate", "status", "I", false)
  | 4 => ("OrbitBox$Gate", "next", "I", false)
  | 5 => ("OrbitBox$Gate", "waits", "Z", false)
  | 6 => ("OrbitBox$Gate", "again", "Z", false)
  | 7 => ("OrbitBox$Gate", "beside", "I", false)
  | 8 => ("OrbitBox$Gate", "refused", "I", false)
  | _ => ("OrbitBox$Gate", "accepted", "I", false)
def ob_y4 : Nat → FieldType := fun k => match k with
  | 0 => .array (.object "OrbitBox$Row")
  | 1 => .int
  | 2 => .int
  | 3 => .int
  | 4 => .int
  | 5 => .boolean
  | 6 => .boolean
  | 7 => .int
  | 8 => .int
  | _ => .int
def ob_t4 : Nat → Nat := fun k => match k with
  | 0 => 26
  | _ => 0
def ob_R5 : String := "OrbitBox$Timetable"
def ob_T5 : u_T := fun k => match k with
  | 0 => ("OrbitBox$Timetable", "times", "[I", true)
  | 1 => ("OrbitBox$Timetable", "commands", "[LOrbitBox$Row;", true)
  | 2 => ("OrbitBox$Timetable", "size", "I", false)
  | _ => ("OrbitBox$Timetable", "on", "Z", false)
def ob_y5 : Nat → FieldType := fun k => match k with
  | 0 => .array (.int)
  | 1 => .array (.object "OrbitBox$Row")
  | 2 => .int
  | _ => .boolean
def ob_t5 : Nat → Nat := fun k => match k with
  | 0 => 22
  | 1 => 26
  | _ => 0
def ob_R6 : String := "OrbitBox$Events"
def ob_T6 : u_T := fun k => match k with
  | 0 => ("OrbitBox$Events", "raised", "LOrbitBox$Ring;", true)
  | 1 => ("OrbitBox$Events", "silent", "[Z", true)
  | 2 => ("OrbitBox$Events", "hasAction", "[Z", true)
  | 3 => ("OrbitBox$Events", "actionOn", "[Z", true)
  | 4 => ("OrbitBox$Events", "actions", "[LOrbitBox$Row;", true)
  | _ => ("OrbitBox$Events", "lost", "I", false)
def ob_y6 : Nat → FieldType := fun k => match k with
  | 0 => .object "OrbitBox$Ring"
  | 1 => .array (.boolean)
  | 2 => .array (.boolean)
  | 3 => .array (.boolean)
  | 4 => .array (.object "OrbitBox$Row")
  | _ => .int
def ob_t6 : Nat → Nat := fun k => match k with
  | 0 => 5
  | 1 => 24
  | 2 => 24
  | 3 => 24
  | 4 => 26
  | _ => 0
def ob_R7 : String := "OrbitBox$Table"
def ob_T7 : u_T := fun k => match k with
  | 0 => ("OrbitBox$Table", "most", "I", true)
  | 1 => ("OrbitBox$Table", "width", "I", true)
  | 2 => ("OrbitBox$Table", "cells", "[I", true)
  | _ => ("OrbitBox$Table", "size", "I", false)
def ob_y7 : Nat → FieldType := fun k => match k with
  | 0 => .int
  | 1 => .int
  | 2 => .array (.int)
  | _ => .int
def ob_t7 : Nat → Nat := fun k => match k with
  | 2 => 22
  | _ => 0
def ob_R8 : String := "OrbitBox$Reports"
def ob_T8 : u_T := fun k => match k with
  | 0 => ("OrbitBox$Reports", "live", "LOrbitBox$Ring;", true)
  | 1 => ("OrbitBox$Reports", "store", "LOrbitBox$Ring;", true)
  | 2 => ("OrbitBox$Reports", "packet", "LOrbitBox$Row;", true)
  | 3 => ("OrbitBox$Reports", "stored", "[Z", true)
  | 4 => ("OrbitBox$Reports", "made", "[I", true)
  | 5 => ("OrbitBox$Reports", "madeInAll", "I", false)
  | 6 => ("OrbitBox$Reports", "lost", "I", false)
  | 7 => ("OrbitBox$Reports", "packets", "I", false)
  | 8 => ("OrbitBox$Reports", "retrieving", "Z", false)
  | 9 => ("OrbitBox$Reports", "retrieveFrom", "I", false)
  | 10 => ("OrbitBox$Reports", "retrieveTo", "I", false)
  | _ => ("OrbitBox$Reports", "retrieveNext", "I", false)
def ob_y8 : Nat → FieldType := fun k => match k with
  | 0 => .object "OrbitBox$Ring"
  | 1 => .object "OrbitBox$Ring"
  | 2 => .object "OrbitBox$Row"
  | 3 => .array (.boolean)
  | 4 => .array (.int)
  | 5 => .int
  | 6 => .int
  | 7 => .int
  | 8 => .boolean
  | 9 => .int
  | 10 => .int
  | _ => .int
def ob_t8 : Nat → Nat := fun k => match k with
  | 0 => 5
  | 1 => 5
  | 2 => 4
  | 3 => 24
  | 4 => 22
  | _ => 0
def ob_R9 : String := "OrbitBox$Downlink"
def ob_T9 : u_T := fun k => match k with
  | 0 => ("OrbitBox$Downlink", "live", "LOrbitBox$Ring;", true)
  | 1 => ("OrbitBox$Downlink", "replay", "LOrbitBox$Ring;", true)
  | 2 => ("OrbitBox$Downlink", "frames", "[LOrbitBox$Row;", true)
  | 3 => ("OrbitBox$Downlink", "frameLength", "I", true)
  | 4 => ("OrbitBox$Downlink", "sentOf", "[I", true)
  | 5 => ("OrbitBox$Downlink", "sentInAll", "I", false)
  | _ => ("OrbitBox$Downlink", "sent", "I", false)
def ob_y9 : Nat → FieldType := fun k => match k with
  | 0 => .object "OrbitBox$Ring"
  | 1 => .object "OrbitBox$Ring"
  | 2 => .array (.object "OrbitBox$Row")
  | 3 => .int
  | 4 => .array (.int)
  | 5 => .int
  | _ => .int
def ob_t9 : Nat → Nat := fun k => match k with
  | 0 => 5
  | 1 => 5
  | 2 => 26
  | 4 => 22
  | _ => 0
def ob_R10 : String := "OrbitBox$Craft"
def ob_T10 : u_T := fun k => match k with
  | 0 => ("OrbitBox$Craft", "patience", "I", true)
  | 1 => ("OrbitBox$Craft", "receiver", "LOrbitBox$Receiver;", true)
  | 2 => ("OrbitBox$Craft", "gate", "LOrbitBox$Gate;", true)
  | 3 => ("OrbitBox$Craft", "timetable", "LOrbitBox$Timetable;", true)
  | 4 => ("OrbitBox$Craft", "events", "LOrbitBox$Events;", true)
  | 5 => ("OrbitBox$Craft", "reports", "LOrbitBox$Reports;", true)
  | 6 => ("OrbitBox$Craft", "wires", "[I", true)
  | 7 => ("OrbitBox$Craft", "mode", "I", false)
  | 8 => ("OrbitBox$Craft", "clock", "I", false)
  | 9 => ("OrbitBox$Craft", "alarm", "I", false)
  | 10 => ("OrbitBox$Craft", "handled", "I", false)
  | 11 => ("OrbitBox$Craft", "failed", "I", false)
  | _ => ("OrbitBox$Craft", "broken", "I", false)
def ob_y10 : Nat → FieldType := fun k => match k with
  | 0 => .int
  | 1 => .object "OrbitBox$Receiver"
  | 2 => .object "OrbitBox$Gate"
  | 3 => .object "OrbitBox$Timetable"
  | 4 => .object "OrbitBox$Events"
  | 5 => .object "OrbitBox$Reports"
  | 6 => .array (.int)
  | 7 => .int
  | 8 => .int
  | 9 => .int
  | 10 => .int
  | 11 => .int
  | _ => .int
def ob_t10 : Nat → Nat := fun k => match k with
  | 1 => 6
  | 2 => 7
  | 3 => 8
  | 4 => 9
  | 5 => 11
  | 6 => 22
  | _ => 0
def ob_R11 : String := "OrbitBox$Handler"
def ob_T11 : u_T := fun k => match k with
  | 0 => ("OrbitBox$Handler", "craft", "LOrbitBox$Craft;", true)
  | 1 => ("OrbitBox$Handler", "gate", "LOrbitBox$Gate;", true)
  | 2 => ("OrbitBox$Handler", "timetable", "LOrbitBox$Timetable;", true)
  | 3 => ("OrbitBox$Handler", "events", "LOrbitBox$Events;", true)
  | 4 => ("OrbitBox$Handler", "reports", "LOrbitBox$Reports;", true)
  | 5 => ("OrbitBox$Handler", "forms", "LOrbitBox$Table;", true)
  | 6 => ("OrbitBox$Handler", "limits", "LOrbitBox$Table;", true)
  | 7 => ("OrbitBox$Handler", "memory", "LOrbitBox$Row;", true)
  | _ => ("OrbitBox$Handler", "command", "LOrbitBox$Row;", true)
def ob_y11 : Nat → FieldType := fun k => match k with
  | 0 => .object "OrbitBox$Craft"
  | 1 => .object "OrbitBox$Gate"
  | 2 => .object "OrbitBox$Timetable"
  | 3 => .object "OrbitBox$Events"
  | 4 => .object "OrbitBox$Reports"
  | 5 => .object "OrbitBox$Table"
  | 6 => .object "OrbitBox$Table"
  | 7 => .object "OrbitBox$Row"
  | _ => .object "OrbitBox$Row"
def ob_t11 : Nat → Nat := fun k => match k with
  | 0 => 13
  | 1 => 7
  | 2 => 8
  | 3 => 9
  | 4 => 11
  | 5 => 10
  | 6 => 10
  | 7 => 4
  | 8 => 4
  | _ => 0
def ob_R12 : String := "OrbitBoxModel"
def ob_T12 : u_T := fun k => match k with
  | 0 => ("OrbitBoxModel", "entriesMost", "I", true)
  | 1 => ("OrbitBoxModel", "frameLength", "I", true)
  | 2 => ("OrbitBoxModel", "framesMost", "I", true)
  | 3 => ("OrbitBoxModel", "patience", "I", true)
  | 4 => ("OrbitBoxModel", "storeMost", "I", true)
  | 5 => ("OrbitBoxModel", "thrownCode", "I", false)
  | 6 => ("OrbitBoxModel", "tape", "[B", true)
  | 7 => ("OrbitBoxModel", "taped", "I", false)
  | 8 => ("OrbitBoxModel", "collects", "Z", false)
  | 9 => ("OrbitBoxModel", "searched", "I", false)
  | 10 => ("OrbitBoxModel", "latest", "I", false)
  | 11 => ("OrbitBoxModel", "block", "[Z", true)
  | 12 => ("OrbitBoxModel", "blockBits", "I", false)
  | 13 => ("OrbitBoxModel", "candidate", "[B", true)
  | 14 => ("OrbitBoxModel", "candidateBytes", "I", false)
  | 15 => ("OrbitBoxModel", "putRight", "I", false)
  | 16 => ("OrbitBoxModel", "refused", "I", false)
  | 17 => ("OrbitBoxModel", "accepted", "I", false)
  | 18 => ("OrbitBoxModel", "rest", "[Z", true)
  | 19 => ("OrbitBoxModel", "gate", "I", false)
  | 20 => ("OrbitBoxModel", "next", "I", false)
  | 21 => ("OrbitBoxModel", "beside", "I", false)
  | 22 => ("OrbitBoxModel", "waits", "Z", false)
  | 23 => ("OrbitBoxModel", "again", "Z", false)
  | 24 => ("OrbitBoxModel", "queue", "[B", true)
  | 25 => ("OrbitBoxModel", "queueBytes", "[I", true)
  | 26 => ("OrbitBoxModel", "queued", "I", false)
  | 27 => ("OrbitBoxModel", "command", "[B", true)
  | 28 => ("OrbitBoxModel", "commandBytes", "I", false)
  | 29 => ("OrbitBoxModel", "handled", "I", false)
  | 30 => ("OrbitBoxModel", "failed", "I", false)
  | 31 => ("OrbitBoxModel", "formThere", "[Z", true)
  | 32 => ("OrbitBoxModel", "formOn", "[Z", true)
  | 33 => ("OrbitBoxModel", "formEvery", "[I", true)
  | 34 => ("OrbitBoxModel", "formSize", "[I", true)
  | 35 => ("OrbitBoxModel", "formIs", "[I", true)
  | 36 => ("OrbitBoxModel", "forms", "I", false)
  | 37 => ("OrbitBoxModel", "memory", "[B", true)
  | 38 => ("OrbitBoxModel", "sensor", "[I", true)
  | 39 => ("OrbitBoxModel", "actuator", "[I", true)
  | 40 => ("OrbitBoxModel", "mode", "I", false)
  | 41 => ("OrbitBoxModel", "clock", "I", false)
  | 42 => ("OrbitBoxModel", "entryTime", "[I", true)
  | 43 => ("OrbitBoxModel", "entryBytes", "[I", true)
  | 44 => ("OrbitBoxModel", "entryCommand", "[B", true)
  | 45 => ("OrbitBoxModel", "entries", "I", false)
  | 46 => ("OrbitBoxModel", "tableOn", "Z", false)
  | 47 => ("OrbitBoxModel", "limitThere", "[Z", true)
  | 48 => ("OrbitBoxModel", "limitOn", "[Z", true)
  | 49 => ("OrbitBoxModel", "limitOf", "[I", true)
  | 50 => ("OrbitBoxModel", "limitTimes", "[I", true)
  | 51 => ("OrbitBoxModel", "limitLow", "[I", true)
  | 52 => ("OrbitBoxModel", "limitHigh", "[I", true)
  | 53 => ("OrbitBoxModel", "limitEvent", "[I", true)
  | 54 => ("OrbitBoxModel", "limitLink", "[I", true)
  | 55 => ("OrbitBoxModel", "limitCount", "[I", true)
  | 56 => ("OrbitBoxModel", "limits", "I", false)
  | 57 => ("OrbitBoxModel", "broken", "I", false)
  | 58 => ("OrbitBoxModel", "alarm", "I", false)
  | 59 => ("OrbitBoxModel", "alarmed", "Z", false)
  | 60 => ("OrbitBoxModel", "told", "[Z", true)
  | 61 => ("OrbitBoxModel", "actionThere", "[Z", true)
  | 62 => ("OrbitBoxModel", "actionOn", "[Z", true)
  | 63 => ("OrbitBoxModel", "actionCommand", "[B", true)
  | 64 => ("OrbitBoxModel", "actionBytes", "[I", true)
  | 65 => ("OrbitBoxModel", "raisedEvent", "[I", true)
  | 66 => ("OrbitBoxModel", "raisedWith", "[I", true)
  | 67 => ("OrbitBoxModel", "raised", "I", false)
  | 68 => ("OrbitBoxModel", "eventsLost", "I", false)
  | 69 => ("OrbitBoxModel", "packet", "[B", true)
  | 70 => ("OrbitBoxModel", "packetBytes", "I", false)
  | 71 => ("OrbitBoxModel", "reports", "I", false)
  | 72 => ("OrbitBoxModel", "reportsLost", "I", false)
  | 73 => ("OrbitBoxModel", "reportsOf", "[I", true)
  | 74 => ("OrbitBoxModel", "stored", "[Z", true)
  | 75 => ("OrbitBoxModel", "store", "[B", true)
  | 76 => ("OrbitBoxModel", "keptBytes", "[I", true)
  | 77 => ("OrbitBoxModel", "keptTime", "[I", true)
  | 78 => ("OrbitBoxModel", "kept", "I", false)
  | 79 => ("OrbitBoxModel", "storeBytes", "I", false)
  | 80 => ("OrbitBoxModel", "retrieving", "Z", false)
  | 81 => ("OrbitBoxModel", "from", "I", false)
  | 82 => ("OrbitBoxModel", "to", "I", false)
  | 83 => ("OrbitBoxModel", "reached", "I", false)
  | 84 => ("OrbitBoxModel", "row", "[[B", true)
  | 85 => ("OrbitBoxModel", "begins", "[[Z", true)
  | 86 => ("OrbitBoxModel", "wait", "[I", true)
  | 87 => ("OrbitBoxModel", "frames", "[B", true)
  | 88 => ("OrbitBoxModel", "framesThere", "I", false)
  | 89 => ("OrbitBoxModel", "framesBefore", "I", false)
  | _ => ("OrbitBoxModel", "framesOf", "[I", true)
def ob_y12 : Nat → FieldType := fun k => match k with
  | 0 => .int
  | 1 => .int
  | 2 => .int
  | 3 => .int
  | 4 => .int
  | 5 => .int
  | 6 => .array (.byte)
  | 7 => .int
  | 8 => .boolean
  | 9 => .int
  | 10 => .int
  | 11 => .array (.boolean)
  | 12 => .int
  | 13 => .array (.byte)
  | 14 => .int
  | 15 => .int
  | 16 => .int
  | 17 => .int
  | 18 => .array (.boolean)
  | 19 => .int
  | 20 => .int
  | 21 => .int
  | 22 => .boolean
  | 23 => .boolean
  | 24 => .array (.byte)
  | 25 => .array (.int)
  | 26 => .int
  | 27 => .array (.byte)
  | 28 => .int
  | 29 => .int
  | 30 => .int
  | 31 => .array (.boolean)
  | 32 => .array (.boolean)
  | 33 => .array (.int)
  | 34 => .array (.int)
  | 35 => .array (.int)
  | 36 => .int
  | 37 => .array (.byte)
  | 38 => .array (.int)
  | 39 => .array (.int)
  | 40 => .int
  | 41 => .int
  | 42 => .array (.int)
  | 43 => .array (.int)
  | 44 => .array (.byte)
  | 45 => .int
  | 46 => .boolean
  | 47 => .array (.boolean)
  | 48 => .array (.boolean)
  | 49 => .array (.int)
  | 50 => .array (.int)
  | 51 => .array (.int)
  | 52 => .array (.int)
  | 53 => .array (.int)
  | 54 => .array (.int)
  | 55 => .array (.int)
  | 56 => .int
  | 57 => .int
  | 58 => .int
  | 59 => .boolean
  | 60 => .array (.boolean)
  | 61 => .array (.boolean)
  | 62 => .array (.boolean)
  | 63 => .array (.byte)
  | 64 => .array (.int)
  | 65 => .array (.int)
  | 66 => .array (.int)
  | 67 => .int
  | 68 => .int
  | 69 => .array (.byte)
  | 70 => .int
  | 71 => .int
  | 72 => .int
  | 73 => .array (.int)
  | 74 => .array (.boolean)
  | 75 => .array (.byte)
  | 76 => .array (.int)
  | 77 => .array (.int)
  | 78 => .int
  | 79 => .int
  | 80 => .boolean
  | 81 => .int
  | 82 => .int
  | 83 => .int
  | 84 => .array (.array (.byte))
  | 85 => .array (.array (.boolean))
  | 86 => .array (.int)
  | 87 => .array (.byte)
  | 88 => .int
  | 89 => .int
  | _ => .array (.int)
def ob_t12 : Nat → Nat := fun k => match k with
  | 6 => 23
  | 11 => 24
  | 13 => 23
  | 18 => 24
  | 24 => 23
  | 25 => 22
  | 27 => 23
  | 31 => 24
  | 32 => 24
  | 33 => 22
  | 34 => 22
  | 35 => 22
  | 37 => 23
  | 38 => 22
  | 39 => 22
  | 42 => 22
  | 43 => 22
  | 44 => 23
  | 47 => 24
  | 48 => 24
  | 49 => 22
  | 50 => 22
  | 51 => 22
  | 52 => 22
  | 53 => 22
  | 54 => 22
  | 55 => 22
  | 60 => 24
  | 61 => 24
  | 62 => 24
  | 63 => 23
  | 64 => 22
  | 65 => 22
  | 66 => 22
  | 69 => 23
  | 73 => 22
  | 74 => 24
  | 75 => 23
  | 76 => 22
  | 77 => 22
  | 84 => 27
  | 85 => 28
  | 86 => 22
  | 87 => 23
  | 90 => 22
  | _ => 0
def ob_cl : List vw_C := [(ob_R0, ob_T0, 11), (ob_R1, ob_T1, 2), (ob_R2, ob_T2, 3), (ob_R3, ob_T3, 7), (ob_R4, ob_T4, 10), (ob_R5, ob_T5, 4), (ob_R6, ob_T6, 6), (ob_R7, ob_T7, 4), (ob_R8, ob_T8, 12), (ob_R9, ob_T9, 7), (ob_R10, ob_T10, 13), (ob_R11, ob_T11, 9), (ob_R12, ob_T12, 91)]
def ob_ty (ki k : Nat) : Nat := match ki with
  | 1 => ob_t0 k
  | 2 => ob_t1 k
  | 3 => ob_t2 k
  | 4 => ob_t3 k
  | 5 => ob_t4 k
  | 6 => ob_t5 k
  | 7 => ob_t6 k
  | 8 => ob_t7 k
  | 9 => ob_t8 k
  | 10 => ob_t9 k
  | 11 => ob_t10 k
  | 12 => ob_t11 k
  | 13 => ob_t12 k
  | 23 => 1
  | 24 => 4
  | 25 => 23
  | 26 => 24
  | _ => 0
def ob_g : List Cond := lw_tbl.filter goodWord
theorem ob_w (i : Nat) {w : Cond} (h : tables_1[i]? = some w) (g : goodWord w = true) : w ∈ ob_g := List.mem_filter.mpr ⟨List.mem_append_right _ (List.mem_of_getElem? h), g⟩
theorem ob_p (i : Nat) {w : Cond} (h : (k2_sels lw_privs)[i]? = some w) (g : goodWord w = true) : w ∈ ob_g := List.mem_filter.mpr ⟨List.mem_append_left _ (List.mem_of_getElem? h), g⟩
theorem ob_uw {C : String} {T : u_T} {N : Nat} (h : (u_ws C T N).all (fun w => decide (w ∈ tables_1) && goodWord w) = true) : ∀ w ∈ u_ws C T N, w ∈ ob_g := fun w hw => by
  have h1 := List.all_eq_true.mp h w hw
  simp only [Bool.and_eq_true, decide_eq_true_eq] at h1
  exact List.mem_filter.mpr ⟨List.mem_append_right _ h1.1, h1.2⟩
theorem ob_n0 : ∀ a, a < 11 → ∀ b, b < 11 → a ≠ b → (ob_T0 a).2.1 ≠ (ob_T0 b).2.1 := by decide +kernel
theorem ob_h0 : ∀ k, k < 11 → parseFieldDescriptor (ob_T0 k).2.2.1 = some (ob_y0 k) := by decide +kernel
theorem ob_i0 : ∀ w ∈ u_ws ob_R0 ob_T0 11, w ∈ ob_g := ob_uw (by decide +kernel)
theorem ob_n1 : ∀ a, a < 2 → ∀ b, b < 2 → a ≠ b → (ob_T1 a).2.1 ≠ (ob_T1 b).2.1 := by decide +kernel
theorem ob_h1 : ∀ k, k < 2 → parseFieldDescriptor (ob_T1 k).2.2.1 = some (ob_y1 k) := by decide +kernel
theorem ob_i1 : ∀ w ∈ u_ws ob_R1 ob_T1 2, w ∈ ob_g := ob_uw (by decide +kernel)
theorem ob_n2 : ∀ a, a < 3 → ∀ b, b < 3 → a ≠ b → (ob_T2 a).2.1 ≠ (ob_T2 b).2.1 := by decide +kernel
theorem ob_h2 : ∀ k, k < 3 → parseFieldDescriptor (ob_T2 k).2.2.1 = some (ob_y2 k) := by decide +kernel
theorem ob_i2 : ∀ w ∈ u_ws ob_R2 ob_T2 3, w ∈ ob_g := ob_uw (by decide +kernel)
theorem ob_n3 : ∀ a, a < 7 → ∀ b, b < 7 → a ≠ b → (ob_T3 a).2.1 ≠ (ob_T3 b).2.1 := by decide +kernel
theorem ob_h3 : ∀ k, k < 7 → parseFieldDescriptor (ob_T3 k).2.2.1 = some (ob_y3 k) := by decide +kernel
theorem ob_i3 : ∀ w ∈ u_ws ob_R3 ob_T3 7, w ∈ ob_g := ob_uw (by decide +kernel)
theorem ob_n4 : ∀ a, a < 10 → ∀ b, b < 10 → a ≠ b → (ob_T4 a).2.1 ≠ (ob_T4 b).2.1 := by decide +kernel
theorem ob_h4 : ∀ k, k < 10 → parseFieldDescriptor (ob_T4 k).2.2.1 = some (ob_y4 k) := by decide +kernel
theorem ob_i4 : ∀ w ∈ u_ws ob_R4 ob_T4 10, w ∈ ob_g := ob_uw (by decide +kernel)
theorem ob_n5 : ∀ a, a < 4 → ∀ b, b < 4 → a ≠ b → (ob_T5 a).2.1 ≠ (ob_T5 b).2.1 := by decide +kernel
theorem ob_h5 : ∀ k, k < 4 → parseFieldDescriptor (ob_T5 k).2.2.1 = some (ob_y5 k) := by decide +kernel
theorem ob_i5 : ∀ w ∈ u_ws ob_R5 ob_T5 4, w ∈ ob_g := ob_uw (by decide +kernel)
theorem ob_n6 : ∀ a, a < 6 → ∀ b, b < 6 → a ≠ b → (ob_T6 a).2.1 ≠ (ob_T6 b).2.1 := by decide +kernel
theorem ob_h6 : ∀ k, k < 6 → parseFieldDescriptor (ob_T6 k).2.2.1 = some (ob_y6 k) := by decide +kernel
theorem ob_i6 : ∀ w ∈ u_ws ob_R6 ob_T6 6, w ∈ ob_g := ob_uw (by decide +kernel)
theorem ob_n7 : ∀ a, a < 4 → ∀ b, b < 4 → a ≠ b → (ob_T7 a).2.1 ≠ (ob_T7 b).2.1 := by decide +kernel
theorem ob_h7 : ∀ k, k < 4 → parseFieldDescriptor (ob_T7 k).2.2.1 = some (ob_y7 k) := by decide +kernel
theorem ob_i7 : ∀ w ∈ u_ws ob_R7 ob_T7 4, w ∈ ob_g := ob_uw (by decide +kernel)
theorem ob_n8 : ∀ a, a < 12 → ∀ b, b < 12 → a ≠ b → (ob_T8 a).2.1 ≠ (ob_T8 b).2.1 := by decide +kernel
theorem ob_h8 : ∀ k, k < 12 → parseFieldDescriptor (ob_T8 k).2.2.1 = some (ob_y8 k) := by decide +kernel
theorem ob_i8 : ∀ w ∈ u_ws ob_R8 ob_T8 12, w ∈ ob_g := ob_uw (by decide +kernel)
theorem ob_n9 : ∀ a, a < 7 → ∀ b, b < 7 → a ≠ b → (ob_T9 a).2.1 ≠ (ob_T9 b).2.1 := by decide +kernel
theorem ob_h9 : ∀ k, k < 7 → parseFieldDescriptor (ob_T9 k).2.2.1 = some (ob_y9 k) := by decide +kernel
theorem ob_i9 : ∀ w ∈ u_ws ob_R9 ob_T9 7, w ∈ ob_g := ob_uw (by decide +kernel)
theorem ob_n10 : ∀ a, a < 13 → ∀ b, b < 13 → a ≠ b → (ob_T10 a).2.1 ≠ (ob_T10 b).2.1 := by decide +kernel
theorem ob_h10 : ∀ k, k < 13 → parseFieldDescriptor (ob_T10 k).2.2.1 = some (ob_y10 k) := by decide +kernel
theorem ob_i10 : ∀ w ∈ u_ws ob_R10 ob_T10 13, w ∈ ob_g := ob_uw (by decide +kernel)
theorem ob_n11 : ∀ a, a < 9 → ∀ b, b < 9 → a ≠ b → (ob_T11 a).2.1 ≠ (ob_T11 b).2.1 := by decide +kernel
theorem ob_h11 : ∀ k, k < 9 → parseFieldDescriptor (ob_T11 k).2.2.1 = some (ob_y11 k) := by decide +kernel
theorem ob_i11 : ∀ w ∈ u_ws ob_R11 ob_T11 9, w ∈ ob_g := ob_uw (by decide +kernel)
theorem ob_n12 : ∀ a, a < 91 → ∀ b, b < 91 → a ≠ b → (ob_T12 a).2.1 ≠ (ob_T12 b).2.1 := by decide +kernel
theorem ob_h12 : ∀ k, k < 91 → parseFieldDescriptor (ob_T12 k).2.2.1 = some (ob_y12 k) := by decide +kernel
theorem ob_i12 : ∀ w ∈ u_ws ob_R12 ob_T12 91, w ∈ ob_g := ob_uw (by decide +kernel)
def ob_nest : List (String × Nat × String × String × String × String) := [("OrbitBox$Ring", 29, "OrbitBox$Row", "bytes", "[I", "OrbitBox"), ("OrbitBox", 21, "OrbitBox$Row", "length", "I", "OrbitBox"), ("OrbitBox$Receiver", 47, "OrbitBox$Row", "length", "I", "OrbitBox"), ("OrbitBox$Downlink", 48, "OrbitBox$Row", "length", "I", "OrbitBox"), ("OrbitBox$Reports", 38, "OrbitBox$Row", "length", "I", "OrbitBox"), ("OrbitBox$Gate", 45, "OrbitBox$Row", "length", "I", "OrbitBox"), ("OrbitBox$Ring", 20, "OrbitBox$Row", "length", "I", "OrbitBox"), ("OrbitBox$Events", 54, "OrbitBox$Row", "length", "I", "OrbitBox"), ("OrbitBox$Timetable", 40, "OrbitBox$Row", "length", "I", "OrbitBox"), ("OrbitBox$Handler", 140, "OrbitBox$Row", "length", "I", "OrbitBox"), ("OrbitBox", 115, "OrbitBox$Receiver", "candidate", "LOrbitBox$Row;", "OrbitBox"), ("OrbitBox", 213, "OrbitBox$Receiver", "collects", "Z", "OrbitBox"), ("OrbitBox$Craft", 64, "OrbitBox$Receiver", "putRight", "I", "OrbitBox"), ("OrbitBox$Craft", 61, "OrbitBox$Gate", "queued", "I", "OrbitBox"), ("OrbitBox$Craft", 48, "OrbitBox$Gate", "status", "I", "OrbitBox"), ("OrbitBox$Craft", 53, "OrbitBox$Gate", "next", "I", "OrbitBox"), ("OrbitBox$Craft", 69, "OrbitBox$Gate", "refused", "I", "OrbitBox"), ("OrbitBox$Craft", 72, "OrbitBox$Gate", "accepted", "I", "OrbitBox"), ("OrbitBox", 182, "OrbitBox$Timetable", "times", "[I", "OrbitBox"), ("OrbitBox", 188, "OrbitBox$Timetable", "commands", "[LOrbitBox$Row;", "OrbitBox"), ("OrbitBox$Craft", 56, "OrbitBox$Timetable", "size", "I", "OrbitBox"), ("OrbitBox", 179, "OrbitBox$Timetable", "size", "I", "OrbitBox"), ("OrbitBox$Handler", 276, "OrbitBox$Timetable", "size", "I", "OrbitBox"), ("OrbitBox$Handler", 70, "OrbitBox$Timetable", "on", "Z", "OrbitBox"), ("OrbitBox$Reports", 72, "OrbitBox$Ring", "cells", "[I", "OrbitBox"), ("OrbitBox$Downlink", 38, "OrbitBox$Ring", "size", "I", "OrbitBox"), ("OrbitBox$Craft", 93, "OrbitBox$Ring", "size", "I", "OrbitBox"), ("OrbitBox$Events", 37, "OrbitBox$Ring", "size", "I", "OrbitBox"), ("OrbitBox$Handler", 92, "OrbitBox$Ring", "size", "I", "OrbitBox"), ("OrbitBox$Reports", 101, "OrbitBox$Ring", "size", "I", "OrbitBox"), ("OrbitBox", 197, "OrbitBox$Ring", "size", "I", "OrbitBox"), ("OrbitBox$Handler", 88, "OrbitBox$Events", "raised", "LOrbitBox$Ring;", "OrbitBox"), ("OrbitBox$Handler", 323, "OrbitBox$Events", "silent", "[Z", "OrbitBox"), ("OrbitBox$Handler", 243, "OrbitBox$Events", "hasAction", "[Z", "OrbitBox"), ("OrbitBox$Handler", 247, "OrbitBox$Events", "actionOn", "[Z", "OrbitBox"), ("OrbitBox$Handler", 348, "OrbitBox$Events", "actions", "[LOrbitBox$Row;", "OrbitBox"), ("OrbitBox$Craft", 96, "OrbitBox$Events", "lost", "I", "OrbitBox"), ("OrbitBox$Craft", 109, "OrbitBox$Table", "size", "I", "OrbitBox"), ("OrbitBox$Handler", 127, "OrbitBox$Table", "size", "I", "OrbitBox"), ("OrbitBox", 75, "OrbitBox$Downlink", "live", "LOrbitBox$Ring;", "OrbitBox"), ("OrbitBox", 148, "OrbitBox$Downlink", "replay", "LOrbitBox$Ring;", "OrbitBox"), ("OrbitBox", 172, "OrbitBox$Downlink", "frames", "[LOrbitBox$Row;", "OrbitBox"), ("OrbitBox", 166, "OrbitBox$Downlink", "frameLength", "I", "OrbitBox"), ("OrbitBox", 163, "OrbitBox$Downlink", "sent", "I", "OrbitBox"), ("OrbitBox$Craft", 89, "OrbitBox$Reports", "live", "LOrbitBox$Ring;", "OrbitBox"), ("OrbitBox", 207, "OrbitBox$Reports", "store", "LOrbitBox$Ring;", "OrbitBox"), ("OrbitBox$Handler", 345, "OrbitBox$Reports", "stored", "[Z", "OrbitBox"), ("OrbitBox$Craft", 81, "OrbitBox$Reports", "lost", "I", "OrbitBox"), ("OrbitBox$Craft", 86, "OrbitBox$Reports", "packets", "I", "OrbitBox"), ("OrbitBox", 203, "OrbitBox$Reports", "retrieving", "Z", "OrbitBox"), ("OrbitBox$Handler", 215, "OrbitBox$Reports", "retrieving", "Z", "OrbitBox"), ("OrbitBox$Handler", 15, "OrbitBox$Craft", "gate", "LOrbitBox$Gate;", "OrbitBox"), ("OrbitBox$Handler", 22, "OrbitBox$Craft", "timetable", "LOrbitBox$Timetable;", "OrbitBox"), ("OrbitBox$Handler", 27, "OrbitBox$Craft", "events", "LOrbitBox$Events;", "OrbitBox"), ("OrbitBox$Handler", 32, "OrbitBox$Craft", "reports", "LOrbitBox$Reports;", "OrbitBox"), ("OrbitBox", 122, "OrbitBox$Craft", "wires", "[I", "OrbitBox"), ("OrbitBox$Handler", 236, "OrbitBox$Craft", "mode", "I", "OrbitBox"), ("OrbitBox$Handler", 58, "OrbitBox$Craft", "clock", "I", "OrbitBox"), ("OrbitBox", 126, "OrbitBox$Craft", "clock", "I", "OrbitBox"), ("OrbitBox", 200, "OrbitBox$Craft", "alarm", "I", "OrbitBox"), ("OrbitBox$Handler", 137, "OrbitBox$Craft", "handled", "I", "OrbitBox"), ("OrbitBox$Handler", 163, "OrbitBox$Craft", "failed", "I", "OrbitBox")]
def ob_tys (aC : Nat → ClassId) : List (ClassId × FieldType) := [(aC 0, .int), (aC 1, .byte), (aC 2, .boolean), (aC 3, .long), (aC 4, .object "OrbitBox$Row"), (aC 5, .array .byte), (aC 6, .array .boolean)]
def ob_LEN (j : Nat) : Int32 := ([769, -1, 771, 1, 773, 1, 774, 1, 795, 1, 1285, 1, 1286, 1, 1538, -1, 1541, 3, 1545, 4, 2049, 6, 2817, 0, 2818, 0, 2819, 0, 2820, -17, 2821, 2, 2831, 4, 2833, 0, 3073, 1, 3074, 1, 3077, 13, 3078, 1, 3841, 1, 3842, 1, 3849, 8, 3851, 4, 3852, 0, 4353, 0, 4865, -14, 4866, 1, 4868, 1, 4869, 1] : List Int32).getD j 0
def ob_SAF (j : Nat) : Int32 := ([0, 0, 0, 0, 50, 50, 100, 1] : List Int32).getD j 0
