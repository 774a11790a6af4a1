/-! The classes whose objects the law makes: their fields (printed by wip/gen/gen.py out of the claim's words). -/
def nd_T0 : u_T := fun k => match k with
  | 0 => ("PaperParcels", "text", "LPaperParcels$Row;", true)
  | 1 => ("PaperParcels", "slots", "[LPaperParcels$Paper;", true)
  | 2 => ("PaperParcels", "reader", "LPaperParcels$Reader;", true)
  | 3 => ("PaperParcels", "script", "LPaperParcels$Script;", true)
  | _ => ("PaperParcels", "emitter", "LPaperParcels$Emitter;", true)
def nd_y0 : Nat → FieldType := fun k => match k with
  | 0 => .object "PaperParcels$Row"
  | 1 => .array (.object "PaperParcels$Paper")
  | 2 => .object "PaperParcels$Reader"
  | 3 => .object "PaperParcels$Script"
  | _ => .object "PaperParcels$Emitter"
theorem nd_w0 : ∀ w ∈ u_ws "PaperParcels" nd_T0 5, w ∈ nm_Ts := nm_wsok [517, 519, 521, 523, 525] (by decide +kernel)
theorem nd_p0 : ∀ j, j < 5 → parseFieldDescriptor (nd_T0 j).2.2.1 = some (nd_y0 j) := by decide +kernel
theorem nd_d0 : ∀ a, a < 5 → ∀ b, b < 5 → a ≠ b → (nd_T0 a).2.1 ≠ (nd_T0 b).2.1 := by decide +kernel
def nd_T1 : u_T := fun k => match k with
  | 0 => ("PaperParcels$Row", "cells", "[I", true)
  | 1 => ("PaperParcels$Row", "size", "I", false)
  | _ => ("PaperParcels$Row", "over", "Z", false)
def nd_y1 : Nat → FieldType := fun k => match k with
  | 0 => .array .int
  | 1 => .int
  | _ => .boolean
theorem nd_w1 : ∀ w ∈ u_ws "PaperParcels$Row" nd_T1 3, w ∈ nm_Ts := nm_wsok [168, 170, 172] (by decide +kernel)
theorem nd_p1 : ∀ j, j < 3 → parseFieldDescriptor (nd_T1 j).2.2.1 = some (nd_y1 j) := by decide +kernel
theorem nd_d1 : ∀ a, a < 3 → ∀ b, b < 3 → a ≠ b → (nd_T1 a).2.1 ≠ (nd_T1 b).2.1 := by decide +kernel
def nd_T2 : u_T := fun k => match k with
  | 0 => ("PaperParcels$Paper", "kinds", "[I", true)
  | 1 => ("PaperParcels$Paper", "aboves", "[I", true)
  | 2 => ("PaperParcels$Paper", "looks", "[I", true)
  | 3 => ("PaperParcels$Paper", "starts", "[I", true)
  | 4 => ("PaperParcels$Paper", "sizes", "[I", true)
  | 5 => ("PaperParcels$Paper", "signs", "LPaperParcels$Row;", true)
  | _ => ("PaperParcels$Paper", "count", "I", false)
def nd_y2 : Nat → FieldType := fun k => match k with
  | 0 => .array .int
  | 1 => .array .int
  | 2 => .array .int
  | 3 => .array .int
  | 4 => .array .int
  | 5 => .object "PaperParcels$Row"
  | _ => .int
theorem nd_w2 : ∀ w ∈ u_ws "PaperParcels$Paper" nd_T2 7, w ∈ nm_Ts := nm_wsok [211, 213, 215, 217, 219, 221, 223] (by decide +kernel)
theorem nd_p2 : ∀ j, j < 7 → parseFieldDescriptor (nd_T2 j).2.2.1 = some (nd_y2 j) := by decide +kernel
theorem nd_d2 : ∀ a, a < 7 → ∀ b, b < 7 → a ≠ b → (nd_T2 a).2.1 ≠ (nd_T2 b).2.1 := by decide +kernel
def nd_T3 : u_T := fun k => match k with
  | 0 => ("PaperParcels$Reader", "paper", "LPaperParcels$Paper;", true)
  | 1 => ("PaperParcels$Reader", "faultPlace", "I", false)
  | 2 => ("PaperParcels$Reader", "sheetPart", "LPaperParcels$Part;", true)
  | 3 => ("PaperParcels$Reader", "bodyPart", "LPaperParcels$Part;", true)
  | 4 => ("PaperParcels$Reader", "sheet", "LPaperParcels$Elements;", true)
  | 5 => ("PaperParcels$Reader", "body", "LPaperParcels$Elements;", true)
  | 6 => ("PaperParcels$Reader", "styles", "LPaperParcels$Styles;", true)
  | _ => ("PaperParcels$Reader", "builder", "LPaperParcels$Builder;", true)
def nd_y3 : Nat → FieldType := fun k => match k with
  | 0 => .object "PaperParcels$Paper"
  | 1 => .int
  | 2 => .object "PaperParcels$Part"
  | 3 => .object "PaperParcels$Part"
  | 4 => .object "PaperParcels$Elements"
  | 5 => .object "PaperParcels$Elements"
  | 6 => .object "PaperParcels$Styles"
  | _ => .object "PaperParcels$Builder"
theorem nd_w3 : ∀ w ∈ u_ws "PaperParcels$Reader" nd_T3 8, w ∈ nm_Ts := nm_wsok [385, 387, 389, 391, 393, 395, 397, 399] (by decide +kernel)
theorem nd_p3 : ∀ j, j < 8 → parseFieldDescriptor (nd_T3 j).2.2.1 = some (nd_y3 j) := by decide +kernel
theorem nd_d3 : ∀ a, a < 8 → ∀ b, b < 8 → a ≠ b → (nd_T3 a).2.1 ≠ (nd_T3 b).2.1 := by decide +kernel
def nd_T4 : u_T := fun k => match k with
  | 0 => ("PaperParcels$Part", "name", "I", true)
  | 1 => ("PaperParcels$Part", "content", "LPaperParcels$Row;", true)
  | 2 => ("PaperParcels$Part", "packed", "Z", false)
  | 3 => ("PaperParcels$Part", "dataAt", "I", false)
  | _ => ("PaperParcels$Part", "checkAt", "I", false)
def nd_y4 : Nat → FieldType := fun k => match k with
  | 0 => .int
  | 1 => .object "PaperParcels$Row"
  | 2 => .boolean
  | 3 => .int
  | _ => .int
theorem nd_w4 : ∀ w ∈ u_ws "PaperParcels$Part" nd_T4 5, w ∈ nm_Ts := nm_wsok [248, 250, 252, 254, 256] (by decide +kernel)
theorem nd_p4 : ∀ j, j < 5 → parseFieldDescriptor (nd_T4 j).2.2.1 = some (nd_y4 j) := by decide +kernel
theorem nd_d4 : ∀ a, a < 5 → ∀ b, b < 5 → a ≠ b → (nd_T4 a).2.1 ≠ (nd_T4 b).2.1 := by decide +kernel
def nd_T5 : u_T := fun k => match k with
  | 0 => ("PaperParcels$Elements", "content", "LPaperParcels$Row;", true)
  | 1 => ("PaperParcels$Elements", "kinds", "[I", true)
  | 2 => ("PaperParcels$Elements", "begins", "[I", true)
  | 3 => ("PaperParcels$Elements", "parents", "[I", true)
  | 4 => ("PaperParcels$Elements", "firstAttributes", "[I", true)
  | 5 => ("PaperParcels$Elements", "attributeEnds", "[I", true)
  | 6 => ("PaperParcels$Elements", "count", "I", false)
  | 7 => ("PaperParcels$Elements", "attributePlaces", "[I", true)
  | 8 => ("PaperParcels$Elements", "valueSizes", "[I", true)
  | 9 => ("PaperParcels$Elements", "attributes", "I", false)
  | 10 => ("PaperParcels$Elements", "owners", "[I", true)
  | 11 => ("PaperParcels$Elements", "at", "I", false)
  | 12 => ("PaperParcels$Elements", "open", "I", false)
  | _ => ("PaperParcels$Elements", "depth", "I", false)
def nd_y5 : Nat → FieldType := fun k => match k with
  | 0 => .object "PaperParcels$Row"
  | 1 => .array .int
  | 2 => .array .int
  | 3 => .array .int
  | 4 => .array .int
  | 5 => .array .int
  | 6 => .int
  | 7 => .array .int
  | 8 => .array .int
  | 9 => .int
  | 10 => .array .int
  | 11 => .int
  | 12 => .int
  | _ => .int
theorem nd_w5 : ∀ w ∈ u_ws "PaperParcels$Elements" nd_T5 14, w ∈ nm_Ts := nm_wsok [296, 298, 300, 302, 304, 306, 308, 310, 312, 314, 316, 318, 320, 322] (by decide +kernel)
theorem nd_p5 : ∀ j, j < 14 → parseFieldDescriptor (nd_T5 j).2.2.1 = some (nd_y5 j) := by decide +kernel
theorem nd_d5 : ∀ a, a < 14 → ∀ b, b < 14 → a ≠ b → (nd_T5 a).2.1 ≠ (nd_T5 b).2.1 := by decide +kernel
def nd_T6 : u_T := fun k => match k with
  | 0 => ("PaperParcels$Styles", "sheet", "LPaperParcels$Elements;", true)
  | 1 => ("PaperParcels$Styles", "body", "LPaperParcels$Elements;", true)
  | 2 => ("PaperParcels$Styles", "styleOf", "[I", true)
  | 3 => ("PaperParcels$Styles", "givenB", "[I", true)
  | 4 => ("PaperParcels$Styles", "givenZ", "[I", true)
  | _ => ("PaperParcels$Styles", "givenK", "[I", true)
def nd_y6 : Nat → FieldType := fun k => match k with
  | 0 => .object "PaperParcels$Elements"
  | 1 => .object "PaperParcels$Elements"
  | 2 => .array .int
  | 3 => .array .int
  | 4 => .array .int
  | _ => .array .int
theorem nd_w6 : ∀ w ∈ u_ws "PaperParcels$Styles" nd_T6 6, w ∈ nm_Ts := nm_wsok [337, 339, 341, 343, 345, 347] (by decide +kernel)
theorem nd_p6 : ∀ j, j < 6 → parseFieldDescriptor (nd_T6 j).2.2.1 = some (nd_y6 j) := by decide +kernel
theorem nd_d6 : ∀ a, a < 6 → ∀ b, b < 6 → a ≠ b → (nd_T6 a).2.1 ≠ (nd_T6 b).2.1 := by decide +kernel
def nd_T7 : u_T := fun k => match k with
  | 0 => ("PaperParcels$Builder", "body", "LPaperParcels$Elements;", true)
  | 1 => ("PaperParcels$Builder", "styles", "LPaperParcels$Styles;", true)
  | 2 => ("PaperParcels$Builder", "paper", "LPaperParcels$Paper;", true)
  | 3 => ("PaperParcels$Builder", "elementLooks", "[I", true)
  | 4 => ("PaperParcels$Builder", "elementNodes", "[I", true)
  | _ => ("PaperParcels$Builder", "paragraph", "I", false)
def nd_y7 : Nat → FieldType := fun k => match k with
  | 0 => .object "PaperParcels$Elements"
  | 1 => .object "PaperParcels$Styles"
  | 2 => .object "PaperParcels$Paper"
  | 3 => .array .int
  | 4 => .array .int
  | _ => .int
theorem nd_w7 : ∀ w ∈ u_ws "PaperParcels$Builder" nd_T7 6, w ∈ nm_Ts := nm_wsok [362, 364, 366, 368, 370, 372] (by decide +kernel)
theorem nd_p7 : ∀ j, j < 6 → parseFieldDescriptor (nd_T7 j).2.2.1 = some (nd_y7 j) := by decide +kernel
theorem nd_d7 : ∀ a, a < 6 → ∀ b, b < 6 → a ≠ b → (nd_T7 a).2.1 ≠ (nd_T7 b).2.1 := by decide +kernel
def nd_T8 : u_T := fun k => match k with
  | 0 => ("PaperParcels$Script", "found", "Z", false)
  | 1 => ("PaperParcels$Script", "count", "I", false)
  | 2 => ("PaperParcels$Script", "oldNodes", "[I", true)
  | 3 => ("PaperParcels$Script", "freshNodes", "[I", true)
  | 4 => ("PaperParcels$Script", "insertRows", "[I", true)
  | 5 => ("PaperParcels$Script", "insertPlaces", "[I", true)
  | 6 => ("PaperParcels$Script", "old", "LPaperParcels$Tree;", true)
  | 7 => ("PaperParcels$Script", "fresh", "LPaperParcels$Tree;", true)
  | 8 => ("PaperParcels$Script", "result", "LPaperParcels$Paper;", true)
  | 9 => ("PaperParcels$Script", "costs", "[[I", true)
  | 10 => ("PaperParcels$Script", "rowCosts", "[[I", true)
  | 11 => ("PaperParcels$Script", "fates", "[I", true)
  | 12 => ("PaperParcels$Script", "copies", "[I", true)
  | _ => ("PaperParcels$Script", "applied", "I", false)
def nd_y8 : Nat → FieldType := fun k => match k with
  | 0 => .boolean
  | 1 => .int
  | 2 => .array .int
  | 3 => .array .int
  | 4 => .array .int
  | 5 => .array .int
  | 6 => .object "PaperParcels$Tree"
  | 7 => .object "PaperParcels$Tree"
  | 8 => .object "PaperParcels$Paper"
  | 9 => .array (.array .int)
  | 10 => .array (.array .int)
  | 11 => .array .int
  | 12 => .array .int
  | _ => .int
theorem nd_w8 : ∀ w ∈ u_ws "PaperParcels$Script" nd_T8 14, w ∈ nm_Ts := nm_wsok [455, 457, 459, 461, 463, 465, 467, 469, 471, 473, 475, 477, 479, 481] (by decide +kernel)
theorem nd_p8 : ∀ j, j < 14 → parseFieldDescriptor (nd_T8 j).2.2.1 = some (nd_y8 j) := by decide +kernel
theorem nd_d8 : ∀ a, a < 14 → ∀ b, b < 14 → a ≠ b → (nd_T8 a).2.1 ≠ (nd_T8 b).2.1 := by decide +kernel
def nd_T9 : u_T := fun k => match k with
  | 0 => ("PaperParcels$Tree", "paper", "LPaperParcels$Paper;", true)
  | 1 => ("PaperParcels$Tree", "firsts", "[I", true)
  | 2 => ("PaperParcels$Tree", "nexts", "[I", true)
  | 3 => ("PaperParcels$Tree", "weights", "[I", true)
  | _ => ("PaperParcels$Tree", "rowWeights", "[I", true)
def nd_y9 : Nat → FieldType := fun k => match k with
  | 0 => .object "PaperParcels$Paper"
  | 1 => .array .int
  | 2 => .array .int
  | 3 => .array .int
  | _ => .array .int
theorem nd_w9 : ∀ w ∈ u_ws "PaperParcels$Tree" nd_T9 5, w ∈ nm_Ts := nm_wsok [424, 426, 428, 430, 432] (by decide +kernel)
theorem nd_p9 : ∀ j, j < 5 → parseFieldDescriptor (nd_T9 j).2.2.1 = some (nd_y9 j) := by decide +kernel
theorem nd_d9 : ∀ a, a < 5 → ∀ b, b < 5 → a ≠ b → (nd_T9 a).2.1 ≠ (nd_T9 b).2.1 := by decide +kernel
def nd_T10 : u_T := fun k => match k with
  | 0 => ("PaperParcels$Emitter", "whole", "LPaperParcels$Row;", true)
  | 1 => ("PaperParcels$Emitter", "sheet", "LPaperParcels$Row;", true)
  | 2 => ("PaperParcels$Emitter", "body", "LPaperParcels$Row;", true)
  | 3 => ("PaperParcels$Emitter", "data", "LPaperParcels$Row;", true)
  | 4 => ("PaperParcels$Emitter", "needed", "[I", true)
  | _ => ("PaperParcels$Emitter", "neededCount", "I", false)
def nd_y10 : Nat → FieldType := fun k => match k with
  | 0 => .object "PaperParcels$Row"
  | 1 => .object "PaperParcels$Row"
  | 2 => .object "PaperParcels$Row"
  | 3 => .object "PaperParcels$Row"
  | 4 => .array .int
  | _ => .int
theorem nd_w10 : ∀ w ∈ u_ws "PaperParcels$Emitter" nd_T10 6, w ∈ nm_Ts := nm_wsok [499, 501, 503, 505, 507, 509] (by decide +kernel)
theorem nd_p10 : ∀ j, j < 6 → parseFieldDescriptor (nd_T10 j).2.2.1 = some (nd_y10 j) := by decide +kernel
theorem nd_d10 : ∀ a, a < 6 → ∀ b, b < 6 → a ≠ b → (nd_T10 a).2.1 ≠ (nd_T10 b).2.1 := by decide +kernel
def nd_T11 : u_T := fun k => match k with
  | 0 => ("PaperParcelsModel", "thrown", "I", false)
  | 1 => ("PaperParcelsModel", "text", "[I", true)
  | 2 => ("PaperParcelsModel", "length", "I", false)
  | 3 => ("PaperParcelsModel", "wrongAt", "I", false)
  | 4 => ("PaperParcelsModel", "method", "[I", true)
  | 5 => ("PaperParcelsModel", "dataFrom", "[I", true)
  | 6 => ("PaperParcelsModel", "dataSize", "[I", true)
  | 7 => ("PaperParcelsModel", "content", "[I", true)
  | 8 => ("PaperParcelsModel", "size", "[I", true)
  | 9 => ("PaperParcelsModel", "elements", "[I", true)
  | 10 => ("PaperParcelsModel", "kinds", "[I", true)
  | 11 => ("PaperParcelsModel", "starts", "[I", true)
  | 12 => ("PaperParcelsModel", "around", "[I", true)
  | 13 => ("PaperParcelsModel", "owner", "[I", true)
  | 14 => ("PaperParcelsModel", "pile", "[I", true)
  | 15 => ("PaperParcelsModel", "open", "I", false)
  | 16 => ("PaperParcelsModel", "reached", "I", false)
  | 17 => ("PaperParcelsModel", "right", "Z", false)
  | 18 => ("PaperParcelsModel", "closed", "Z", false)
  | 19 => ("PaperParcelsModel", "named", "[Z", true)
  | 20 => ("PaperParcelsModel", "parent", "[I", true)
  | 21 => ("PaperParcelsModel", "gives", "[I", true)
  | 22 => ("PaperParcelsModel", "count", "[I", true)
  | 23 => ("PaperParcelsModel", "node", "[I", true)
  | 24 => ("PaperParcelsModel", "over", "[I", true)
  | 25 => ("PaperParcelsModel", "looks", "[I", true)
  | 26 => ("PaperParcelsModel", "from", "[I", true)
  | 27 => ("PaperParcelsModel", "many", "[I", true)
  | 28 => ("PaperParcelsModel", "lettersOf", "[I", true)
  | 29 => ("PaperParcelsModel", "letters", "[I", true)
  | 30 => ("PaperParcelsModel", "nodeOf", "[I", true)
  | 31 => ("PaperParcelsModel", "hasScript", "Z", false)
  | 32 => ("PaperParcelsModel", "steps", "I", false)
  | 33 => ("PaperParcelsModel", "olds", "[I", true)
  | 34 => ("PaperParcelsModel", "news", "[I", true)
  | 35 => ("PaperParcelsModel", "rows", "[I", true)
  | 36 => ("PaperParcelsModel", "befores", "[I", true)
  | 37 => ("PaperParcelsModel", "weight", "[I", true)
  | 38 => ("PaperParcelsModel", "cost", "[I", true)
  | 39 => ("PaperParcelsModel", "rowA", "[I", true)
  | 40 => ("PaperParcelsModel", "rowB", "[I", true)
  | 41 => ("PaperParcelsModel", "sizeA", "I", false)
  | 42 => ("PaperParcelsModel", "sizeB", "I", false)
  | 43 => ("PaperParcelsModel", "least", "[I", true)
  | 44 => ("PaperParcelsModel", "pairA", "[I", true)
  | 45 => ("PaperParcelsModel", "pairB", "[I", true)
  | 46 => ("PaperParcelsModel", "nextA", "[I", true)
  | 47 => ("PaperParcelsModel", "nextB", "[I", true)
  | 48 => ("PaperParcelsModel", "gone", "[Z", true)
  | 49 => ("PaperParcelsModel", "changed", "[I", true)
  | 50 => ("PaperParcelsModel", "renamed", "[I", true)
  | 51 => ("PaperParcelsModel", "made", "[I", true)
  | 52 => ("PaperParcelsModel", "madeSize", "[I", true)
  | 53 => ("PaperParcelsModel", "packed", "[I", true)
  | 54 => ("PaperParcelsModel", "packedSize", "[I", true)
  | 55 => ("PaperParcelsModel", "needed", "[I", true)
  | _ => ("PaperParcelsModel", "neededCount", "I", false)
def nd_y11 : Nat → FieldType := fun k => match k with
  | 0 => .int
  | 1 => .array .int
  | 2 => .int
  | 3 => .int
  | 4 => .array .int
  | 5 => .array .int
  | 6 => .array .int
  | 7 => .array .int
  | 8 => .array .int
  | 9 => .array .int
  | 10 => .array .int
  | 11 => .array .int
  | 12 => .array .int
  | 13 => .array .int
  | 14 => .array .int
  | 15 => .int
  | 16 => .int
  | 17 => .boolean
  | 18 => .boolean
  | 19 => .array .boolean
  | 20 => .array .int
  | 21 => .array .int
  | 22 => .array .int
  | 23 => .array .int
  | 24 => .array .int
  | 25 => .array .int
  | 26 => .array .int
  | 27 => .array .int
  | 28 => .array .int
  | 29 => .array .int
  | 30 => .array .int
  | 31 => .boolean
  | 32 => .int
  | 33 => .array .int
  | 34 => .array .int
  | 35 => .array .int
  | 36 => .array .int
  | 37 => .array .int
  | 38 => .array .int
  | 39 => .array .int
  | 40 => .array .int
  | 41 => .int
  | 42 => .int
  | 43 => .array .int
  | 44 => .array .int
  | 45 => .array .int
  | 46 => .array .int
  | 47 => .array .int
  | 48 => .array .boolean
  | 49 => .array .int
  | 50 => .array .int
  | 51 => .array .int
  | 52 => .array .int
  | 53 => .array .int
  | 54 => .array .int
  | 55 => .array .int
  | _ => .int
theorem nd_w11 : ∀ w ∈ u_ws "PaperParcelsModel" nd_T11 57, w ∈ nm_Ts := nm_wsok [1280, 1282, 1284, 1286, 1288, 1290, 1292, 1294, 1296, 1298, 1300, 1302, 1304, 1306, 1308, 1310, 1312, 1314, 1316, 1318, 1320, 1322, 1324, 1326, 1328, 1330, 1332, 1334, 1336, 1338, 1340, 1342, 1344, 1346, 1348, 1350, 1352, 1354, 1356, 1358, 1360, 1362, 1364, 1366, 1368, 1370, 1372, 1374, 1376, 1378, 1380, 1382, 1384, 1386, 1388, 1390, 1392] (by decide +kernel)
theorem nd_p11 : ∀ j, j < 57 → parseFieldDescriptor (nd_T11 j).2.2.1 = some (nd_y11 j) := by decide +kernel
theorem nd_d11 : ∀ a, a < 57 → ∀ b, b < 57 → a ≠ b → (nd_T11 a).2.1 ≠ (nd_T11 b).2.1 := by decide +kernel
def nd_ct : List nm_K := [(("PaperParcels", nd_T0, 5), nd_y0), (("PaperParcels$Row", nd_T1, 3), nd_y1), (("PaperParcels$Paper", nd_T2, 7), nd_y2), (("PaperParcels$Reader", nd_T3, 8), nd_y3), (("PaperParcels$Part", nd_T4, 5), nd_y4), (("PaperParcels$Elements", nd_T5, 14), nd_y5), (("PaperParcels$Styles", nd_T6, 6), nd_y6), (("PaperParcels$Builder", nd_T7, 6), nd_y7), (("PaperParcels$Script", nd_T8, 14), nd_y8), (("PaperParcels$Tree", nd_T9, 5), nd_y9), (("PaperParcels$Emitter", nd_T10, 6), nd_y10), (("PaperParcelsModel", nd_T11, 57), nd_y11)]
abbrev nd_cl : List vw_C := nd_ct.map (fun q => q.1)
theorem nd_cok : ∀ q ∈ nd_ct, nm_cok q := List.forall_mem_cons.mpr ⟨⟨nd_w0, nd_p0, nd_d0⟩, List.forall_mem_cons.mpr ⟨⟨nd_w1, nd_p1, nd_d1⟩, List.forall_mem_cons.mpr ⟨⟨nd_w2, nd_p2, nd_d2⟩, List.forall_mem_cons.mpr ⟨⟨nd_w3, nd_p3, nd_d3⟩, List.forall_mem_cons.mpr ⟨⟨nd_w4, nd_p4, nd_d4⟩, List.forall_mem_cons.mpr ⟨⟨nd_w5, nd_p5, nd_d5⟩, List.forall_mem_cons.mpr ⟨⟨nd_w6, nd_p6, nd_d6⟩, List.forall_mem_cons.mpr ⟨⟨nd_w7, nd_p7, nd_d7⟩, List.forall_mem_cons.mpr ⟨⟨nd_w8, nd_p8, nd_d8⟩, List.forall_mem_cons.mpr ⟨⟨nd_w9, nd_p9, nd_d9⟩, List.forall_mem_cons.mpr ⟨⟨nd_w10, nd_p10, nd_d10⟩, List.forall_mem_cons.mpr ⟨⟨nd_w11, nd_p11, nd_d11⟩, fun _ h => absurd h List.not_mem_nil⟩⟩⟩⟩⟩⟩⟩⟩⟩⟩⟩⟩
