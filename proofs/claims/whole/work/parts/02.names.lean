/-! the classes: fields in the order of their slots (declarer, name, descriptor, final), types; and the layout: which object or array has which number -/
def am_F0 : u_T := fun k => match k with
  | 0 => ("SpentTurns$Day", "rest", "[I", true)
  | 1 => ("SpentTurns$Day", "went", "[I", true)
  | 2 => ("SpentTurns$Day", "done", "I", false)
  | _ => ("SpentTurns$Day", "firstToFail", "I", false)
def am_t0 : Nat → FieldType := fun k => match k with
  | 0 => .array .int
  | 1 => .array .int
  | 2 => .int
  | _ => .int
def am_F1 : u_T := fun k => match k with
  | 0 => ("SpentTurns$Game", "rest", "[I", true)
  | 1 => ("SpentTurns$Game", "balance", "[I", true)
  | 2 => ("SpentTurns$Game", "queue", "[I", true)
  | _ => ("SpentTurns$Game", "seen", "[I", true)
def am_t1 : Nat → FieldType := fun k => match k with
  | 0 => .array .int
  | 1 => .array .int
  | 2 => .array .int
  | _ => .array .int
def am_F2 : u_T := fun k => match k with
  | 0 => ("SpentTurns$Numbers", "numbers", "[J", true)
  | 1 => ("SpentTurns$Numbers", "stands", "Z", false)
  | 2 => ("SpentTurns$Numbers", "width", "I", false)
  | _ => ("SpentTurns$Numbers", "count", "I", false)
def am_t2 : Nat → FieldType := fun k => match k with
  | 0 => .array .long
  | 1 => .boolean
  | 2 => .int
  | _ => .int
def am_F3 : u_T := fun k => match k with
  | 0 => ("SpentTurns$Orders", "rest", "[I", true)
  | 1 => ("SpentTurns$Orders", "gone", "[[I", true)
  | 2 => ("SpentTurns$Orders", "order", "[I", true)
  | 3 => ("SpentTurns$Orders", "best", "[I", true)
  | 4 => ("SpentTurns$Orders", "bestDone", "I", false)
  | _ => ("SpentTurns$Orders", "leastLength", "I", false)
def am_t3 : Nat → FieldType := fun k => match k with
  | 0 => .array .int
  | 1 => .array (.array .int)
  | 2 => .array .int
  | 3 => .array .int
  | 4 => .int
  | _ => .int
def am_F4 : u_T := fun k => match k with
  | 0 => ("SpentTurns$Reader", "tape", "[B", true)
  | 1 => ("SpentTurns$Reader", "draft", "LSpentTurns$Town;", true)
  | 2 => ("SpentTurns$Reader", "taped", "I", false)
  | 3 => ("SpentTurns$Reader", "kind", "I", false)
  | 4 => ("SpentTurns$Reader", "start", "I", false)
  | 5 => ("SpentTurns$Reader", "stop", "I", false)
  | 6 => ("SpentTurns$Reader", "fault", "I", false)
  | _ => ("SpentTurns$Reader", "place", "I", false)
def am_t4 : Nat → FieldType := fun k => match k with
  | 0 => .array .byte
  | 1 => .object "SpentTurns$Town"
  | 2 => .int
  | 3 => .int
  | 4 => .int
  | 5 => .int
  | 6 => .int
  | _ => .int
def am_F5 : u_T := fun k => match k with
  | 0 => ("SpentTurns$Stranger", "rest", "[I", true)
  | 1 => ("SpentTurns$Stranger", "options", "[I", true)
  | 2 => ("SpentTurns$Stranger", "number", "J", false)
  | 3 => ("SpentTurns$Stranger", "at", "I", false)
  | _ => ("SpentTurns$Stranger", "went", "I", false)
def am_t5 : Nat → FieldType := fun k => match k with
  | 0 => .array .int
  | 1 => .array .int
  | 2 => .long
  | 3 => .int
  | _ => .int
def am_F6 : u_T := fun k => match k with
  | 0 => ("SpentTurns$Streams", "flows", "[I", true)
  | 1 => ("SpentTurns$Streams", "seen", "[I", true)
  | 2 => ("SpentTurns$Streams", "queue", "[I", true)
  | 3 => ("SpentTurns$Streams", "queued", "I", false)
  | 4 => ("SpentTurns$Streams", "via", "[I", true)
  | _ => ("SpentTurns$Streams", "total", "I", false)
def am_t6 : Nat → FieldType := fun k => match k with
  | 0 => .array .int
  | 1 => .array .int
  | 2 => .array .int
  | 3 => .int
  | 4 => .array .int
  | _ => .int
def am_F7 : u_T := fun k => match k with
  | 0 => ("SpentTurns$Town", "crossings", "I", false)
  | 1 => ("SpentTurns$Town", "usesForAll", "I", false)
  | 2 => ("SpentTurns$Town", "usesForHalf", "I", false)
  | 3 => ("SpentTurns$Town", "lines", "I", false)
  | 4 => ("SpentTurns$Town", "streetCount", "I", false)
  | 5 => ("SpentTurns$Town", "arcCount", "I", false)
  | 6 => ("SpentTurns$Town", "turnCount", "I", false)
  | 7 => ("SpentTurns$Town", "errandCount", "I", false)
  | 8 => ("SpentTurns$Town", "ledCount", "I", false)
  | 9 => ("SpentTurns$Town", "lengths", "[I", true)
  | 10 => ("SpentTurns$Town", "degrees", "[I", true)
  | 11 => ("SpentTurns$Town", "nearby", "[I", true)
  | 12 => ("SpentTurns$Town", "arcs", "[I", true)
  | 13 => ("SpentTurns$Town", "turns", "[I", true)
  | 14 => ("SpentTurns$Town", "morning", "[I", true)
  | 15 => ("SpentTurns$Town", "rest", "[I", true)
  | 16 => ("SpentTurns$Town", "from", "[I", true)
  | 17 => ("SpentTurns$Town", "to", "[I", true)
  | 18 => ("SpentTurns$Town", "hours", "[I", true)
  | _ => ("SpentTurns$Town", "led", "[I", true)
def am_t7 : Nat → FieldType := fun k => match k with
  | 0 => .int
  | 1 => .int
  | 2 => .int
  | 3 => .int
  | 4 => .int
  | 5 => .int
  | 6 => .int
  | 7 => .int
  | 8 => .int
  | 9 => .array .int
  | 10 => .array .int
  | 11 => .array .int
  | 12 => .array .int
  | 13 => .array .int
  | 14 => .array .int
  | 15 => .array .int
  | 16 => .array .int
  | 17 => .array .int
  | 18 => .array .int
  | _ => .array .int
def am_F8 : u_T := fun k => match k with
  | 0 => ("SpentTurns$Walks", "counts", "[I", true)
  | _ => ("SpentTurns$Walks", "common", "[I", true)
def am_t8 : Nat → FieldType := fun k => match k with
  | 0 => .array .int
  | _ => .array .int
def am_F9 : u_T := fun k => match k with
  | 0 => ("SpentTurns$Ways", "costs", "[I", true)
  | 1 => ("SpentTurns$Ways", "found", "[I", true)
  | 2 => ("SpentTurns$Ways", "count", "I", false)
  | 3 => ("SpentTurns$Ways", "cost", "I", false)
  | 4 => ("SpentTurns$Ways", "queue", "[I", true)
  | _ => ("SpentTurns$Ways", "seen", "[I", true)
def am_t9 : Nat → FieldType := fun k => match k with
  | 0 => .array .int
  | 1 => .array .int
  | 2 => .int
  | 3 => .int
  | 4 => .array .int
  | _ => .array .int
def am_F10 : u_T := fun k => match k with
  | 0 => ("SpentTurns", "here", "LSpentTurns$Town;", true)
  | 1 => ("SpentTurns", "images", "[LSpentTurns$Town;", true)
  | 2 => ("SpentTurns", "slots", "[LSpentTurns$Numbers;", true)
  | 3 => ("SpentTurns", "reader", "LSpentTurns$Reader;", true)
  | 4 => ("SpentTurns", "ways", "LSpentTurns$Ways;", true)
  | 5 => ("SpentTurns", "streams", "LSpentTurns$Streams;", true)
  | 6 => ("SpentTurns", "today", "LSpentTurns$Day;", true)
  | 7 => ("SpentTurns", "orders", "LSpentTurns$Orders;", true)
  | 8 => ("SpentTurns", "walking", "LSpentTurns$Walks;", true)
  | 9 => ("SpentTurns", "game", "LSpentTurns$Game;", true)
  | 10 => ("SpentTurns", "stranger", "LSpentTurns$Stranger;", true)
  | 11 => ("SpentTurns", "work", "[I", true)
  | 12 => ("SpentTurns", "changes", "I", false)
  | _ => ("SpentTurns", "ordersTriedAt", "I", false)
def am_t10 : Nat → FieldType := fun k => match k with
  | 0 => .object "SpentTurns$Town"
  | 1 => .array (.object "SpentTurns$Town")
  | 2 => .array (.object "SpentTurns$Numbers")
  | 3 => .object "SpentTurns$Reader"
  | 4 => .object "SpentTurns$Ways"
  | 5 => .object "SpentTurns$Streams"
  | 6 => .object "SpentTurns$Day"
  | 7 => .object "SpentTurns$Orders"
  | 8 => .object "SpentTurns$Walks"
  | 9 => .object "SpentTurns$Game"
  | 10 => .object "SpentTurns$Stranger"
  | 11 => .array .int
  | 12 => .int
  | _ => .int
def am_F11 : u_T := fun k => match k with
  | 0 => ("SpentTurnsModel", "thrown", "I", false)
  | 1 => ("SpentTurnsModel", "width", "[I", true)
  | 2 => ("SpentTurnsModel", "many", "[I", true)
  | 3 => ("SpentTurnsModel", "cells", "[J", true)
  | 4 => ("SpentTurnsModel", "moved", "[J", true)
  | 5 => ("SpentTurnsModel", "tape", "[B", true)
  | 6 => ("SpentTurnsModel", "taped", "I", false)
  | 7 => ("SpentTurnsModel", "at", "I", false)
  | 8 => ("SpentTurnsModel", "token", "I", false)
  | 9 => ("SpentTurnsModel", "place", "I", false)
  | 10 => ("SpentTurnsModel", "value", "I", false)
  | 11 => ("SpentTurnsModel", "word", "J", false)
  | 12 => ("SpentTurnsModel", "bad", "I", false)
  | 13 => ("SpentTurnsModel", "badPlace", "I", false)
  | 14 => ("SpentTurnsModel", "fault", "I", false)
  | 15 => ("SpentTurnsModel", "faultPlace", "I", false)
  | 16 => ("SpentTurnsModel", "lines", "[I", true)
  | 17 => ("SpentTurnsModel", "has", "[I", true)
  | 18 => ("SpentTurnsModel", "street", "[I", true)
  | 19 => ("SpentTurnsModel", "uses", "[I", true)
  | 20 => ("SpentTurnsModel", "left", "[I", true)
  | 21 => ("SpentTurnsModel", "errand", "[I", true)
  | 22 => ("SpentTurnsModel", "act", "[I", true)
  | 23 => ("SpentTurnsModel", "isKept", "[Z", true)
  | 24 => ("SpentTurnsModel", "now", "[I", true)
  | 25 => ("SpentTurnsModel", "far", "[I", true)
  | 26 => ("SpentTurnsModel", "row", "[I", true)
  | 27 => ("SpentTurnsModel", "rowMany", "I", false)
  | 28 => ("SpentTurnsModel", "mayBuy", "Z", false)
  | 29 => ("SpentTurnsModel", "flows", "[I", true)
  | 30 => ("SpentTurnsModel", "from", "[I", true)
  | 31 => ("SpentTurnsModel", "queue", "[I", true)
  | 32 => ("SpentTurnsModel", "order", "[I", true)
  | 33 => ("SpentTurnsModel", "went", "[I", true)
  | 34 => ("SpentTurnsModel", "dayMany", "I", false)
  | 35 => ("SpentTurnsModel", "dayLength", "I", false)
  | 36 => ("SpentTurnsModel", "orderBest", "[I", true)
  | 37 => ("SpentTurnsModel", "dawnMany", "I", false)
  | 38 => ("SpentTurnsModel", "dawnLength", "I", false)
  | 39 => ("SpentTurnsModel", "walk", "[I", true)
  | 40 => ("SpentTurnsModel", "walkEnd", "I", false)
  | 41 => ("SpentTurnsModel", "walkMany", "I", false)
  | 42 => ("SpentTurnsModel", "walkSure", "I", false)
  | 43 => ("SpentTurnsModel", "walkEnds", "I", false)
  | 44 => ("SpentTurnsModel", "marchLength", "I", false)
  | _ => ("SpentTurnsModel", "strayed", "I", false)
def am_t11 : Nat → FieldType := fun k => match k with
  | 0 => .int
  | 1 => .array .int
  | 2 => .array .int
  | 3 => .array .long
  | 4 => .array .long
  | 5 => .array .byte
  | 6 => .int
  | 7 => .int
  | 8 => .int
  | 9 => .int
  | 10 => .int
  | 11 => .long
  | 12 => .int
  | 13 => .int
  | 14 => .int
  | 15 => .int
  | 16 => .array .int
  | 17 => .array .int
  | 18 => .array .int
  | 19 => .array .int
  | 20 => .array .int
  | 21 => .array .int
  | 22 => .array .int
  | 23 => .array .boolean
  | 24 => .array .int
  | 25 => .array .int
  | 26 => .array .int
  | 27 => .int
  | 28 => .boolean
  | 29 => .array .int
  | 30 => .array .int
  | 31 => .array .int
  | 32 => .array .int
  | 33 => .array .int
  | 34 => .int
  | 35 => .int
  | 36 => .array .int
  | 37 => .int
  | 38 => .int
  | 39 => .array .int
  | 40 => .int
  | 41 => .int
  | 42 => .int
  | 43 => .int
  | 44 => .int
  | _ => .int
abbrev am_cl : List vw_C := [("SpentTurns$Day", am_F0, 4), ("SpentTurns$Game", am_F1, 4), ("SpentTurns$Numbers", am_F2, 4), ("SpentTurns$Orders", am_F3, 6), ("SpentTurns$Reader", am_F4, 8), ("SpentTurns$Stranger", am_F5, 5), ("SpentTurns$Streams", am_F6, 6), ("SpentTurns$Town", am_F7, 20), ("SpentTurns$Walks", am_F8, 2), ("SpentTurns$Ways", am_F9, 6), ("SpentTurns", am_F10, 14), ("SpentTurnsModel", am_F11, 46)]
def am_ty (c : Nat) : Nat → FieldType := match c with
  | 0 => am_t0
  | 1 => am_t1
  | 2 => am_t2
  | 3 => am_t3
  | 4 => am_t4
  | 5 => am_t5
  | 6 => am_t6
  | 7 => am_t7
  | 8 => am_t8
  | 9 => am_t9
  | 10 => am_t10
  | _ => am_t11
def am_tT (c : Nat) : u_T := match c with
  | 0 => am_F0
  | 1 => am_F1
  | 2 => am_F2
  | 3 => am_F3
  | 4 => am_F4
  | 5 => am_F5
  | 6 => am_F6
  | 7 => am_F7
  | 8 => am_F8
  | 9 => am_F9
  | 10 => am_F10
  | _ => am_F11
def am_fn (c : Nat) : Nat := match c with
  | 0 => 4
  | 1 => 4
  | 2 => 4
  | 3 => 6
  | 4 => 8
  | 5 => 5
  | 6 => 6
  | 7 => 20
  | 8 => 2
  | 9 => 6
  | 10 => 14
  | _ => 46
def am_cn (c : Nat) : String := match c with
  | 0 => "SpentTurns$Day"
  | 1 => "SpentTurns$Game"
  | 2 => "SpentTurns$Numbers"
  | 3 => "SpentTurns$Orders"
  | 4 => "SpentTurns$Reader"
  | 5 => "SpentTurns$Stranger"
  | 6 => "SpentTurns$Streams"
  | 7 => "SpentTurns$Town"
  | 8 => "SpentTurns$Walks"
  | 9 => "SpentTurns$Ways"
  | 10 => "SpentTurns"
  | _ => "SpentTurnsModel"
/-- a field is: 0 an int, 1 a long, 2 a reference, 3 a boolean -/
def am_fk : List (List Nat) := [[2, 2, 0, 0], [2, 2, 2, 2], [2, 3, 0, 0], [2, 2, 2, 2, 0, 0], [2, 2, 0, 0, 0, 0, 0, 0], [2, 2, 1, 0, 0], [2, 2, 2, 0, 2, 0], [0, 0, 0, 0, 0, 0, 0, 0, 0, 2, 2, 2, 2, 2, 2, 2, 2, 2, 2, 2], [2, 2], [2, 2, 0, 0, 2, 2], [2, 2, 2, 2, 2, 2, 2, 2, 2, 2, 2, 2, 0, 0], [0, 2, 2, 2, 2, 2, 0, 0, 0, 0, 0, 1, 0, 0, 0, 0, 2, 2, 2, 2, 2, 2, 2, 2, 2, 2, 2, 0, 3, 2, 2, 2, 2, 2, 0, 0, 2, 0, 0, 2, 0, 0, 0, 0, 0, 0]]
def am_ft (c k : Nat) : Nat := (am_fk.getD c []).getD k 0
def am_sh : List (Nat × Nat) := [(10, 0), (12, 1600), (13, 512), (7, 0), (13, 64), (13, 8), (13, 64), (13, 64), (13, 512), (13, 512), (13, 512), (13, 6), (13, 6), (13, 6), (13, 60), (7, 0), (13, 64), (13, 8), (13, 64), (13, 64), (13, 512), (13, 512), (13, 512), (13, 6), (13, 6), (13, 6), (13, 60), (17, 3), (16, 4), (2, 0), (14, 60), (2, 0), (14, 60), (2, 0), (14, 60), (2, 0), (14, 60), (4, 0), (9, 0), (13, 64), (13, 40), (13, 64), (13, 64), (6, 0), (13, 512), (13, 64), (13, 64), (13, 64), (0, 0), (13, 512), (13, 6), (3, 0), (13, 512), (18, 6), (13, 40), (13, 40), (13, 40), (13, 40), (13, 40), (13, 40), (13, 6), (13, 6), (8, 0), (13, 8), (13, 8), (1, 0), (13, 512), (13, 64), (13, 64), (13, 64), (5, 0), (13, 512), (13, 8), (11, 0), (13, 4), (13, 4), (14, 240), (14, 60), (12, 1600), (13, 5), (13, 25), (13, 320), (13, 2560), (13, 2560), (13, 90), (13, 600), (15, 3), (13, 512), (13, 64), (13, 40), (13, 512), (13, 64), (13, 64), (13, 6), (13, 6), (13, 6), (13, 10), (7, 0), (13, 64), (13, 8), (13, 64), (13, 64), (13, 512), (13, 512), (13, 512), (13, 6), (13, 6), (13, 6), (13, 60), (7, 0), (13, 64), (13, 8), (13, 64), (13, 64), (13, 512), (13, 512), (13, 512), (13, 6), (13, 6), (13, 6), (13, 60), (7, 0), (13, 64), (13, 8), (13, 64), (13, 64), (13, 512), (13, 512), (13, 512), (13, 6), (13, 6), (13, 6), (13, 60)]
def am_kd (a : Nat) : Nat := (am_sh.getD a (99, 0)).1
def am_ln (a : Nat) : Nat := (am_sh.getD a (99, 0)).2
/-- the references behind the constructors, images aside -/
def am_rl : List (List (Option Nat)) := [[some 3, some 27, some 28, some 37, some 38, some 43, some 48, some 51, some 62, some 65, some 70, some 2], [], [], [none, none, none, none, none, none, none, none, none, some 4, some 5, some 6, some 7, some 8, some 9, some 10, some 11, some 12, some 13, some 14], [], [], [], [], [], [], [], [], [], [], [], [none, none, none, none, none, none, none, none, none, some 16, some 17, some 18, some 19, some 20, some 21, some 22, some 23, some 24, some 25, some 26], [], [], [], [], [], [], [], [], [], [], [], [], [some 29, some 31, some 33, some 35], [some 30], [], [some 32], [], [some 34], [], [some 36], [], [some 1, some 15], [some 39, some 40, none, none, some 41, some 42], [], [], [], [], [some 44, some 45, some 46, none, some 47], [], [], [], [], [some 49, some 50], [], [], [some 52, some 53, some 60, some 61], [], [some 54, some 55, some 56, some 57, some 58, some 59], [], [], [], [], [], [], [], [], [some 63, some 64], [], [], [some 66, some 67, some 68, some 69], [], [], [], [], [some 71, some 72], [], [], [none, some 74, some 75, some 76, some 77, some 78, none, none, none, none, none, none, none, none, none, none, some 79, some 80, some 81, some 82, some 83, some 84, some 85, some 86, some 87, some 88, some 89, none, none, some 90, some 91, some 92, some 93, some 94, none, none, some 95, none, none, some 96], [], [], [], [], [], [], [], [], [], [], [], [], [], [], [], [], [], [], [], [], [], [], [], [none, none, none, none, none, none, none, none, none, some 98, some 99, some 100, some 101, some 102, some 103, some 104, some 105, some 106, some 107, some 108], [], [], [], [], [], [], [], [], [], [], [], [none, none, none, none, none, none, none, none, none, some 110, some 111, some 112, some 113, some 114, some 115, some 116, some 117, some 118, some 119, some 120], [], [], [], [], [], [], [], [], [], [], [], [none, none, none, none, none, none, none, none, none, some 122, some 123, some 124, some 125, some 126, some 127, some 128, some 129, some 130, some 131, some 132], [], [], [], [], [], [], [], [], [], [], []]
theorem am_tyok : ∀ c, c < 12 → ∀ k, k < am_fn c → parseFieldDescriptor (am_tT c k).2.2.1 = some (am_ty c k) := by decide +kernel
theorem am_nm : ∀ c, c < 12 → ∀ a, a < am_fn c → ∀ b, b < am_fn c → a ≠ b → (am_tT c a).2.1 ≠ (am_tT c b).2.1 := by decide +kernel
theorem am_clat : ∀ c, c < 12 → am_cl[c]? = some (am_cn c, am_tT c, am_fn c) := by
  intro c hc
  match c, hc with
  | 0, _ => rfl
  | 1, _ => rfl
  | 2, _ => rfl
  | 3, _ => rfl
  | 4, _ => rfl
  | 5, _ => rfl
  | 6, _ => rfl
  | 7, _ => rfl
  | 8, _ => rfl
  | 9, _ => rfl
  | 10, _ => rfl
  | 11, _ => rfl
  | n + 12, h => omega
/-- words that stay true, and words of nest mates -/
def am_wg : List Cond := lw_tbl.filter goodWord
def am_ns : Cond → Bool
  | .fieldLinkNest .. => true
  | .methodLinkNest .. => true
  | _ => false
def am_wn : List Cond := lw_tbl.filter am_ns
theorem am_wgi {w : Cond} (i : Nat) (h : lw_tbl[i]? = some w) (g : goodWord w = true) : w ∈ am_wg := List.mem_filter.mpr ⟨List.mem_of_getElem? h, g⟩
theorem am_la0 : ∀ w ∈ u_ws (am_cn 0) (am_tT 0) (am_fn 0), w ∈ am_wg := by
  intro w hw
  obtain ⟨k, hk, rfl⟩ := List.mem_map.mp hw
  have hk := List.mem_range.mp hk
  match k, hk with
  | 0, _ => exact am_wgi 458 (by decide +kernel) (by decide +kernel)
  | 1, _ => exact am_wgi 460 (by decide +kernel) (by decide +kernel)
  | 2, _ => exact am_wgi 462 (by decide +kernel) (by decide +kernel)
  | 3, _ => exact am_wgi 464 (by decide +kernel) (by decide +kernel)
  | n + 4, h => exact absurd h (by show ¬ n + 4 < 4; omega)
theorem am_la1 : ∀ w ∈ u_ws (am_cn 1) (am_tT 1) (am_fn 1), w ∈ am_wg := by
  intro w hw
  obtain ⟨k, hk, rfl⟩ := List.mem_map.mp hw
  have hk := List.mem_range.mp hk
  match k, hk with
  | 0, _ => exact am_wgi 522 (by decide +kernel) (by decide +kernel)
  | 1, _ => exact am_wgi 524 (by decide +kernel) (by decide +kernel)
  | 2, _ => exact am_wgi 526 (by decide +kernel) (by decide +kernel)
  | 3, _ => exact am_wgi 528 (by decide +kernel) (by decide +kernel)
  | n + 4, h => exact absurd h (by show ¬ n + 4 < 4; omega)
theorem am_la2 : ∀ w ∈ u_ws (am_cn 2) (am_tT 2) (am_fn 2), w ∈ am_wg := by
  intro w hw
  obtain ⟨k, hk, rfl⟩ := List.mem_map.mp hw
  have hk := List.mem_range.mp hk
  match k, hk with
  | 0, _ => exact am_wgi 339 (by decide +kernel) (by decide +kernel)
  | 1, _ => exact am_wgi 341 (by decide +kernel) (by decide +kernel)
  | 2, _ => exact am_wgi 343 (by decide +kernel) (by decide +kernel)
  | 3, _ => exact am_wgi 345 (by decide +kernel) (by decide +kernel)
  | n + 4, h => exact absurd h (by show ¬ n + 4 < 4; omega)
theorem am_la3 : ∀ w ∈ u_ws (am_cn 3) (am_tT 3) (am_fn 3), w ∈ am_wg := by
  intro w hw
  obtain ⟨k, hk, rfl⟩ := List.mem_map.mp hw
  have hk := List.mem_range.mp hk
  match k, hk with
  | 0, _ => exact am_wgi 484 (by decide +kernel) (by decide +kernel)
  | 1, _ => exact am_wgi 486 (by decide +kernel) (by decide +kernel)
  | 2, _ => exact am_wgi 488 (by decide +kernel) (by decide +kernel)
  | 3, _ => exact am_wgi 490 (by decide +kernel) (by decide +kernel)
  | 4, _ => exact am_wgi 492 (by decide +kernel) (by decide +kernel)
  | 5, _ => exact am_wgi 494 (by decide +kernel) (by decide +kernel)
  | n + 6, h => exact absurd h (by show ¬ n + 6 < 6; omega)
theorem am_la4 : ∀ w ∈ u_ws (am_cn 4) (am_tT 4) (am_fn 4), w ∈ am_wg := by
  intro w hw
  obtain ⟨k, hk, rfl⟩ := List.mem_map.mp hw
  have hk := List.mem_range.mp hk
  match k, hk with
  | 0, _ => exact am_wgi 369 (by decide +kernel) (by decide +kernel)
  | 1, _ => exact am_wgi 371 (by decide +kernel) (by decide +kernel)
  | 2, _ => exact am_wgi 373 (by decide +kernel) (by decide +kernel)
  | 3, _ => exact am_wgi 375 (by decide +kernel) (by decide +kernel)
  | 4, _ => exact am_wgi 377 (by decide +kernel) (by decide +kernel)
  | 5, _ => exact am_wgi 379 (by decide +kernel) (by decide +kernel)
  | 6, _ => exact am_wgi 381 (by decide +kernel) (by decide +kernel)
  | 7, _ => exact am_wgi 383 (by decide +kernel) (by decide +kernel)
  | n + 8, h => exact absurd h (by show ¬ n + 8 < 8; omega)
theorem am_la5 : ∀ w ∈ u_ws (am_cn 5) (am_tT 5) (am_fn 5), w ∈ am_wg := by
  intro w hw
  obtain ⟨k, hk, rfl⟩ := List.mem_map.mp hw
  have hk := List.mem_range.mp hk
  match k, hk with
  | 0, _ => exact am_wgi 545 (by decide +kernel) (by decide +kernel)
  | 1, _ => exact am_wgi 547 (by decide +kernel) (by decide +kernel)
  | 2, _ => exact am_wgi 549 (by decide +kernel) (by decide +kernel)
  | 3, _ => exact am_wgi 551 (by decide +kernel) (by decide +kernel)
  | 4, _ => exact am_wgi 553 (by decide +kernel) (by decide +kernel)
  | n + 5, h => exact absurd h (by show ¬ n + 5 < 5; omega)
theorem am_la6 : ∀ w ∈ u_ws (am_cn 6) (am_tT 6) (am_fn 6), w ∈ am_wg := by
  intro w hw
  obtain ⟨k, hk, rfl⟩ := List.mem_map.mp hw
  have hk := List.mem_range.mp hk
  match k, hk with
  | 0, _ => exact am_wgi 431 (by decide +kernel) (by decide +kernel)
  | 1, _ => exact am_wgi 433 (by decide +kernel) (by decide +kernel)
  | 2, _ => exact am_wgi 435 (by decide +kernel) (by decide +kernel)
  | 3, _ => exact am_wgi 437 (by decide +kernel) (by decide +kernel)
  | 4, _ => exact am_wgi 439 (by decide +kernel) (by decide +kernel)
  | 5, _ => exact am_wgi 441 (by decide +kernel) (by decide +kernel)
  | n + 6, h => exact absurd h (by show ¬ n + 6 < 6; omega)
theorem am_la7 : ∀ w ∈ u_ws (am_cn 7) (am_tT 7) (am_fn 7), w ∈ am_wg := by
  intro w hw
  obtain ⟨k, hk, rfl⟩ := List.mem_map.mp hw
  have hk := List.mem_range.mp hk
  match k, hk with
  | 0, _ => exact am_wgi 281 (by decide +kernel) (by decide +kernel)
  | 1, _ => exact am_wgi 283 (by decide +kernel) (by decide +kernel)
  | 2, _ => exact am_wgi 285 (by decide +kernel) (by decide +kernel)
  | 3, _ => exact am_wgi 287 (by decide +kernel) (by decide +kernel)
  | 4, _ => exact am_wgi 289 (by decide +kernel) (by decide +kernel)
  | 5, _ => exact am_wgi 291 (by decide +kernel) (by decide +kernel)
  | 6, _ => exact am_wgi 293 (by decide +kernel) (by decide +kernel)
  | 7, _ => exact am_wgi 295 (by decide +kernel) (by decide +kernel)
  | 8, _ => exact am_wgi 297 (by decide +kernel) (by decide +kernel)
  | 9, _ => exact am_wgi 299 (by decide +kernel) (by decide +kernel)
  | 10, _ => exact am_wgi 301 (by decide +kernel) (by decide +kernel)
  | 11, _ => exact am_wgi 303 (by decide +kernel) (by decide +kernel)
  | 12, _ => exact am_wgi 305 (by decide +kernel) (by decide +kernel)
  | 13, _ => exact am_wgi 307 (by decide +kernel) (by decide +kernel)
  | 14, _ => exact am_wgi 309 (by decide +kernel) (by decide +kernel)
  | 15, _ => exact am_wgi 311 (by decide +kernel) (by decide +kernel)
  | 16, _ => exact am_wgi 313 (by decide +kernel) (by decide +kernel)
  | 17, _ => exact am_wgi 315 (by decide +kernel) (by decide +kernel)
  | 18, _ => exact am_wgi 317 (by decide +kernel) (by decide +kernel)
  | 19, _ => exact am_wgi 319 (by decide +kernel) (by decide +kernel)
  | n + 20, h => exact absurd h (by show ¬ n + 20 < 20; omega)
theorem am_la8 : ∀ w ∈ u_ws (am_cn 8) (am_tT 8) (am_fn 8), w ∈ am_wg := by
  intro w hw
  obtain ⟨k, hk, rfl⟩ := List.mem_map.mp hw
  have hk := List.mem_range.mp hk
  match k, hk with
  | 0, _ => exact am_wgi 507 (by decide +kernel) (by decide +kernel)
  | 1, _ => exact am_wgi 509 (by decide +kernel) (by decide +kernel)
  | n + 2, h => exact absurd h (by show ¬ n + 2 < 2; omega)
theorem am_la9 : ∀ w ∈ u_ws (am_cn 9) (am_tT 9) (am_fn 9), w ∈ am_wg := by
  intro w hw
  obtain ⟨k, hk, rfl⟩ := List.mem_map.mp hw
  have hk := List.mem_range.mp hk
  match k, hk with
  | 0, _ => exact am_wgi 405 (by decide +kernel) (by decide +kernel)
  | 1, _ => exact am_wgi 407 (by decide +kernel) (by decide +kernel)
  | 2, _ => exact am_wgi 409 (by decide +kernel) (by decide +kernel)
  | 3, _ => exact am_wgi 411 (by decide +kernel) (by decide +kernel)
  | 4, _ => exact am_wgi 413 (by decide +kernel) (by decide +kernel)
  | 5, _ => exact am_wgi 415 (by decide +kernel) (by decide +kernel)
  | n + 6, h => exact absurd h (by show ¬ n + 6 < 6; omega)
theorem am_la10 : ∀ w ∈ u_ws (am_cn 10) (am_tT 10) (am_fn 10), w ∈ am_wg := by
  intro w hw
  obtain ⟨k, hk, rfl⟩ := List.mem_map.mp hw
  have hk := List.mem_range.mp hk
  match k, hk with
  | 0, _ => exact am_wgi 570 (by decide +kernel) (by decide +kernel)
  | 1, _ => exact am_wgi 572 (by decide +kernel) (by decide +kernel)
  | 2, _ => exact am_wgi 574 (by decide +kernel) (by decide +kernel)
  | 3, _ => exact am_wgi 576 (by decide +kernel) (by decide +kernel)
  | 4, _ => exact am_wgi 578 (by decide +kernel) (by decide +kernel)
  | 5, _ => exact am_wgi 580 (by decide +kernel) (by decide +kernel)
  | 6, _ => exact am_wgi 582 (by decide +kernel) (by decide +kernel)
  | 7, _ => exact am_wgi 584 (by decide +kernel) (by decide +kernel)
  | 8, _ => exact am_wgi 586 (by decide +kernel) (by decide +kernel)
  | 9, _ => exact am_wgi 588 (by decide +kernel) (by decide +kernel)
  | 10, _ => exact am_wgi 590 (by decide +kernel) (by decide +kernel)
  | 11, _ => exact am_wgi 592 (by decide +kernel) (by decide +kernel)
  | 12, _ => exact am_wgi 594 (by decide +kernel) (by decide +kernel)
  | 13, _ => exact am_wgi 596 (by decide +kernel) (by decide +kernel)
  | n + 14, h => exact absurd h (by show ¬ n + 14 < 14; omega)
theorem am_la11 : ∀ w ∈ u_ws (am_cn 11) (am_tT 11) (am_fn 11), w ∈ am_wg := by
  intro w hw
  obtain ⟨k, hk, rfl⟩ := List.mem_map.mp hw
  have hk := List.mem_range.mp hk
  match k, hk with
  | 0, _ => exact am_wgi 1450 (by decide +kernel) (by decide +kernel)
  | 1, _ => exact am_wgi 1452 (by decide +kernel) (by decide +kernel)
  | 2, _ => exact am_wgi 1454 (by decide +kernel) (by decide +kernel)
  | 3, _ => exact am_wgi 1456 (by decide +kernel) (by decide +kernel)
  | 4, _ => exact am_wgi 1458 (by decide +kernel) (by decide +kernel)
  | 5, _ => exact am_wgi 1460 (by decide +kernel) (by decide +kernel)
  | 6, _ => exact am_wgi 1462 (by decide +kernel) (by decide +kernel)
  | 7, _ => exact am_wgi 1464 (by decide +kernel) (by decide +kernel)
  | 8, _ => exact am_wgi 1466 (by decide +kernel) (by decide +kernel)
  | 9, _ => exact am_wgi 1468 (by decide +kernel) (by decide +kernel)
  | 10, _ => exact am_wgi 1470 (by decide +kernel) (by decide +kernel)
  | 11, _ => exact am_wgi 1472 (by decide +kernel) (by decide +kernel)
  | 12, _ => exact am_wgi 1474 (by decide +kernel) (by decide +kernel)
  | 13, _ => exact am_wgi 1476 (by decide +kernel) (by decide +kernel)
  | 14, _ => exact am_wgi 1478 (by decide +kernel) (by decide +kernel)
  | 15, _ => exact am_wgi 1480 (by decide +kernel) (by decide +kernel)
  | 16, _ => exact am_wgi 1482 (by decide +kernel) (by decide +kernel)
  | 17, _ => exact am_wgi 1484 (by decide +kernel) (by decide +kernel)
  | 18, _ => exact am_wgi 1486 (by decide +kernel) (by decide +kernel)
  | 19, _ => exact am_wgi 1488 (by decide +kernel) (by decide +kernel)
  | 20, _ => exact am_wgi 1490 (by decide +kernel) (by decide +kernel)
  | 21, _ => exact am_wgi 1492 (by decide +kernel) (by decide +kernel)
  | 22, _ => exact am_wgi 1494 (by decide +kernel) (by decide +kernel)
  | 23, _ => exact am_wgi 1496 (by decide +kernel) (by decide +kernel)
  | 24, _ => exact am_wgi 1498 (by decide +kernel) (by decide +kernel)
  | 25, _ => exact am_wgi 1500 (by decide +kernel) (by decide +kernel)
  | 26, _ => exact am_wgi 1502 (by decide +kernel) (by decide +kernel)
  | 27, _ => exact am_wgi 1504 (by decide +kernel) (by decide +kernel)
  | 28, _ => exact am_wgi 1506 (by decide +kernel) (by decide +kernel)
  | 29, _ => exact am_wgi 1508 (by decide +kernel) (by decide +kernel)
  | 30, _ => exact am_wgi 1510 (by decide +kernel) (by decide +kernel)
  | 31, _ => exact am_wgi 1512 (by decide +kernel) (by decide +kernel)
  | 32, _ => exact am_wgi 1514 (by decide +kernel) (by decide +kernel)
  | 33, _ => exact am_wgi 1516 (by decide +kernel) (by decide +kernel)
  | 34, _ => exact am_wgi 1518 (by decide +kernel) (by decide +kernel)
  | 35, _ => exact am_wgi 1520 (by decide +kernel) (by decide +kernel)
  | 36, _ => exact am_wgi 1522 (by decide +kernel) (by decide +kernel)
  | 37, _ => exact am_wgi 1524 (by decide +kernel) (by decide +kernel)
  | 38, _ => exact am_wgi 1526 (by decide +kernel) (by decide +kernel)
  | 39, _ => exact am_wgi 1528 (by decide +kernel) (by decide +kernel)
  | 40, _ => exact am_wgi 1530 (by decide +kernel) (by decide +kernel)
  | 41, _ => exact am_wgi 1532 (by decide +kernel) (by decide +kernel)
  | 42, _ => exact am_wgi 1534 (by decide +kernel) (by decide +kernel)
  | 43, _ => exact am_wgi 1536 (by decide +kernel) (by decide +kernel)
  | 44, _ => exact am_wgi 1538 (by decide +kernel) (by decide +kernel)
  | 45, _ => exact am_wgi 1540 (by decide +kernel) (by decide +kernel)
  | n + 46, h => exact absurd h (by show ¬ n + 46 < 46; omega)
theorem am_la : ∀ c, c < 12 → ∀ w ∈ u_ws (am_cn c) (am_tT c) (am_fn c), w ∈ am_wg := by
  intro c hc
  match c, hc with
  | 0, _ => exact am_la0
  | 1, _ => exact am_la1
  | 2, _ => exact am_la2
  | 3, _ => exact am_la3
  | 4, _ => exact am_la4
  | 5, _ => exact am_la5
  | 6, _ => exact am_la6
  | 7, _ => exact am_la7
  | 8, _ => exact am_la8
  | 9, _ => exact am_la9
  | 10, _ => exact am_la10
  | 11, _ => exact am_la11
  | n + 12, h => omega
