/-! the classes of the program: names, fields in the order of the slots, their types (by program out of the papers) -/
def qF0 : u_T := fun k => match k with
  | 0 => ("TensionNet$Cone", "asked", "[LTensionNet$Triple;", true)
  | 1 => ("TensionNet$Cone", "normal", "LTensionNet$Triple;", true)
  | 2 => ("TensionNet$Cone", "ray", "LTensionNet$Triple;", true)
  | 3 => ("TensionNet$Cone", "sum", "LTensionNet$Whole;", true)
  | 4 => ("TensionNet$Cone", "work", "LTensionNet$Whole;", true)
  | 5 => ("TensionNet$Cone", "signs", "[I", true)
  | 6 => ("TensionNet$Cone", "reached", "[Z", true)
  | _ => ("TensionNet$Cone", "members", "I", false)
def qY0 : List FieldType := [.array (.object "TensionNet$Triple"), .object "TensionNet$Triple", .object "TensionNet$Triple", .object "TensionNet$Whole", .object "TensionNet$Whole", .array (.int), .array (.boolean), .int]
def qF1 : u_T := fun k => match k with
  | 0 => ("TensionNet$Desk", "divider", "LTensionNet$Divider;", true)
  | 1 => ("TensionNet$Desk", "pivot", "LTensionNet$Whole;", true)
  | 2 => ("TensionNet$Desk", "factor", "LTensionNet$Whole;", true)
  | 3 => ("TensionNet$Desk", "here", "LTensionNet$Whole;", true)
  | 4 => ("TensionNet$Desk", "above", "LTensionNet$Whole;", true)
  | 5 => ("TensionNet$Desk", "product", "LTensionNet$Whole;", true)
  | _ => ("TensionNet$Desk", "other", "LTensionNet$Whole;", true)
def qY1 : List FieldType := [.object "TensionNet$Divider", .object "TensionNet$Whole", .object "TensionNet$Whole", .object "TensionNet$Whole", .object "TensionNet$Whole", .object "TensionNet$Whole", .object "TensionNet$Whole"]
def qF2 : u_T := fun k => match k with
  | 0 => ("TensionNet$Divider", "quotient", "LTensionNet$Whole;", true)
  | 1 => ("TensionNet$Divider", "scaled", "LTensionNet$Whole;", true)
  | 2 => ("TensionNet$Divider", "one", "LTensionNet$Whole;", true)
  | _ => ("TensionNet$Divider", "two", "LTensionNet$Whole;", true)
def qY2 : List FieldType := [.object "TensionNet$Whole", .object "TensionNet$Whole", .object "TensionNet$Whole", .object "TensionNet$Whole"]
def qF3 : u_T := fun k => match k with
  | 0 => ("TensionNet$Form", "table", "LTensionNet$Grid;", true)
  | 1 => ("TensionNet$Form", "sum", "LTensionNet$Whole;", true)
  | 2 => ("TensionNet$Form", "product", "LTensionNet$Whole;", true)
  | 3 => ("TensionNet$Form", "one", "LTensionNet$Whole;", true)
  | 4 => ("TensionNet$Form", "two", "LTensionNet$Whole;", true)
  | _ => ("TensionNet$Form", "strength", "LTensionNet$Whole;", true)
def qY3 : List FieldType := [.object "TensionNet$Grid", .object "TensionNet$Whole", .object "TensionNet$Whole", .object "TensionNet$Whole", .object "TensionNet$Whole", .object "TensionNet$Whole"]
def qF4 : u_T := fun k => match k with
  | 0 => ("TensionNet$Fraction", "top", "LTensionNet$Whole;", true)
  | 1 => ("TensionNet$Fraction", "bottom", "LTensionNet$Whole;", true)
  | _ => ("TensionNet$Fraction", "work", "LTensionNet$Whole;", true)
def qY4 : List FieldType := [.object "TensionNet$Whole", .object "TensionNet$Whole", .object "TensionNet$Whole"]
def qF5 : u_T := fun k => match k with
  | 0 => ("TensionNet$Grid", "height", "I", true)
  | 1 => ("TensionNet$Grid", "width", "I", true)
  | 2 => ("TensionNet$Grid", "cell", "I", true)
  | 3 => ("TensionNet$Grid", "parts", "[I", true)
  | 4 => ("TensionNet$Grid", "sizes", "[I", true)
  | 5 => ("TensionNet$Grid", "desk", "LTensionNet$Desk;", true)
  | 6 => ("TensionNet$Grid", "rows", "I", false)
  | 7 => ("TensionNet$Grid", "unknowns", "I", false)
  | 8 => ("TensionNet$Grid", "columns", "I", false)
  | 9 => ("TensionNet$Grid", "rank", "I", false)
  | 10 => ("TensionNet$Grid", "rowOf", "[I", true)
  | 11 => ("TensionNet$Grid", "bottom", "LTensionNet$Whole;", true)
  | _ => ("TensionNet$Grid", "leadsAbove", "Z", false)
def qY5 : List FieldType := [.int, .int, .int, .array (.int), .array (.int), .object "TensionNet$Desk", .int, .int, .int, .int, .array (.int), .object "TensionNet$Whole", .boolean]
def qF6 : u_T := fun k => match k with
  | 0 => ("TensionNet$Net", "joints", "I", false)
  | 1 => ("TensionNet$Net", "free", "I", false)
  | 2 => ("TensionNet$Net", "members", "I", false)
  | 3 => ("TensionNet$Net", "places", "[[I", true)
  | 4 => ("TensionNet$Net", "loads", "[[I", true)
  | 5 => ("TensionNet$Net", "order", "[I", true)
  | 6 => ("TensionNet$Net", "from", "[I", true)
  | 7 => ("TensionNet$Net", "to", "[I", true)
  | 8 => ("TensionNet$Net", "sorts", "[I", true)
  | _ => ("TensionNet$Net", "pulls", "[I", true)
def qY6 : List FieldType := [.int, .int, .int, .array (.array (.int)), .array (.array (.int)), .array (.int), .array (.int), .array (.int), .array (.int), .array (.int)]
def qF7 : u_T := fun k => match k with
  | 0 => ("TensionNet$Slots", "numbers", "[[J", true)
  | 1 => ("TensionNet$Slots", "widths", "[I", true)
  | 2 => ("TensionNet$Slots", "sizes", "[I", true)
  | 3 => ("TensionNet$Slots", "open", "I", false)
  | 4 => ("TensionNet$Slots", "at", "I", false)
  | _ => ("TensionNet$Slots", "refusal", "I", false)
def qY7 : List FieldType := [.array (.array (.long)), .array (.int), .array (.int), .int, .int, .int]
def qF8 : u_T := fun k => match k with
  | _ => ("TensionNet$Triple", "at", "[LTensionNet$Whole;", true)
def qY8 : List FieldType := [.array (.object "TensionNet$Whole")]
def qF9 : u_T := fun k => match k with
  | 0 => ("TensionNet$Whole", "parts", "[I", true)
  | 1 => ("TensionNet$Whole", "size", "I", false)
  | _ => ("TensionNet$Whole", "below", "Z", false)
def qY9 : List FieldType := [.array (.int), .int, .boolean]
def qF10 : u_T := fun k => match k with
  | 0 => ("TensionNet", "slots", "LTensionNet$Slots;", true)
  | 1 => ("TensionNet", "result", "LTensionNet$Fraction;", true)
  | 2 => ("TensionNet", "desk", "LTensionNet$Desk;", true)
  | 3 => ("TensionNet", "forces", "LTensionNet$Grid;", true)
  | 4 => ("TensionNet", "moves", "LTensionNet$Grid;", true)
  | 5 => ("TensionNet", "places", "LTensionNet$Grid;", true)
  | 6 => ("TensionNet", "cone", "LTensionNet$Cone;", true)
  | 7 => ("TensionNet", "form", "LTensionNet$Form;", true)
  | 8 => ("TensionNet", "top", "LTensionNet$Whole;", true)
  | 9 => ("TensionNet", "net", "LTensionNet$Net;", false)
  | 10 => ("TensionNet", "spare", "LTensionNet$Net;", false)
  | 11 => ("TensionNet", "forcesKnown", "Z", false)
  | 12 => ("TensionNet", "bearingKnown", "Z", false)
  | 13 => ("TensionNet", "movesKnown", "Z", false)
  | 14 => ("TensionNet", "placesKnown", "Z", false)
  | 15 => ("TensionNet", "tightKnown", "Z", false)
  | _ => ("TensionNet", "canBeTight", "Z", false)
def qY10 : List FieldType := [.object "TensionNet$Slots", .object "TensionNet$Fraction", .object "TensionNet$Desk", .object "TensionNet$Grid", .object "TensionNet$Grid", .object "TensionNet$Grid", .object "TensionNet$Cone", .object "TensionNet$Form", .object "TensionNet$Whole", .object "TensionNet$Net", .object "TensionNet$Net", .boolean, .boolean, .boolean, .boolean, .boolean, .boolean]
def qF11 : u_T := fun k => match k with
  | 0 => ("TensionNetModel", "n", "[J", true)
  | 1 => ("TensionNetModel", "ends", "[I", true)
  | 2 => ("TensionNetModel", "widths", "[I", true)
  | 3 => ("TensionNetModel", "numbers", "[J", true)
  | 4 => ("TensionNetModel", "joints", "I", false)
  | 5 => ("TensionNetModel", "x", "[I", true)
  | 6 => ("TensionNetModel", "y", "[I", true)
  | 7 => ("TensionNetModel", "fixed", "[Z", true)
  | 8 => ("TensionNetModel", "loadX", "[I", true)
  | 9 => ("TensionNetModel", "loadY", "[I", true)
  | 10 => ("TensionNetModel", "members", "I", false)
  | 11 => ("TensionNetModel", "from", "[I", true)
  | 12 => ("TensionNetModel", "to", "[I", true)
  | 13 => ("TensionNetModel", "sort", "[I", true)
  | 14 => ("TensionNetModel", "told", "[I", true)
  | 15 => ("TensionNetModel", "left", "[J", true)
  | 16 => ("TensionNetModel", "right", "[J", true)
  | 17 => ("TensionNetModel", "both", "[J", true)
  | 18 => ("TensionNetModel", "row", "[I", true)
  | 19 => ("TensionNetModel", "high", "I", false)
  | 20 => ("TensionNetModel", "wide", "I", false)
  | 21 => ("TensionNetModel", "rank", "I", false)
  | 22 => ("TensionNetModel", "rowOf", "[I", true)
  | _ => ("TensionNetModel", "cones", "I", false)
def qY11 : List FieldType := [.array (.long), .array (.int), .array (.int), .array (.long), .int, .array (.int), .array (.int), .array (.boolean), .array (.int), .array (.int), .int, .array (.int), .array (.int), .array (.int), .array (.int), .array (.long), .array (.long), .array (.long), .array (.int), .int, .int, .int, .array (.int), .int]
abbrev qcls : List vw_C := [("TensionNet$Cone", qF0, 8), ("TensionNet$Desk", qF1, 7), ("TensionNet$Divider", qF2, 4), ("TensionNet$Form", qF3, 6), ("TensionNet$Fraction", qF4, 3), ("TensionNet$Grid", qF5, 13), ("TensionNet$Net", qF6, 10), ("TensionNet$Slots", qF7, 6), ("TensionNet$Triple", qF8, 1), ("TensionNet$Whole", qF9, 3), ("TensionNet", qF10, 17), ("TensionNetModel", qF11, 24)]
def qYs : List (List FieldType) := [qY0, qY1, qY2, qY3, qY4, qY5, qY6, qY7, qY8, qY9, qY10, qY11]
def qty (ci k : Nat) : FieldType := (qYs.getD ci []).getD k .int
def gT : List Cond := lw_tbl.filter goodWord
theorem gT_in {w : Cond} (i : Nat) (h : lw_tbl[i]? = some w) (hg : goodWord w = true) : w ∈ gT := List.mem_filter.mpr ⟨List.mem_of_getElem? h, hg⟩
theorem gT_good {w : Cond} (h : w ∈ gT) : w ∈ lw_tbl ∧ goodWord w = true := List.mem_filter.mp h
/-- the words of a table by their places -/
def qPl (ps : List Nat) (ws : List Cond) : Bool := ps.length == ws.length && (ps.zip ws).all (fun q => lw_tbl[q.1]? == some q.2 && goodWord q.2)
theorem qPl_ok : ∀ {ps : List Nat} {ws : List Cond}, qPl ps ws = true → ∀ w ∈ ws, w ∈ gT := by
  intro ps ws h w hw
  simp only [qPl, Bool.and_eq_true, beq_iff_eq, List.all_eq_true] at h
  obtain ⟨k, hk⟩ := List.getElem?_of_mem hw
  have hkl : k < ws.length := (List.getElem?_eq_some_iff.mp hk).1
  have hp : ps[k]? = some ps[k] := List.getElem?_eq_getElem (by omega)
  have := h.2 (ps[k], w) (List.mem_of_getElem? (i := k) (by rw [List.getElem?_zip_eq_some]; exact ⟨hp, hk⟩))
  exact gT_in _ this.1 this.2
set_option maxRecDepth 20000 in
theorem qW0 : qPl [323, 325, 327, 329, 331, 333, 335, 337, 78, 293] (u_ws "TensionNet$Cone" qF0 8 ++ [.initialized "TensionNet$Cone", .instantiable "TensionNet$Cone" 8]) = true := by decide +kernel
set_option maxRecDepth 20000 in
theorem qW1 : qPl [226, 228, 230, 232, 234, 236, 238, 75, 181] (u_ws "TensionNet$Desk" qF1 7 ++ [.initialized "TensionNet$Desk", .instantiable "TensionNet$Desk" 7]) = true := by decide +kernel
set_option maxRecDepth 20000 in
theorem qW2 : qPl [200, 202, 204, 206, 76, 187] (u_ws "TensionNet$Divider" qF2 4 ++ [.initialized "TensionNet$Divider", .instantiable "TensionNet$Divider" 4]) = true := by decide +kernel
set_option maxRecDepth 20000 in
theorem qW3 : qPl [357, 359, 361, 363, 365, 367, 80, 342] (u_ws "TensionNet$Form" qF3 6 ++ [.initialized "TensionNet$Form", .instantiable "TensionNet$Form" 6]) = true := by decide +kernel
set_option maxRecDepth 20000 in
theorem qW4 : qPl [173, 175, 177, 72, 127] (u_ws "TensionNet$Fraction" qF4 3 ++ [.initialized "TensionNet$Fraction", .instantiable "TensionNet$Fraction" 3]) = true := by decide +kernel
set_option maxRecDepth 20000 in
theorem qW5 : qPl [265, 267, 269, 271, 273, 275, 277, 279, 281, 283, 285, 287, 289, 77, 242] (u_ws "TensionNet$Grid" qF5 13 ++ [.initialized "TensionNet$Grid", .instantiable "TensionNet$Grid" 13]) = true := by decide +kernel
set_option maxRecDepth 20000 in
theorem qW6 : qPl [403, 405, 407, 409, 411, 413, 415, 417, 419, 421, 81, 373] (u_ws "TensionNet$Net" qF6 10 ++ [.initialized "TensionNet$Net", .instantiable "TensionNet$Net" 10]) = true := by decide +kernel
set_option maxRecDepth 20000 in
theorem qW7 : qPl [111, 113, 115, 117, 119, 121, 70, 94] (u_ws "TensionNet$Slots" qF7 6 ++ [.initialized "TensionNet$Slots", .instantiable "TensionNet$Slots" 6]) = true := by decide +kernel
set_option maxRecDepth 20000 in
theorem qW8 : qPl [310, 79, 300] (u_ws "TensionNet$Triple" qF8 1 ++ [.initialized "TensionNet$Triple", .instantiable "TensionNet$Triple" 1]) = true := by decide +kernel
set_option maxRecDepth 20000 in
theorem qW9 : qPl [154, 156, 158, 73, 133] (u_ws "TensionNet$Whole" qF9 3 ++ [.initialized "TensionNet$Whole", .instantiable "TensionNet$Whole" 3]) = true := by decide +kernel
set_option maxRecDepth 20000 in
theorem qW10 : qPl [441, 443, 445, 447, 449, 451, 453, 455, 457, 459, 461, 463, 465, 467, 469, 471, 473, 69, 86] (u_ws "TensionNet" qF10 17 ++ [.initialized "TensionNet", .instantiable "TensionNet" 17]) = true := by decide +kernel
set_option maxRecDepth 20000 in
theorem qW11 : qPl [982, 984, 986, 988, 990, 992, 994, 996, 998, 1000, 1002, 1004, 1006, 1008, 1010, 1012, 1014, 1016, 1018, 1020, 1022, 1024, 1026, 1028, 82, 938] (u_ws "TensionNetModel" qF11 24 ++ [.initialized "TensionNetModel", .instantiable "TensionNetModel" 24]) = true := by decide +kernel
/-- what is known of each of them -/
def qcOK (ci : Nat) (q : vw_C) : Prop := (∀ w ∈ u_ws q.1 q.2.1 q.2.2, w ∈ gT) ∧ Cond.initialized q.1 ∈ gT ∧ Cond.instantiable q.1 q.2.2 ∈ gT ∧ (∀ k, k < q.2.2 → parseFieldDescriptor (q.2.1 k).2.2.1 = some (qty ci k)) ∧ (∀ a, a < q.2.2 → ∀ b, b < q.2.2 → a ≠ b → (q.2.1 a).2.1 ≠ (q.2.1 b).2.1) ∧ (∀ k, k < q.2.2 → (q.2.1 k).1 = q.1)
theorem qC0 : qcOK 0 ("TensionNet$Cone", qF0, 8) := ⟨fun w h => qPl_ok qW0 w (List.mem_append_left _ h), qPl_ok qW0 _ (List.mem_append_right _ (by simp)), qPl_ok qW0 _ (List.mem_append_right _ (by simp)), by decide +kernel, by decide +kernel, by decide +kernel⟩
theorem qC1 : qcOK 1 ("TensionNet$Desk", qF1, 7) := ⟨fun w h => qPl_ok qW1 w (List.mem_append_left _ h), qPl_ok qW1 _ (List.mem_append_right _ (by simp)), qPl_ok qW1 _ (List.mem_append_right _ (by simp)), by decide +kernel, by decide +kernel, by decide +kernel⟩
theorem qC2 : qcOK 2 ("TensionNet$Divider", qF2, 4) := ⟨fun w h => qPl_ok qW2 w (List.mem_append_left _ h), qPl_ok qW2 _ (List.mem_append_right _ (by simp)), qPl_ok qW2 _ (List.mem_append_right _ (by simp)), by decide +kernel, by decide +kernel, by decide +kernel⟩
theorem qC3 : qcOK 3 ("TensionNet$Form", qF3, 6) := ⟨fun w h => qPl_ok qW3 w (List.mem_append_left _ h), qPl_ok qW3 _ (List.mem_append_right _ (by simp)), qPl_ok qW3 _ (List.mem_append_right _ (by simp)), by decide +kernel, by decide +kernel, by decide +kernel⟩
theorem qC4 : qcOK 4 ("TensionNet$Fraction", qF4, 3) := ⟨fun w h => qPl_ok qW4 w (List.mem_append_left _ h), qPl_ok qW4 _ (List.mem_append_right _ (by simp)), qPl_ok qW4 _ (List.mem_append_right _ (by simp)), by decide +kernel, by decide +kernel, by decide +kernel⟩
theorem qC5 : qcOK 5 ("TensionNet$Grid", qF5, 13) := ⟨fun w h => qPl_ok qW5 w (List.mem_append_left _ h), qPl_ok qW5 _ (List.mem_append_right _ (by simp)), qPl_ok qW5 _ (List.mem_append_right _ (by simp)), by decide +kernel, by decide +kernel, by decide +kernel⟩
theorem qC6 : qcOK 6 ("TensionNet$Net", qF6, 10) := ⟨fun w h => qPl_ok qW6 w (List.mem_append_left _ h), qPl_ok qW6 _ (List.mem_append_right _ (by simp)), qPl_ok qW6 _ (List.mem_append_right _ (by simp)), by decide +kernel, by decide +kernel, by decide +kernel⟩
theorem qC7 : qcOK 7 ("TensionNet$Slots", qF7, 6) := ⟨fun w h => qPl_ok qW7 w (List.mem_append_left _ h), qPl_ok qW7 _ (List.mem_append_right _ (by simp)), qPl_ok qW7 _ (List.mem_append_right _ (by simp)), by decide +kernel, by decide +kernel, by decide +kernel⟩
theorem qC8 : qcOK 8 ("TensionNet$Triple", qF8, 1) := ⟨fun w h => qPl_ok qW8 w (List.mem_append_left _ h), qPl_ok qW8 _ (List.mem_append_right _ (by simp)), qPl_ok qW8 _ (List.mem_append_right _ (by simp)), by decide +kernel, by decide +kernel, by decide +kernel⟩
theorem qC9 : qcOK 9 ("TensionNet$Whole", qF9, 3) := ⟨fun w h => qPl_ok qW9 w (List.mem_append_left _ h), qPl_ok qW9 _ (List.mem_append_right _ (by simp)), qPl_ok qW9 _ (List.mem_append_right _ (by simp)), by decide +kernel, by decide +kernel, by decide +kernel⟩
theorem qC10 : qcOK 10 ("TensionNet", qF10, 17) := ⟨fun w h => qPl_ok qW10 w (List.mem_append_left _ h), qPl_ok qW10 _ (List.mem_append_right _ (by simp)), qPl_ok qW10 _ (List.mem_append_right _ (by simp)), by decide +kernel, by decide +kernel, by decide +kernel⟩
theorem qC11 : qcOK 11 ("TensionNetModel", qF11, 24) := ⟨fun w h => qPl_ok qW11 w (List.mem_append_left _ h), qPl_ok qW11 _ (List.mem_append_right _ (by simp)), qPl_ok qW11 _ (List.mem_append_right _ (by simp)), by decide +kernel, by decide +kernel, by decide +kernel⟩
theorem qcls_ok {ci : Nat} {q : vw_C} (h : qcls[ci]? = some q) : qcOK ci q := by
  match ci, h with
  | 0, h => cases h; exact qC0
  | 1, h => cases h; exact qC1
  | 2, h => cases h; exact qC2
  | 3, h => cases h; exact qC3
  | 4, h => cases h; exact qC4
  | 5, h => cases h; exact qC5
  | 6, h => cases h; exact qC6
  | 7, h => cases h; exact qC7
  | 8, h => cases h; exact qC8
  | 9, h => cases h; exact qC9
  | 10, h => cases h; exact qC10
  | 11, h => cases h; exact qC11
  | k + 12, h => simp [qcls] at h
