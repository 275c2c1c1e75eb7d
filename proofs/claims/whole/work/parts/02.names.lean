/-! names: the classes, their fields, the words by their places (written by wip/whole/gen/gen_names.py) -/
def xR0 : String := "OpensAtNine$Coin"
def xT0 : u_T := fun k => match k with
  | 0 => ("OpensAtNine$Coin", "kind", "I", true)
  | 1 => ("OpensAtNine$Coin", "told", "I", true)
  | _ => ("OpensAtNine$Coin", "more", "I", true)
def xty0 : Nat → FieldType := fun k => match k with
  | 0 => .int
  | 1 => .int
  | _ => .int
def xR1 : String := "OpensAtNine$Gate"
def xT1 : u_T := fun k => match k with
  | 0 => ("OpensAtNine$Gate", "purse", "[LOpensAtNine$Coin;", true)
  | 1 => ("OpensAtNine$Gate", "texts", "[LOpensAtNine$Text;", true)
  | 2 => ("OpensAtNine$Gate", "own", "[I", true)
  | 3 => ("OpensAtNine$Gate", "names", "[I", true)
  | 4 => ("OpensAtNine$Gate", "number", "I", false)
  | 5 => ("OpensAtNine$Gate", "sum", "I", false)
  | 6 => ("OpensAtNine$Gate", "minute", "I", false)
  | 7 => ("OpensAtNine$Gate", "people", "I", false)
  | 8 => ("OpensAtNine$Gate", "inside", "I", false)
  | 9 => ("OpensAtNine$Gate", "coins", "I", false)
  | 10 => ("OpensAtNine$Gate", "spent", "I", false)
  | _ => ("OpensAtNine$Gate", "law", "I", false)
def xty1 : Nat → FieldType := fun k => match k with
  | 0 => .array (.object "OpensAtNine$Coin")
  | 1 => .array (.object "OpensAtNine$Text")
  | 2 => .array .int
  | 3 => .array .int
  | 4 => .int
  | 5 => .int
  | 6 => .int
  | 7 => .int
  | 8 => .int
  | 9 => .int
  | 10 => .int
  | _ => .int
def xR2 : String := "OpensAtNine$Met"
def xT2 : u_T := fun k => match k with
  | _ => ("OpensAtNine$Met", "states", "[I", true)
def xty2 : Nat → FieldType := fun k => match k with
  | _ => .array .int
def xR3 : String := "OpensAtNine$Reader"
def xT3 : u_T := fun k => match k with
  | 0 => ("OpensAtNine$Reader", "tape", "[I", true)
  | 1 => ("OpensAtNine$Reader", "steps", "[I", true)
  | 2 => ("OpensAtNine$Reader", "from", "[I", true)
  | 3 => ("OpensAtNine$Reader", "size", "I", false)
  | 4 => ("OpensAtNine$Reader", "fault", "I", false)
  | 5 => ("OpensAtNine$Reader", "at", "I", false)
  | 6 => ("OpensAtNine$Reader", "place", "I", false)
  | 7 => ("OpensAtNine$Reader", "token", "I", false)
  | 8 => ("OpensAtNine$Reader", "value", "I", false)
  | 9 => ("OpensAtNine$Reader", "open", "I", false)
  | _ => ("OpensAtNine$Reader", "many", "I", false)
def xty3 : Nat → FieldType := fun k => match k with
  | 0 => .array .int
  | 1 => .array .int
  | 2 => .array .int
  | 3 => .int
  | 4 => .int
  | 5 => .int
  | 6 => .int
  | 7 => .int
  | 8 => .int
  | 9 => .int
  | _ => .int
def xR4 : String := "OpensAtNine$Sheet"
def xT4 : u_T := fun k => match k with
  | 0 => ("OpensAtNine$Sheet", "cells", "[I", true)
  | 1 => ("OpensAtNine$Sheet", "sort", "I", false)
  | _ => ("OpensAtNine$Sheet", "size", "I", false)
def xty4 : Nat → FieldType := fun k => match k with
  | 0 => .array .int
  | 1 => .int
  | _ => .int
def xR5 : String := "OpensAtNine$Text"
def xT5 : u_T := fun k => match k with
  | 0 => ("OpensAtNine$Text", "steps", "[I", true)
  | 1 => ("OpensAtNine$Text", "from", "[I", true)
  | _ => ("OpensAtNine$Text", "stack", "[I", true)
def xty5 : Nat → FieldType := fun k => match k with
  | 0 => .array .int
  | 1 => .array .int
  | _ => .array .int
def xR6 : String := "OpensAtNine$Turns"
def xT6 : u_T := fun k => match k with
  | 0 => ("OpensAtNine$Turns", "gate", "LOpensAtNine$Gate;", true)
  | 1 => ("OpensAtNine$Turns", "ends", "[[I", true)
  | 2 => ("OpensAtNine$Turns", "lines", "[I", true)
  | 3 => ("OpensAtNine$Turns", "met", "LOpensAtNine$Met;", true)
  | 4 => ("OpensAtNine$Turns", "metEnds", "[I", true)
  | 5 => ("OpensAtNine$Turns", "metLines", "[I", true)
  | _ => ("OpensAtNine$Turns", "last", "I", false)
def xty6 : Nat → FieldType := fun k => match k with
  | 0 => .object "OpensAtNine$Gate"
  | 1 => .array (.array .int)
  | 2 => .array .int
  | 3 => .object "OpensAtNine$Met"
  | 4 => .array .int
  | 5 => .array .int
  | _ => .int
def xR7 : String := "OpensAtNine$Ways"
def xT7 : u_T := fun k => match k with
  | 0 => ("OpensAtNine$Ways", "gate", "LOpensAtNine$Gate;", true)
  | 1 => ("OpensAtNine$Ways", "met", "LOpensAtNine$Met;", true)
  | 2 => ("OpensAtNine$Ways", "set", "I", false)
  | 3 => ("OpensAtNine$Ways", "best", "I", false)
  | 4 => ("OpensAtNine$Ways", "rests", "I", false)
  | _ => ("OpensAtNine$Ways", "way", "I", false)
def xty7 : Nat → FieldType := fun k => match k with
  | 0 => .object "OpensAtNine$Gate"
  | 1 => .object "OpensAtNine$Met"
  | 2 => .int
  | 3 => .int
  | 4 => .int
  | _ => .int
def xR8 : String := "OpensAtNine"
def xT8 : u_T := fun k => match k with
  | 0 => ("OpensAtNine", "purse", "[LOpensAtNine$Coin;", true)
  | 1 => ("OpensAtNine", "texts", "[LOpensAtNine$Text;", true)
  | 2 => ("OpensAtNine", "gate", "LOpensAtNine$Gate;", true)
  | 3 => ("OpensAtNine", "image", "LOpensAtNine$Gate;", true)
  | 4 => ("OpensAtNine", "thought", "LOpensAtNine$Gate;", true)
  | 5 => ("OpensAtNine", "ways", "LOpensAtNine$Ways;", true)
  | 6 => ("OpensAtNine", "turns", "LOpensAtNine$Turns;", true)
  | 7 => ("OpensAtNine", "reader", "LOpensAtNine$Reader;", true)
  | 8 => ("OpensAtNine", "sheets", "[LOpensAtNine$Sheet;", true)
  | 9 => ("OpensAtNine", "manyTexts", "I", false)
  | _ => ("OpensAtNine", "imageKept", "Z", false)
def xty8 : Nat → FieldType := fun k => match k with
  | 0 => .array (.object "OpensAtNine$Coin")
  | 1 => .array (.object "OpensAtNine$Text")
  | 2 => .object "OpensAtNine$Gate"
  | 3 => .object "OpensAtNine$Gate"
  | 4 => .object "OpensAtNine$Gate"
  | 5 => .object "OpensAtNine$Ways"
  | 6 => .object "OpensAtNine$Turns"
  | 7 => .object "OpensAtNine$Reader"
  | 8 => .array (.object "OpensAtNine$Sheet")
  | 9 => .int
  | _ => .boolean
def xR9 : String := "OpensAtNineModel"
def xT9 : u_T := fun k => match k with
  | 0 => ("OpensAtNineModel", "number", "I", false)
  | 1 => ("OpensAtNineModel", "sum", "I", false)
  | 2 => ("OpensAtNineModel", "minute", "I", false)
  | 3 => ("OpensAtNineModel", "people", "I", false)
  | 4 => ("OpensAtNineModel", "inside", "I", false)
  | 5 => ("OpensAtNineModel", "coins", "I", false)
  | 6 => ("OpensAtNineModel", "whose", "[I", true)
  | 7 => ("OpensAtNineModel", "kind", "[I", true)
  | 8 => ("OpensAtNineModel", "toldOf", "[I", true)
  | 9 => ("OpensAtNineModel", "more", "[I", true)
  | 10 => ("OpensAtNineModel", "spent", "I", false)
  | 11 => ("OpensAtNineModel", "tape", "[I", true)
  | 12 => ("OpensAtNineModel", "taped", "I", false)
  | 13 => ("OpensAtNineModel", "codes", "[I", true)
  | 14 => ("OpensAtNineModel", "starts", "[I", true)
  | 15 => ("OpensAtNineModel", "texts", "I", false)
  | 16 => ("OpensAtNineModel", "rule", "I", false)
  | 17 => ("OpensAtNineModel", "hasImage", "Z", false)
  | 18 => ("OpensAtNineModel", "imageNumbers", "[I", true)
  | 19 => ("OpensAtNineModel", "imageWhose", "[I", true)
  | 20 => ("OpensAtNineModel", "sheetSort", "[I", true)
  | 21 => ("OpensAtNineModel", "sheetSize", "[I", true)
  | 22 => ("OpensAtNineModel", "cells", "[I", true)
  | 23 => ("OpensAtNineModel", "law", "[I", true)
  | 24 => ("OpensAtNineModel", "at", "I", false)
  | 25 => ("OpensAtNineModel", "begun", "I", false)
  | 26 => ("OpensAtNineModel", "token", "I", false)
  | 27 => ("OpensAtNineModel", "value", "I", false)
  | 28 => ("OpensAtNineModel", "words", "[I", true)
  | 29 => ("OpensAtNineModel", "held", "[I", true)
  | 30 => ("OpensAtNineModel", "heldMany", "I", false)
  | 31 => ("OpensAtNineModel", "opens", "I", false)
  | 32 => ("OpensAtNineModel", "out", "I", false)
  | 33 => ("OpensAtNineModel", "stack", "[I", true)
  | 34 => ("OpensAtNineModel", "named", "[I", true)
  | 35 => ("OpensAtNineModel", "toldFor", "[J", true)
  | 36 => ("OpensAtNineModel", "toldOnce", "[I", true)
  | 37 => ("OpensAtNineModel", "keepsTold", "Z", false)
  | 38 => ("OpensAtNineModel", "kept", "[I", true)
  | 39 => ("OpensAtNineModel", "bestCosts", "I", false)
  | 40 => ("OpensAtNineModel", "bestMany", "I", false)
  | 41 => ("OpensAtNineModel", "bestDigits", "I", false)
  | 42 => ("OpensAtNineModel", "rests", "I", false)
  | 43 => ("OpensAtNineModel", "ends", "[I", true)
  | 44 => ("OpensAtNineModel", "line", "[I", true)
  | 45 => ("OpensAtNineModel", "bestEnds", "[I", true)
  | 46 => ("OpensAtNineModel", "bestLine", "[I", true)
  | 47 => ("OpensAtNineModel", "paid", "[I", true)
  | _ => ("OpensAtNineModel", "soFar", "I", false)
def xty9 : Nat → FieldType := fun k => match k with
  | 0 => .int
  | 1 => .int
  | 2 => .int
  | 3 => .int
  | 4 => .int
  | 5 => .int
  | 6 => .array .int
  | 7 => .array .int
  | 8 => .array .int
  | 9 => .array .int
  | 10 => .int
  | 11 => .array .int
  | 12 => .int
  | 13 => .array .int
  | 14 => .array .int
  | 15 => .int
  | 16 => .int
  | 17 => .boolean
  | 18 => .array .int
  | 19 => .array .int
  | 20 => .array .int
  | 21 => .array .int
  | 22 => .array .int
  | 23 => .array .int
  | 24 => .int
  | 25 => .int
  | 26 => .int
  | 27 => .int
  | 28 => .array .int
  | 29 => .array .int
  | 30 => .int
  | 31 => .int
  | 32 => .int
  | 33 => .array .int
  | 34 => .array .int
  | 35 => .array .long
  | 36 => .array .int
  | 37 => .boolean
  | 38 => .array .int
  | 39 => .int
  | 40 => .int
  | 41 => .int
  | 42 => .int
  | 43 => .array .int
  | 44 => .array .int
  | 45 => .array .int
  | 46 => .array .int
  | 47 => .array .int
  | _ => .int
abbrev xCl : List vw_C := [(xR0, xT0, 3), (xR1, xT1, 12), (xR2, xT2, 1), (xR3, xT3, 11), (xR4, xT4, 3), (xR5, xT5, 3), (xR6, xT6, 7), (xR7, xT7, 6), (xR8, xT8, 11), (xR9, xT9, 49)]
def XT : List Cond := lw_tbl.filter goodWord
theorem XTi {w : Cond} (i : Nat) (h : lw_tbl[i]? = some w) (hg : goodWord w = true) : w ∈ XT := List.mem_filter.mpr ⟨List.mem_of_getElem? h, hg⟩
theorem XT1 {w : Cond} (i : Nat) (h : tables_1_1[i]? = some w) (hg : goodWord w = true) : w ∈ XT := List.mem_filter.mpr ⟨List.mem_append_right _ (show w ∈ tables_1_1 ++ (tables_1_2 ++ (tables_1_3 ++ (tables_1_4 ++ (tables_1_5 ++ tables_1_6)))) from List.mem_append_left _ (List.mem_of_getElem? h)), hg⟩
theorem XT2 {w : Cond} (i : Nat) (h : tables_1_2[i]? = some w) (hg : goodWord w = true) : w ∈ XT := List.mem_filter.mpr ⟨List.mem_append_right _ (show w ∈ tables_1_1 ++ (tables_1_2 ++ (tables_1_3 ++ (tables_1_4 ++ (tables_1_5 ++ tables_1_6)))) from List.mem_append_right _ (List.mem_append_left _ (List.mem_of_getElem? h))), hg⟩
theorem XT3 {w : Cond} (i : Nat) (h : tables_1_3[i]? = some w) (hg : goodWord w = true) : w ∈ XT := List.mem_filter.mpr ⟨List.mem_append_right _ (show w ∈ tables_1_1 ++ (tables_1_2 ++ (tables_1_3 ++ (tables_1_4 ++ (tables_1_5 ++ tables_1_6)))) from List.mem_append_right _ (List.mem_append_right _ (List.mem_append_left _ (List.mem_of_getElem? h)))), hg⟩
theorem XT4 {w : Cond} (i : Nat) (h : tables_1_4[i]? = some w) (hg : goodWord w = true) : w ∈ XT := List.mem_filter.mpr ⟨List.mem_append_right _ (show w ∈ tables_1_1 ++ (tables_1_2 ++ (tables_1_3 ++ (tables_1_4 ++ (tables_1_5 ++ tables_1_6)))) from List.mem_append_right _ (List.mem_append_right _ (List.mem_append_right _ (List.mem_append_left _ (List.mem_of_getElem? h))))), hg⟩
theorem XT5 {w : Cond} (i : Nat) (h : tables_1_5[i]? = some w) (hg : goodWord w = true) : w ∈ XT := List.mem_filter.mpr ⟨List.mem_append_right _ (show w ∈ tables_1_1 ++ (tables_1_2 ++ (tables_1_3 ++ (tables_1_4 ++ (tables_1_5 ++ tables_1_6)))) from List.mem_append_right _ (List.mem_append_right _ (List.mem_append_right _ (List.mem_append_right _ (List.mem_append_left _ (List.mem_of_getElem? h)))))), hg⟩
theorem XT6 {w : Cond} (i : Nat) (h : tables_1_6[i]? = some w) (hg : goodWord w = true) : w ∈ XT := List.mem_filter.mpr ⟨List.mem_append_right _ (show w ∈ tables_1_1 ++ (tables_1_2 ++ (tables_1_3 ++ (tables_1_4 ++ (tables_1_5 ++ tables_1_6)))) from List.mem_append_right _ (List.mem_append_right _ (List.mem_append_right _ (List.mem_append_right _ (List.mem_append_right _ (List.mem_of_getElem? h)))))), hg⟩
theorem XTgood : GoodIn XT XT := fun w h => ⟨h, good_of_word (List.mem_filter.mp h).2⟩
/-- a class of the worlds: its words, its fields' types, their names -/
def xKC (k : Nat) (C : String) (T : u_T) (N : Nat) (ty : Nat → FieldType) : Prop := xCl[k]? = some (C, T, N) ∧ (∀ w ∈ u_ws C T N, w ∈ XT) ∧ (∀ k, k < N → parseFieldDescriptor (T k).2.2.1 = some (ty k)) ∧ (∀ a, a < N → ∀ b, b < N → a ≠ b → (T a).2.1 ≠ (T b).2.1)
theorem xkc0 : xKC 0 xR0 xT0 3 xty0 := ⟨rfl, fun w hw => List.mem_filter.mpr ⟨(by decide +kernel : ∀ w ∈ u_ws xR0 xT0 3, w ∈ lw_tbl) w hw, (by decide +kernel : ∀ w ∈ u_ws xR0 xT0 3, goodWord w = true) w hw⟩, by decide +kernel, by decide +kernel⟩
theorem xkc1 : xKC 1 xR1 xT1 12 xty1 := ⟨rfl, fun w hw => List.mem_filter.mpr ⟨(by decide +kernel : ∀ w ∈ u_ws xR1 xT1 12, w ∈ lw_tbl) w hw, (by decide +kernel : ∀ w ∈ u_ws xR1 xT1 12, goodWord w = true) w hw⟩, by decide +kernel, by decide +kernel⟩
theorem xkc2 : xKC 2 xR2 xT2 1 xty2 := ⟨rfl, fun w hw => List.mem_filter.mpr ⟨(by decide +kernel : ∀ w ∈ u_ws xR2 xT2 1, w ∈ lw_tbl) w hw, (by decide +kernel : ∀ w ∈ u_ws xR2 xT2 1, goodWord w = true) w hw⟩, by decide +kernel, by decide +kernel⟩
theorem xkc3 : xKC 3 xR3 xT3 11 xty3 := ⟨rfl, fun w hw => List.mem_filter.mpr ⟨(by decide +kernel : ∀ w ∈ u_ws xR3 xT3 11, w ∈ lw_tbl) w hw, (by decide +kernel : ∀ w ∈ u_ws xR3 xT3 11, goodWord w = true) w hw⟩, by decide +kernel, by decide +kernel⟩
theorem xkc4 : xKC 4 xR4 xT4 3 xty4 := ⟨rfl, fun w hw => List.mem_filter.mpr ⟨(by decide +kernel : ∀ w ∈ u_ws xR4 xT4 3, w ∈ lw_tbl) w hw, (by decide +kernel : ∀ w ∈ u_ws xR4 xT4 3, goodWord w = true) w hw⟩, by decide +kernel, by decide +kernel⟩
theorem xkc5 : xKC 5 xR5 xT5 3 xty5 := ⟨rfl, fun w hw => List.mem_filter.mpr ⟨(by decide +kernel : ∀ w ∈ u_ws xR5 xT5 3, w ∈ lw_tbl) w hw, (by decide +kernel : ∀ w ∈ u_ws xR5 xT5 3, goodWord w = true) w hw⟩, by decide +kernel, by decide +kernel⟩
theorem xkc6 : xKC 6 xR6 xT6 7 xty6 := ⟨rfl, fun w hw => List.mem_filter.mpr ⟨(by decide +kernel : ∀ w ∈ u_ws xR6 xT6 7, w ∈ lw_tbl) w hw, (by decide +kernel : ∀ w ∈ u_ws xR6 xT6 7, goodWord w = true) w hw⟩, by decide +kernel, by decide +kernel⟩
theorem xkc7 : xKC 7 xR7 xT7 6 xty7 := ⟨rfl, fun w hw => List.mem_filter.mpr ⟨(by decide +kernel : ∀ w ∈ u_ws xR7 xT7 6, w ∈ lw_tbl) w hw, (by decide +kernel : ∀ w ∈ u_ws xR7 xT7 6, goodWord w = true) w hw⟩, by decide +kernel, by decide +kernel⟩
theorem xkc8 : xKC 8 xR8 xT8 11 xty8 := ⟨rfl, fun w hw => List.mem_filter.mpr ⟨(by decide +kernel : ∀ w ∈ u_ws xR8 xT8 11, w ∈ lw_tbl) w hw, (by decide +kernel : ∀ w ∈ u_ws xR8 xT8 11, goodWord w = true) w hw⟩, by decide +kernel, by decide +kernel⟩
theorem xkc9 : xKC 9 xR9 xT9 49 xty9 := ⟨rfl, fun w hw => List.mem_filter.mpr ⟨(by decide +kernel : ∀ w ∈ u_ws xR9 xT9 49, w ∈ lw_tbl) w hw, (by decide +kernel : ∀ w ∈ u_ws xR9 xT9 49, goodWord w = true) w hw⟩, by decide +kernel, by decide +kernel⟩
/-- a field by its entry in a class's pool -/
def xFL (own : String) (idx k j : Nat) (fin : Bool) (fty : FieldType) : Prop := ∃ (C : String) (T : u_T) (N : Nat) (ty : Nat → FieldType), xKC k C T N ty ∧ j < N ∧ Cond.fieldLink own idx (T j).1 (T j).2.1 (T j).2.2.1 ∈ XT ∧ (T j).2.2.2 = fin ∧ parseFieldDescriptor (T j).2.2.1 = some fty ∧ (fin = true → (T j).1 = own)
/-- a field of another class, read alone -/
def xFR (own : String) (idx k j : Nat) (fin : Bool) (fty : FieldType) : Prop := ∃ (C : String) (T : u_T) (N : Nat) (ty : Nat → FieldType), xKC k C T N ty ∧ j < N ∧ Cond.fieldLink own idx (T j).1 (T j).2.1 (T j).2.2.1 ∈ XT
theorem xFL.r {own : String} {idx k j : Nat} {fin : Bool} {fty : FieldType} (h : xFL own idx k j fin fty) : xFR own idx k j fin fty := by
  obtain ⟨C, T, N, ty, h1, h2, h3, -⟩ := h
  exact ⟨C, T, N, ty, h1, h2, h3⟩
theorem xf_1_22 : xFL xR1 22 1 0 true (.array (.object "OpensAtNine$Coin")) := ⟨xR1, xT1, 12, xty1, xkc1, by decide, XT1 37 rfl rfl, rfl, by decide +kernel, fun _ => rfl⟩
theorem xf_1_26 : xFL xR1 26 1 1 true (.array (.object "OpensAtNine$Text")) := ⟨xR1, xT1, 12, xty1, xkc1, by decide, XT1 38 rfl rfl, rfl, by decide +kernel, fun _ => rfl⟩
theorem xf_1_9 : xFL xR1 9 1 2 true (.array .int) := ⟨xR1, xT1, 12, xty1, xkc1, by decide, XT1 39 rfl rfl, rfl, by decide +kernel, fun _ => rfl⟩
theorem xf_1_15 : xFL xR1 15 1 3 true (.array .int) := ⟨xR1, xT1, 12, xty1, xkc1, by decide, XT1 40 rfl rfl, rfl, by decide +kernel, fun _ => rfl⟩
theorem xf_1_18 : xFL xR1 18 1 4 false (.int) := ⟨xR1, xT1, 12, xty1, xkc1, by decide, XT1 41 rfl rfl, rfl, by decide +kernel, fun h => by cases h⟩
theorem xf_8_87 : xFL xR8 87 1 4 false (.int) := ⟨xR1, xT1, 12, xty1, xkc1, by decide, XT1 42 rfl rfl, rfl, by decide +kernel, fun h => by cases h⟩
theorem xf_1_30 : xFL xR1 30 1 5 false (.int) := ⟨xR1, xT1, 12, xty1, xkc1, by decide, XT1 43 rfl rfl, rfl, by decide +kernel, fun h => by cases h⟩
theorem xf_8_90 : xFL xR8 90 1 5 false (.int) := ⟨xR1, xT1, 12, xty1, xkc1, by decide, XT1 44 rfl rfl, rfl, by decide +kernel, fun h => by cases h⟩
theorem xf_7_50 : xFL xR7 50 1 5 false (.int) := ⟨xR1, xT1, 12, xty1, xkc1, by decide, XT1 45 rfl rfl, rfl, by decide +kernel, fun h => by cases h⟩
theorem xf_6_74 : xFL xR6 74 1 5 false (.int) := ⟨xR1, xT1, 12, xty1, xkc1, by decide, XT1 46 rfl rfl, rfl, by decide +kernel, fun h => by cases h⟩
theorem xf_1_33 : xFL xR1 33 1 6 false (.int) := ⟨xR1, xT1, 12, xty1, xkc1, by decide, XT1 47 rfl rfl, rfl, by decide +kernel, fun h => by cases h⟩
theorem xf_8_93 : xFL xR8 93 1 6 false (.int) := ⟨xR1, xT1, 12, xty1, xkc1, by decide, XT1 48 rfl rfl, rfl, by decide +kernel, fun h => by cases h⟩
theorem xf_7_61 : xFL xR7 61 1 6 false (.int) := ⟨xR1, xT1, 12, xty1, xkc1, by decide, XT1 49 rfl rfl, rfl, by decide +kernel, fun h => by cases h⟩
theorem xf_6_89 : xFL xR6 89 1 6 false (.int) := ⟨xR1, xT1, 12, xty1, xkc1, by decide, XT1 50 rfl rfl, rfl, by decide +kernel, fun h => by cases h⟩
theorem xf_1_36 : xFL xR1 36 1 7 false (.int) := ⟨xR1, xT1, 12, xty1, xkc1, by decide, XT1 51 rfl rfl, rfl, by decide +kernel, fun h => by cases h⟩
theorem xf_8_96 : xFL xR8 96 1 7 false (.int) := ⟨xR1, xT1, 12, xty1, xkc1, by decide, XT1 52 rfl rfl, rfl, by decide +kernel, fun h => by cases h⟩
theorem xf_6_62 : xFL xR6 62 1 7 false (.int) := ⟨xR1, xT1, 12, xty1, xkc1, by decide, XT1 53 rfl rfl, rfl, by decide +kernel, fun h => by cases h⟩
theorem xf_1_39 : xFL xR1 39 1 8 false (.int) := ⟨xR1, xT1, 12, xty1, xkc1, by decide, XT1 54 rfl rfl, rfl, by decide +kernel, fun h => by cases h⟩
theorem xf_7_41 : xFL xR7 41 1 8 false (.int) := ⟨xR1, xT1, 12, xty1, xkc1, by decide, XT1 55 rfl rfl, rfl, by decide +kernel, fun h => by cases h⟩
theorem xf_8_106 : xFL xR8 106 1 8 false (.int) := ⟨xR1, xT1, 12, xty1, xkc1, by decide, XT1 56 rfl rfl, rfl, by decide +kernel, fun h => by cases h⟩
theorem xf_6_71 : xFL xR6 71 1 8 false (.int) := ⟨xR1, xT1, 12, xty1, xkc1, by decide, XT1 57 rfl rfl, rfl, by decide +kernel, fun h => by cases h⟩
theorem xf_1_42 : xFL xR1 42 1 9 false (.int) := ⟨xR1, xT1, 12, xty1, xkc1, by decide, XT1 58 rfl rfl, rfl, by decide +kernel, fun h => by cases h⟩
theorem xf_8_109 : xFL xR8 109 1 9 false (.int) := ⟨xR1, xT1, 12, xty1, xkc1, by decide, XT1 59 rfl rfl, rfl, by decide +kernel, fun h => by cases h⟩
theorem xf_1_45 : xFL xR1 45 1 10 false (.int) := ⟨xR1, xT1, 12, xty1, xkc1, by decide, XT1 60 rfl rfl, rfl, by decide +kernel, fun h => by cases h⟩
theorem xf_7_47 : xFL xR7 47 1 10 false (.int) := ⟨xR1, xT1, 12, xty1, xkc1, by decide, XT1 61 rfl rfl, rfl, by decide +kernel, fun h => by cases h⟩
theorem xf_6_68 : xFL xR6 68 1 10 false (.int) := ⟨xR1, xT1, 12, xty1, xkc1, by decide, XT1 62 rfl rfl, rfl, by decide +kernel, fun h => by cases h⟩
theorem xf_1_48 : xFL xR1 48 1 11 false (.int) := ⟨xR1, xT1, 12, xty1, xkc1, by decide, XT1 63 rfl rfl, rfl, by decide +kernel, fun h => by cases h⟩
theorem xf_8_112 : xFL xR8 112 1 11 false (.int) := ⟨xR1, xT1, 12, xty1, xkc1, by decide, XT1 64 rfl rfl, rfl, by decide +kernel, fun h => by cases h⟩
theorem xf_2_9 : xFL xR2 9 2 0 true (.array .int) := ⟨xR2, xT2, 1, xty2, xkc2, by decide, XT1 97 rfl rfl, rfl, by decide +kernel, fun _ => rfl⟩
theorem xf_7_9 : xFL xR7 9 7 0 true (.object "OpensAtNine$Gate") := ⟨xR7, xT7, 6, xty7, xkc7, by decide, XT1 107 rfl rfl, rfl, by decide +kernel, fun _ => rfl⟩
theorem xf_7_15 : xFL xR7 15 7 1 true (.object "OpensAtNine$Met") := ⟨xR7, xT7, 6, xty7, xkc7, by decide, XT1 108 rfl rfl, rfl, by decide +kernel, fun _ => rfl⟩
theorem xf_7_30 : xFL xR7 30 7 2 false (.int) := ⟨xR7, xT7, 6, xty7, xkc7, by decide, XT1 109 rfl rfl, rfl, by decide +kernel, fun h => by cases h⟩
theorem xf_7_34 : xFL xR7 34 7 3 false (.int) := ⟨xR7, xT7, 6, xty7, xkc7, by decide, XT1 110 rfl rfl, rfl, by decide +kernel, fun h => by cases h⟩
theorem xf_7_78 : xFL xR7 78 7 4 false (.int) := ⟨xR7, xT7, 6, xty7, xkc7, by decide, XT1 111 rfl rfl, rfl, by decide +kernel, fun h => by cases h⟩
theorem xf_7_44 : xFL xR7 44 7 5 false (.int) := ⟨xR7, xT7, 6, xty7, xkc7, by decide, XT1 112 rfl rfl, rfl, by decide +kernel, fun h => by cases h⟩
theorem xf_8_179 : xFL xR8 179 7 5 false (.int) := ⟨xR7, xT7, 6, xty7, xkc7, by decide, XT1 113 rfl rfl, rfl, by decide +kernel, fun h => by cases h⟩
theorem xf_6_28 : xFL xR6 28 6 0 true (.object "OpensAtNine$Gate") := ⟨xR6, xT6, 7, xty6, xkc6, by decide, XT1 135 rfl rfl, rfl, by decide +kernel, fun _ => rfl⟩
theorem xf_6_11 : xFL xR6 11 6 1 true (.array (.array .int)) := ⟨xR6, xT6, 7, xty6, xkc6, by decide, XT1 136 rfl rfl, rfl, by decide +kernel, fun _ => rfl⟩
theorem xf_6_16 : xFL xR6 16 6 2 true (.array .int) := ⟨xR6, xT6, 7, xty6, xkc6, by decide, XT1 137 rfl rfl, rfl, by decide +kernel, fun _ => rfl⟩
theorem xf_6_32 : xFL xR6 32 6 3 true (.object "OpensAtNine$Met") := ⟨xR6, xT6, 7, xty6, xkc6, by decide, XT1 138 rfl rfl, rfl, by decide +kernel, fun _ => rfl⟩
theorem xf_6_22 : xFL xR6 22 6 4 true (.array .int) := ⟨xR6, xT6, 7, xty6, xkc6, by decide, XT1 139 rfl rfl, rfl, by decide +kernel, fun _ => rfl⟩
theorem xf_6_25 : xFL xR6 25 6 5 true (.array .int) := ⟨xR6, xT6, 7, xty6, xkc6, by decide, XT1 140 rfl rfl, rfl, by decide +kernel, fun _ => rfl⟩
theorem xf_6_54 : xFL xR6 54 6 6 false (.int) := ⟨xR6, xT6, 7, xty6, xkc6, by decide, XT1 141 rfl rfl, rfl, by decide +kernel, fun h => by cases h⟩
theorem xf_3_9 : xFL xR3 9 3 0 true (.array .int) := ⟨xR3, xT3, 11, xty3, xkc3, by decide, XT1 163 rfl rfl, rfl, by decide +kernel, fun _ => rfl⟩
theorem xf_3_15 : xFL xR3 15 3 1 true (.array .int) := ⟨xR3, xT3, 11, xty3, xkc3, by decide, XT1 164 rfl rfl, rfl, by decide +kernel, fun _ => rfl⟩
theorem xf_3_18 : xFL xR3 18 3 2 true (.array .int) := ⟨xR3, xT3, 11, xty3, xkc3, by decide, XT1 165 rfl rfl, rfl, by decide +kernel, fun _ => rfl⟩
theorem xf_3_21 : xFL xR3 21 3 3 false (.int) := ⟨xR3, xT3, 11, xty3, xkc3, by decide, XT1 166 rfl rfl, rfl, by decide +kernel, fun h => by cases h⟩
theorem xf_8_115 : xFL xR8 115 3 3 false (.int) := ⟨xR3, xT3, 11, xty3, xkc3, by decide, XT1 167 rfl rfl, rfl, by decide +kernel, fun h => by cases h⟩
theorem xf_3_61 : xFL xR3 61 3 4 false (.int) := ⟨xR3, xT3, 11, xty3, xkc3, by decide, XT1 168 rfl rfl, rfl, by decide +kernel, fun h => by cases h⟩
theorem xf_8_125 : xFL xR8 125 3 4 false (.int) := ⟨xR3, xT3, 11, xty3, xkc3, by decide, XT1 169 rfl rfl, rfl, by decide +kernel, fun h => by cases h⟩
theorem xf_3_39 : xFL xR3 39 3 5 false (.int) := ⟨xR3, xT3, 11, xty3, xkc3, by decide, XT1 170 rfl rfl, rfl, by decide +kernel, fun h => by cases h⟩
theorem xf_3_58 : xFL xR3 58 3 6 false (.int) := ⟨xR3, xT3, 11, xty3, xkc3, by decide, XT1 171 rfl rfl, rfl, by decide +kernel, fun h => by cases h⟩
theorem xf_3_55 : xFL xR3 55 3 7 false (.int) := ⟨xR3, xT3, 11, xty3, xkc3, by decide, XT1 172 rfl rfl, rfl, by decide +kernel, fun h => by cases h⟩
theorem xf_3_107 : xFL xR3 107 3 8 false (.int) := ⟨xR3, xT3, 11, xty3, xkc3, by decide, XT1 173 rfl rfl, rfl, by decide +kernel, fun h => by cases h⟩
theorem xf_3_42 : xFL xR3 42 3 9 false (.int) := ⟨xR3, xT3, 11, xty3, xkc3, by decide, XT1 174 rfl rfl, rfl, by decide +kernel, fun h => by cases h⟩
theorem xf_3_45 : xFL xR3 45 3 10 false (.int) := ⟨xR3, xT3, 11, xty3, xkc3, by decide, XT1 175 rfl rfl, rfl, by decide +kernel, fun h => by cases h⟩
theorem xf_4_9 : xFL xR4 9 4 0 true (.array .int) := ⟨xR4, xT4, 3, xty4, xkc4, by decide, XT1 206 rfl rfl, rfl, by decide +kernel, fun _ => rfl⟩
theorem xf_8_292 : xFR xR8 292 4 0 true (.array .int) := ⟨xR4, xT4, 3, xty4, xkc4, by decide, XT1 207 rfl rfl⟩
theorem xf_4_15 : xFL xR4 15 4 1 false (.int) := ⟨xR4, xT4, 3, xty4, xkc4, by decide, XT1 208 rfl rfl, rfl, by decide +kernel, fun h => by cases h⟩
theorem xf_8_257 : xFL xR8 257 4 1 false (.int) := ⟨xR4, xT4, 3, xty4, xkc4, by decide, XT1 209 rfl rfl, rfl, by decide +kernel, fun h => by cases h⟩
theorem xf_4_28 : xFL xR4 28 4 2 false (.int) := ⟨xR4, xT4, 3, xty4, xkc4, by decide, XT1 210 rfl rfl, rfl, by decide +kernel, fun h => by cases h⟩
theorem xf_8_260 : xFL xR8 260 4 2 false (.int) := ⟨xR4, xT4, 3, xty4, xkc4, by decide, XT1 211 rfl rfl, rfl, by decide +kernel, fun h => by cases h⟩
theorem xf_5_7 : xFL xR5 7 5 0 true (.array .int) := ⟨xR5, xT5, 3, xty5, xkc5, by decide, XT2 147 rfl rfl, rfl, by decide +kernel, fun _ => rfl⟩
theorem xf_5_13 : xFL xR5 13 5 1 true (.array .int) := ⟨xR5, xT5, 3, xty5, xkc5, by decide, XT2 148 rfl rfl, rfl, by decide +kernel, fun _ => rfl⟩
theorem xf_5_16 : xFL xR5 16 5 2 true (.array .int) := ⟨xR5, xT5, 3, xty5, xkc5, by decide, XT2 149 rfl rfl, rfl, by decide +kernel, fun _ => rfl⟩
theorem xf_8_13 : xFL xR8 13 8 0 true (.array (.object "OpensAtNine$Coin")) := ⟨xR8, xT8, 11, xty8, xkc8, by decide, XT2 158 rfl rfl, rfl, by decide +kernel, fun _ => rfl⟩
theorem xf_8_17 : xFL xR8 17 8 1 true (.array (.object "OpensAtNine$Text")) := ⟨xR8, xT8, 11, xty8, xkc8, by decide, XT2 159 rfl rfl, rfl, by decide +kernel, fun _ => rfl⟩
theorem xf_8_26 : xFL xR8 26 8 2 true (.object "OpensAtNine$Gate") := ⟨xR8, xT8, 11, xty8, xkc8, by decide, XT2 160 rfl rfl, rfl, by decide +kernel, fun _ => rfl⟩
theorem xf_8_30 : xFL xR8 30 8 3 true (.object "OpensAtNine$Gate") := ⟨xR8, xT8, 11, xty8, xkc8, by decide, XT2 161 rfl rfl, rfl, by decide +kernel, fun _ => rfl⟩
theorem xf_8_33 : xFL xR8 33 8 4 true (.object "OpensAtNine$Gate") := ⟨xR8, xT8, 11, xty8, xkc8, by decide, XT2 162 rfl rfl, rfl, by decide +kernel, fun _ => rfl⟩
theorem xf_8_44 : xFL xR8 44 8 5 true (.object "OpensAtNine$Ways") := ⟨xR8, xT8, 11, xty8, xkc8, by decide, XT2 163 rfl rfl, rfl, by decide +kernel, fun _ => rfl⟩
theorem xf_8_51 : xFL xR8 51 8 6 true (.object "OpensAtNine$Turns") := ⟨xR8, xT8, 11, xty8, xkc8, by decide, XT2 164 rfl rfl, rfl, by decide +kernel, fun _ => rfl⟩
theorem xf_8_58 : xFL xR8 58 8 7 true (.object "OpensAtNine$Reader") := ⟨xR8, xT8, 11, xty8, xkc8, by decide, XT2 165 rfl rfl, rfl, by decide +kernel, fun _ => rfl⟩
theorem xf_8_64 : xFL xR8 64 8 8 true (.array (.object "OpensAtNine$Sheet")) := ⟨xR8, xT8, 11, xty8, xkc8, by decide, XT2 166 rfl rfl, rfl, by decide +kernel, fun _ => rfl⟩
theorem xf_8_79 : xFL xR8 79 8 9 false (.int) := ⟨xR8, xT8, 11, xty8, xkc8, by decide, XT2 167 rfl rfl, rfl, by decide +kernel, fun h => by cases h⟩
theorem xf_8_285 : xFL xR8 285 8 10 false (.boolean) := ⟨xR8, xT8, 11, xty8, xkc8, by decide, XT2 168 rfl rfl, rfl, by decide +kernel, fun h => by cases h⟩
theorem xf_0_9 : xFL xR0 9 0 0 true (.int) := ⟨xR0, xT0, 3, xty0, xkc0, by decide, XT3 30 rfl rfl, rfl, by decide +kernel, fun _ => rfl⟩
theorem xf_8_149 : xFR xR8 149 0 0 true (.int) := ⟨xR0, xT0, 3, xty0, xkc0, by decide, XT3 31 rfl rfl⟩
theorem xf_0_15 : xFL xR0 15 0 1 true (.int) := ⟨xR0, xT0, 3, xty0, xkc0, by decide, XT3 32 rfl rfl, rfl, by decide +kernel, fun _ => rfl⟩
theorem xf_8_152 : xFR xR8 152 0 1 true (.int) := ⟨xR0, xT0, 3, xty0, xkc0, by decide, XT3 33 rfl rfl⟩
theorem xf_0_18 : xFL xR0 18 0 2 true (.int) := ⟨xR0, xT0, 3, xty0, xkc0, by decide, XT3 34 rfl rfl, rfl, by decide +kernel, fun _ => rfl⟩
theorem xf_8_155 : xFR xR8 155 0 2 true (.int) := ⟨xR0, xT0, 3, xty0, xkc0, by decide, XT3 35 rfl rfl⟩
theorem xf_9_7 : xFL xR9 7 9 0 false (.int) := ⟨xR9, xT9, 49, xty9, xkc9, by decide, XT4 225 rfl rfl, rfl, by decide +kernel, fun h => by cases h⟩
theorem xf_9_113 : xFL xR9 113 9 1 false (.int) := ⟨xR9, xT9, 49, xty9, xkc9, by decide, XT4 226 rfl rfl, rfl, by decide +kernel, fun h => by cases h⟩
theorem xf_9_116 : xFL xR9 116 9 2 false (.int) := ⟨xR9, xT9, 49, xty9, xkc9, by decide, XT4 227 rfl rfl, rfl, by decide +kernel, fun h => by cases h⟩
theorem xf_9_97 : xFL xR9 97 9 3 false (.int) := ⟨xR9, xT9, 49, xty9, xkc9, by decide, XT4 228 rfl rfl, rfl, by decide +kernel, fun h => by cases h⟩
theorem xf_9_107 : xFL xR9 107 9 4 false (.int) := ⟨xR9, xT9, 49, xty9, xkc9, by decide, XT4 229 rfl rfl, rfl, by decide +kernel, fun h => by cases h⟩
theorem xf_9_104 : xFL xR9 104 9 5 false (.int) := ⟨xR9, xT9, 49, xty9, xkc9, by decide, XT4 230 rfl rfl, rfl, by decide +kernel, fun h => by cases h⟩
theorem xf_9_13 : xFL xR9 13 9 6 true (.array .int) := ⟨xR9, xT9, 49, xty9, xkc9, by decide, XT4 231 rfl rfl, rfl, by decide +kernel, fun _ => rfl⟩
theorem xf_9_17 : xFL xR9 17 9 7 true (.array .int) := ⟨xR9, xT9, 49, xty9, xkc9, by decide, XT4 232 rfl rfl, rfl, by decide +kernel, fun _ => rfl⟩
theorem xf_9_20 : xFL xR9 20 9 8 true (.array .int) := ⟨xR9, xT9, 49, xty9, xkc9, by decide, XT4 233 rfl rfl, rfl, by decide +kernel, fun _ => rfl⟩
theorem xf_9_23 : xFL xR9 23 9 9 true (.array .int) := ⟨xR9, xT9, 49, xty9, xkc9, by decide, XT4 234 rfl rfl, rfl, by decide +kernel, fun _ => rfl⟩
theorem xf_9_110 : xFL xR9 110 9 10 false (.int) := ⟨xR9, xT9, 49, xty9, xkc9, by decide, XT4 235 rfl rfl, rfl, by decide +kernel, fun h => by cases h⟩
theorem xf_9_26 : xFL xR9 26 9 11 true (.array .int) := ⟨xR9, xT9, 49, xty9, xkc9, by decide, XT4 236 rfl rfl, rfl, by decide +kernel, fun _ => rfl⟩
theorem xf_9_90 : xFL xR9 90 9 12 false (.int) := ⟨xR9, xT9, 49, xty9, xkc9, by decide, XT4 237 rfl rfl, rfl, by decide +kernel, fun h => by cases h⟩
theorem xf_9_29 : xFL xR9 29 9 13 true (.array .int) := ⟨xR9, xT9, 49, xty9, xkc9, by decide, XT4 238 rfl rfl, rfl, by decide +kernel, fun _ => rfl⟩
theorem xf_9_32 : xFL xR9 32 9 14 true (.array .int) := ⟨xR9, xT9, 49, xty9, xkc9, by decide, XT4 239 rfl rfl, rfl, by decide +kernel, fun _ => rfl⟩
theorem xf_9_123 : xFL xR9 123 9 15 false (.int) := ⟨xR9, xT9, 49, xty9, xkc9, by decide, XT5 0 rfl rfl, rfl, by decide +kernel, fun h => by cases h⟩
theorem xf_9_126 : xFL xR9 126 9 16 false (.int) := ⟨xR9, xT9, 49, xty9, xkc9, by decide, XT5 1 rfl rfl, rfl, by decide +kernel, fun h => by cases h⟩
theorem xf_9_337 : xFL xR9 337 9 17 false (.boolean) := ⟨xR9, xT9, 49, xty9, xkc9, by decide, XT5 2 rfl rfl, rfl, by decide +kernel, fun h => by cases h⟩
theorem xf_9_35 : xFL xR9 35 9 18 true (.array .int) := ⟨xR9, xT9, 49, xty9, xkc9, by decide, XT5 3 rfl rfl, rfl, by decide +kernel, fun _ => rfl⟩
theorem xf_9_38 : xFL xR9 38 9 19 true (.array .int) := ⟨xR9, xT9, 49, xty9, xkc9, by decide, XT5 4 rfl rfl, rfl, by decide +kernel, fun _ => rfl⟩
theorem xf_9_41 : xFL xR9 41 9 20 true (.array .int) := ⟨xR9, xT9, 49, xty9, xkc9, by decide, XT5 5 rfl rfl, rfl, by decide +kernel, fun _ => rfl⟩
theorem xf_9_44 : xFL xR9 44 9 21 true (.array .int) := ⟨xR9, xT9, 49, xty9, xkc9, by decide, XT5 6 rfl rfl, rfl, by decide +kernel, fun _ => rfl⟩
theorem xf_9_47 : xFL xR9 47 9 22 true (.array .int) := ⟨xR9, xT9, 49, xty9, xkc9, by decide, XT5 7 rfl rfl, rfl, by decide +kernel, fun _ => rfl⟩
theorem xf_9_50 : xFL xR9 50 9 23 true (.array .int) := ⟨xR9, xT9, 49, xty9, xkc9, by decide, XT5 8 rfl rfl, rfl, by decide +kernel, fun _ => rfl⟩
theorem xf_9_132 : xFL xR9 132 9 24 false (.int) := ⟨xR9, xT9, 49, xty9, xkc9, by decide, XT5 9 rfl rfl, rfl, by decide +kernel, fun h => by cases h⟩
theorem xf_9_135 : xFL xR9 135 9 25 false (.int) := ⟨xR9, xT9, 49, xty9, xkc9, by decide, XT5 10 rfl rfl, rfl, by decide +kernel, fun h => by cases h⟩
theorem xf_9_138 : xFL xR9 138 9 26 false (.int) := ⟨xR9, xT9, 49, xty9, xkc9, by decide, XT5 11 rfl rfl, rfl, by decide +kernel, fun h => by cases h⟩
theorem xf_9_141 : xFL xR9 141 9 27 false (.int) := ⟨xR9, xT9, 49, xty9, xkc9, by decide, XT5 12 rfl rfl, rfl, by decide +kernel, fun h => by cases h⟩
theorem xf_9_53 : xFL xR9 53 9 28 true (.array .int) := ⟨xR9, xT9, 49, xty9, xkc9, by decide, XT5 13 rfl rfl, rfl, by decide +kernel, fun _ => rfl⟩
theorem xf_9_56 : xFL xR9 56 9 29 true (.array .int) := ⟨xR9, xT9, 49, xty9, xkc9, by decide, XT5 14 rfl rfl, rfl, by decide +kernel, fun _ => rfl⟩
theorem xf_9_151 : xFL xR9 151 9 30 false (.int) := ⟨xR9, xT9, 49, xty9, xkc9, by decide, XT5 15 rfl rfl, rfl, by decide +kernel, fun h => by cases h⟩
theorem xf_9_158 : xFL xR9 158 9 31 false (.int) := ⟨xR9, xT9, 49, xty9, xkc9, by decide, XT5 16 rfl rfl, rfl, by decide +kernel, fun h => by cases h⟩
theorem xf_9_148 : xFL xR9 148 9 32 false (.int) := ⟨xR9, xT9, 49, xty9, xkc9, by decide, XT5 17 rfl rfl, rfl, by decide +kernel, fun h => by cases h⟩
theorem xf_9_59 : xFL xR9 59 9 33 true (.array .int) := ⟨xR9, xT9, 49, xty9, xkc9, by decide, XT5 18 rfl rfl, rfl, by decide +kernel, fun _ => rfl⟩
theorem xf_9_62 : xFL xR9 62 9 34 true (.array .int) := ⟨xR9, xT9, 49, xty9, xkc9, by decide, XT5 19 rfl rfl, rfl, by decide +kernel, fun _ => rfl⟩
theorem xf_9_65 : xFL xR9 65 9 35 true (.array .long) := ⟨xR9, xT9, 49, xty9, xkc9, by decide, XT5 20 rfl rfl, rfl, by decide +kernel, fun _ => rfl⟩
theorem xf_9_69 : xFL xR9 69 9 36 true (.array .int) := ⟨xR9, xT9, 49, xty9, xkc9, by decide, XT5 21 rfl rfl, rfl, by decide +kernel, fun _ => rfl⟩
theorem xf_9_192 : xFL xR9 192 9 37 false (.boolean) := ⟨xR9, xT9, 49, xty9, xkc9, by decide, XT5 22 rfl rfl, rfl, by decide +kernel, fun h => by cases h⟩
theorem xf_9_72 : xFL xR9 72 9 38 true (.array .int) := ⟨xR9, xT9, 49, xty9, xkc9, by decide, XT5 23 rfl rfl, rfl, by decide +kernel, fun _ => rfl⟩
theorem xf_9_251 : xFL xR9 251 9 39 false (.int) := ⟨xR9, xT9, 49, xty9, xkc9, by decide, XT5 24 rfl rfl, rfl, by decide +kernel, fun h => by cases h⟩
theorem xf_9_254 : xFL xR9 254 9 40 false (.int) := ⟨xR9, xT9, 49, xty9, xkc9, by decide, XT5 25 rfl rfl, rfl, by decide +kernel, fun h => by cases h⟩
theorem xf_9_257 : xFL xR9 257 9 41 false (.int) := ⟨xR9, xT9, 49, xty9, xkc9, by decide, XT5 26 rfl rfl, rfl, by decide +kernel, fun h => by cases h⟩
theorem xf_9_276 : xFL xR9 276 9 42 false (.int) := ⟨xR9, xT9, 49, xty9, xkc9, by decide, XT5 27 rfl rfl, rfl, by decide +kernel, fun h => by cases h⟩
theorem xf_9_75 : xFL xR9 75 9 43 true (.array .int) := ⟨xR9, xT9, 49, xty9, xkc9, by decide, XT5 28 rfl rfl, rfl, by decide +kernel, fun _ => rfl⟩
theorem xf_9_78 : xFL xR9 78 9 44 true (.array .int) := ⟨xR9, xT9, 49, xty9, xkc9, by decide, XT5 29 rfl rfl, rfl, by decide +kernel, fun _ => rfl⟩
theorem xf_9_81 : xFL xR9 81 9 45 true (.array .int) := ⟨xR9, xT9, 49, xty9, xkc9, by decide, XT5 30 rfl rfl, rfl, by decide +kernel, fun _ => rfl⟩
theorem xf_9_84 : xFL xR9 84 9 46 true (.array .int) := ⟨xR9, xT9, 49, xty9, xkc9, by decide, XT5 31 rfl rfl, rfl, by decide +kernel, fun _ => rfl⟩
theorem xf_9_87 : xFL xR9 87 9 47 true (.array .int) := ⟨xR9, xT9, 49, xty9, xkc9, by decide, XT5 32 rfl rfl, rfl, by decide +kernel, fun _ => rfl⟩
theorem xf_9_308 : xFL xR9 308 9 48 false (.int) := ⟨xR9, xT9, 49, xty9, xkc9, by decide, XT5 33 rfl rfl, rfl, by decide +kernel, fun h => by cases h⟩
