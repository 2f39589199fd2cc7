section
/-! ===== BEGIN words of one list among another's, by their places ===== -/
theorem goodIn_r {big : List Cond} (ws : List Cond) (ps : List Nat) (hp : ws = ps.filterMap (fun i => big[i]?)) (h : ws.all goodWord = true) : GoodIn big ws := by
  intro w hw
  have h1 := List.all_eq_true.mp h w hw
  rw [hp] at hw
  obtain ⟨i, -, hi⟩ := List.mem_filterMap.mp hw
  have hm : w ∈ big := by first | exact List.mem_of_getElem? hi | exact List.getElem?_mem hi
  exact ⟨hm, good_of_word h1⟩
theorem goodIn_app {big a b : List Cond} (ha : GoodIn big a) (hb : GoodIn big b) : GoodIn big (a ++ b) := fun w h => (List.mem_append.mp h).elim (ha w) (hb w)
theorem goodIn_ca {big a b : List Cond} {c : Cond} (ha : GoodIn big (c :: a)) (hb : GoodIn big b) : GoodIn big (c :: (a ++ b)) := fun w h => (List.mem_cons.mp h).elim (fun e => ha w (List.mem_cons.mpr (Or.inl e))) (fun h => (List.mem_append.mp h).elim (fun h => ha w (List.mem_cons.mpr (Or.inr h))) (hb w))
theorem goodIn_sub {big ws : List Cond} (hm : ∀ w ∈ ws, w ∈ big) (h : ws.all goodWord = true) : GoodIn big ws := fun w hw => ⟨hm w hw, good_of_word (List.all_eq_true.mp h w hw)⟩
/-! ===== END ===== -/

/-! ===== BEGIN printed: names, fields, word lists, decode rows ===== -/
def RX0 : String := "CharRows$Row"
def TX0 : u_T := fun k => match k with
  | 0 => ("CharRows$Row", "items", "[I", true)
  | _ => ("CharRows$Row", "count", "I", false)
def tyX0 : Nat → FieldType := fun k => match k with
  | 0 => .array .int
  | _ => .int
abbrev wsX00 : List Cond := u_ws RX0 TX0 2
theorem nmX0 : ∀ a, a < 2 → ∀ b, b < 2 → a ≠ b → (TX0 a).2.1 ≠ (TX0 b).2.1 := by decide +kernel
theorem tyX0_ok : ∀ k, k < 2 → parseFieldDescriptor (TX0 k).2.2.1 = some (tyX0 k) := by decide +kernel
abbrev cX0_init : ByteArray := prog_2_method_1_code
def yX0_init : MethodName := ⟨RX0, "<init>", "(I)V"⟩
abbrev cX0_empty : ByteArray := prog_2_method_2_code
def yX0_empty : MethodName := ⟨RX0, "empty", "()V"⟩
abbrev cX0_add : ByteArray := prog_2_method_3_code
def yX0_add : MethodName := ⟨RX0, "add", "(I)V"⟩
abbrev cX0_addAll : ByteArray := prog_2_method_4_code
def yX0_addAll : MethodName := ⟨RX0, "addAll", "([I)V"⟩
abbrev cX0_addUnitsOf : ByteArray := prog_2_method_5_code
def yX0_addUnitsOf : MethodName := ⟨RX0, "addUnitsOf", "(I)V"⟩
abbrev cX0_addPointsOf : ByteArray := prog_2_method_6_code
def yX0_addPointsOf : MethodName := ⟨RX0, "addPointsOf", "([II)V"⟩
def RX1 : String := "CharRows$Text"
def TX1 : u_T := fun k => match k with
  | 0 => ("CharRows$Text", "kindOfItems", "I", true)
  | _ => ("CharRows$Text", "items", "[I", true)
def tyX1 : Nat → FieldType := fun k => match k with
  | 0 => .int
  | _ => .array .int
abbrev wsX10 : List Cond := u_ws RX1 TX1 2
theorem nmX1 : ∀ a, a < 2 → ∀ b, b < 2 → a ≠ b → (TX1 a).2.1 ≠ (TX1 b).2.1 := by decide +kernel
theorem tyX1_ok : ∀ k, k < 2 → parseFieldDescriptor (TX1 k).2.2.1 = some (tyX1 k) := by decide +kernel
abbrev cX1_init : ByteArray := prog_3_method_1_code
def yX1_init : MethodName := ⟨RX1, "<init>", "(ILCharRows$Row;)V"⟩
abbrev cX1_mostItems : ByteArray := prog_3_method_2_code
def yX1_mostItems : MethodName := ⟨RX1, "mostItems", "()I"⟩
def RX2 : String := "CharRows"
def TX2 : u_T := fun k => match k with
  | 0 => ("CharRows", "texts", "[LCharRows$Text;", true)
  | 1 => ("CharRows", "keptTexts", "[LCharRows$Text;", true)
  | 2 => ("CharRows", "keptCount", "I", false)
  | 3 => ("CharRows", "draft", "LCharRows$Row;", true)
  | 4 => ("CharRows", "work", "LCharRows$Row;", true)
  | 5 => ("CharRows", "secondWork", "LCharRows$Row;", true)
  | 6 => ("CharRows", "lastCode", "I", false)
  | _ => ("CharRows", "lastPlace", "I", false)
def tyX2 : Nat → FieldType := fun k => match k with
  | 0 => .array (.object "CharRows$Text")
  | 1 => .array (.object "CharRows$Text")
  | 2 => .int
  | 3 => .object "CharRows$Row"
  | 4 => .object "CharRows$Row"
  | 5 => .object "CharRows$Row"
  | 6 => .int
  | _ => .int
abbrev wsX20 : List Cond := u_ws RX2 TX2 8
theorem nmX2 : ∀ a, a < 8 → ∀ b, b < 8 → a ≠ b → (TX2 a).2.1 ≠ (TX2 b).2.1 := by decide +kernel
theorem tyX2_ok : ∀ k, k < 8 → parseFieldDescriptor (TX2 k).2.2.1 = some (tyX2 k) := by decide +kernel
abbrev cX2_init : ByteArray := prog_1_method_1_code
def yX2_init : MethodName := ⟨RX2, "<init>", "()V"⟩
abbrev cX2_code : ByteArray := prog_1_method_2_code
def yX2_code : MethodName := ⟨RX2, "code", "()I"⟩
abbrev cX2_place : ByteArray := prog_1_method_3_code
def yX2_place : MethodName := ⟨RX2, "place", "()I"⟩
abbrev cX2_point : ByteArray := prog_1_method_4_code
def yX2_point : MethodName := ⟨RX2, "point", "(I)I"⟩
abbrev cX2_unit : ByteArray := prog_1_method_5_code
def yX2_unit : MethodName := ⟨RX2, "unit", "(I)I"⟩
abbrev cX2_fresh : ByteArray := prog_1_method_6_code
def yX2_fresh : MethodName := ⟨RX2, "fresh", "()I"⟩
abbrev cX2_lay : ByteArray := prog_1_method_7_code
def yX2_lay : MethodName := ⟨RX2, "lay", "(II)I"⟩
abbrev cX2_share : ByteArray := prog_1_method_8_code
def yX2_share : MethodName := ⟨RX2, "share", "(II)I"⟩
abbrev cX2_nothing : ByteArray := prog_1_method_9_code
def yX2_nothing : MethodName := ⟨RX2, "nothing", "(I)I"⟩
abbrev cX2_sort : ByteArray := prog_1_method_10_code
def yX2_sort : MethodName := ⟨RX2, "sort", "(I)I"⟩
abbrev cX2_length : ByteArray := prog_1_method_11_code
def yX2_length : MethodName := ⟨RX2, "length", "(I)I"⟩
abbrev cX2_points : ByteArray := prog_1_method_12_code
def yX2_points : MethodName := ⟨RX2, "points", "(I)I"⟩
abbrev cX2_at : ByteArray := prog_1_method_13_code
def yX2_at : MethodName := ⟨RX2, "at", "(II)I"⟩
abbrev cX2_pointAt : ByteArray := prog_1_method_14_code
def yX2_pointAt : MethodName := ⟨RX2, "pointAt", "(II)I"⟩
abbrev cX2_put : ByteArray := prog_1_method_15_code
def yX2_put : MethodName := ⟨RX2, "put", "(III)I"⟩
abbrev cX2_turnInto : ByteArray := prog_1_method_16_code
def yX2_turnInto : MethodName := ⟨RX2, "turnInto", "(III)I"⟩
abbrev cX2_tell : ByteArray := prog_1_method_17_code
def yX2_tell : MethodName := ⟨RX2, "tell", "(III)I"⟩
abbrev cX2_read : ByteArray := prog_1_method_18_code
def yX2_read : MethodName := ⟨RX2, "read", "(III)I"⟩
abbrev cX2_cut : ByteArray := prog_1_method_19_code
def yX2_cut : MethodName := ⟨RX2, "cut", "(IIII)I"⟩
abbrev cX2_join : ByteArray := prog_1_method_20_code
def yX2_join : MethodName := ⟨RX2, "join", "(III)I"⟩
abbrev cX2_back : ByteArray := prog_1_method_21_code
def yX2_back : MethodName := ⟨RX2, "back", "(II)I"⟩
abbrev cX2_copy : ByteArray := prog_1_method_22_code
def yX2_copy : MethodName := ⟨RX2, "copy", "(IIIII)I"⟩
abbrev cX2_find : ByteArray := prog_1_method_23_code
def yX2_find : MethodName := ⟨RX2, "find", "(III)I"⟩
abbrev cX2_compare : ByteArray := prog_1_method_24_code
def yX2_compare : MethodName := ⟨RX2, "compare", "(III)I"⟩
abbrev cX2_change : ByteArray := prog_1_method_25_code
def yX2_change : MethodName := ⟨RX2, "change", "(III)I"⟩
abbrev cX2_keep : ByteArray := prog_1_method_26_code
def yX2_keep : MethodName := ⟨RX2, "keep", "(I)I"⟩
abbrev cX2_kept : ByteArray := prog_1_method_27_code
def yX2_kept : MethodName := ⟨RX2, "kept", "()I"⟩
abbrev cX2_same : ByteArray := prog_1_method_28_code
def yX2_same : MethodName := ⟨RX2, "same", "(II)I"⟩
abbrev cX2_kind : ByteArray := prog_1_method_29_code
def yX2_kind : MethodName := ⟨RX2, "kind", "(I)I"⟩
abbrev cX2_done : ByteArray := prog_1_method_30_code
def yX2_done : MethodName := ⟨RX2, "done", "(I)I"⟩
abbrev cX2_refuse : ByteArray := prog_1_method_31_code
def yX2_refuse : MethodName := ⟨RX2, "refuse", "(I)I"⟩
abbrev cX2_refuseAt : ByteArray := prog_1_method_32_code
def yX2_refuseAt : MethodName := ⟨RX2, "refuseAt", "(I)I"⟩
abbrev cX2_setText : ByteArray := prog_1_method_33_code
def yX2_setText : MethodName := ⟨RX2, "setText", "(IILCharRows$Row;)I"⟩
abbrev cX2_keptLike : ByteArray := prog_1_method_34_code
def yX2_keptLike : MethodName := ⟨RX2, "keptLike", "(LCharRows$Text;)I"⟩
abbrev cX2_isNoText : ByteArray := prog_1_method_35_code
def yX2_isNoText : MethodName := ⟨RX2, "isNoText", "(I)Z"⟩
abbrev cX2_isNoPoint : ByteArray := prog_1_method_36_code
def yX2_isNoPoint : MethodName := ⟨RX2, "isNoPoint", "(I)Z"⟩
abbrev cX2_isNoForm : ByteArray := prog_1_method_37_code
def yX2_isNoForm : MethodName := ⟨RX2, "isNoForm", "(I)Z"⟩
abbrev cX2_isNoWay : ByteArray := prog_1_method_38_code
def yX2_isNoWay : MethodName := ⟨RX2, "isNoWay", "(I)Z"⟩
abbrev cX2_isHigh : ByteArray := prog_1_method_39_code
def yX2_isHigh : MethodName := ⟨RX2, "isHigh", "(I)Z"⟩
abbrev cX2_isLow : ByteArray := prog_1_method_40_code
def yX2_isLow : MethodName := ⟨RX2, "isLow", "(I)Z"⟩
abbrev cX2_unitCount : ByteArray := prog_1_method_41_code
def yX2_unitCount : MethodName := ⟨RX2, "unitCount", "(I)I"⟩
abbrev cX2_maskOf : ByteArray := prog_1_method_42_code
def yX2_maskOf : MethodName := ⟨RX2, "maskOf", "(I)I"⟩
abbrev cX2_sortOf : ByteArray := prog_1_method_43_code
def yX2_sortOf : MethodName := ⟨RX2, "sortOf", "(LCharRows$Text;)I"⟩
abbrev cX2_isInsidePair : ByteArray := prog_1_method_44_code
def yX2_isInsidePair : MethodName := ⟨RX2, "isInsidePair", "([III)Z"⟩
abbrev cX2_pairedPoint : ByteArray := prog_1_method_45_code
def yX2_pairedPoint : MethodName := ⟨RX2, "pairedPoint", "([II)I"⟩
abbrev cX2_partsPair : ByteArray := prog_1_method_46_code
def yX2_partsPair : MethodName := ⟨RX2, "partsPair", "(LCharRows$Text;I)Z"⟩
abbrev cX2_isBeyond : ByteArray := prog_1_method_47_code
def yX2_isBeyond : MethodName := ⟨RX2, "isBeyond", "(LCharRows$Text;II)Z"⟩
abbrev cX2_listPoints : ByteArray := prog_1_method_48_code
def yX2_listPoints : MethodName := ⟨RX2, "listPoints", "(LCharRows$Text;LCharRows$Row;)V"⟩
abbrev cX2_listUnits : ByteArray := prog_1_method_49_code
def yX2_listUnits : MethodName := ⟨RX2, "listUnits", "(LCharRows$Text;LCharRows$Row;)V"⟩
abbrev cX2_firstUntellable : ByteArray := prog_1_method_50_code
def yX2_firstUntellable : MethodName := ⟨RX2, "firstUntellable", "(LCharRows$Row;I)I"⟩
abbrev cX2_tellUnits : ByteArray := prog_1_method_51_code
def yX2_tellUnits : MethodName := ⟨RX2, "tellUnits", "(LCharRows$Row;ILCharRows$Row;)V"⟩
abbrev cX2_tellPoints : ByteArray := prog_1_method_52_code
def yX2_tellPoints : MethodName := ⟨RX2, "tellPoints", "(LCharRows$Row;ILCharRows$Row;)V"⟩
abbrev cX2_tellInManyBytes : ByteArray := prog_1_method_53_code
def yX2_tellInManyBytes : MethodName := ⟨RX2, "tellInManyBytes", "(ILCharRows$Row;)V"⟩
abbrev cX2_readUnits : ByteArray := prog_1_method_54_code
def yX2_readUnits : MethodName := ⟨RX2, "readUnits", "([IILCharRows$Row;)I"⟩
abbrev cX2_readTwoBytes : ByteArray := prog_1_method_55_code
def yX2_readTwoBytes : MethodName := ⟨RX2, "readTwoBytes", "([IILCharRows$Row;)I"⟩
abbrev cX2_readManyBytes : ByteArray := prog_1_method_56_code
def yX2_readManyBytes : MethodName := ⟨RX2, "readManyBytes", "([ILCharRows$Row;)I"⟩
abbrev cX2_byteCount : ByteArray := prog_1_method_57_code
def yX2_byteCount : MethodName := ⟨RX2, "byteCount", "(I)I"⟩
abbrev cX2_pointFrom : ByteArray := prog_1_method_58_code
def yX2_pointFrom : MethodName := ⟨RX2, "pointFrom", "([II)I"⟩
abbrev cX2_firstByteOffset : ByteArray := prog_1_method_59_code
def yX2_firstByteOffset : MethodName := ⟨RX2, "firstByteOffset", "(I)I"⟩
abbrev cX2_isToldIn : ByteArray := prog_1_method_60_code
def yX2_isToldIn : MethodName := ⟨RX2, "isToldIn", "(II)Z"⟩
abbrev cX2_standsAt : ByteArray := prog_1_method_61_code
def yX2_standsAt : MethodName := ⟨RX2, "standsAt", "(LCharRows$Text;LCharRows$Text;I)Z"⟩
abbrev cX2_order : ByteArray := prog_1_method_62_code
def yX2_order : MethodName := ⟨RX2, "order", "(LCharRows$Row;LCharRows$Row;)I"⟩
abbrev cX2_hasSameItems : ByteArray := prog_1_method_63_code
def yX2_hasSameItems : MethodName := ⟨RX2, "hasSameItems", "(LCharRows$Text;LCharRows$Text;)Z"⟩
abbrev cX2_greater : ByteArray := prog_1_method_64_code
def yX2_greater : MethodName := ⟨RX2, "greater", "(I)I"⟩
abbrev cX2_lesser : ByteArray := prog_1_method_65_code
def yX2_lesser : MethodName := ⟨RX2, "lesser", "(I)I"⟩
def RX3 : String := "CharRowsModel"
def TX3 : u_T := fun k => match k with
  | 0 => ("CharRowsModel", "textRow", "[I", true)
  | 1 => ("CharRowsModel", "keptRow", "[I", true)
  | 2 => ("CharRowsModel", "kept", "I", false)
  | 3 => ("CharRowsModel", "rowSort", "[I", true)
  | 4 => ("CharRowsModel", "rowMany", "[I", true)
  | 5 => ("CharRowsModel", "rowItem", "[I", true)
  | 6 => ("CharRowsModel", "draft", "[I", true)
  | 7 => ("CharRowsModel", "drafted", "I", false)
  | 8 => ("CharRowsModel", "code", "I", false)
  | 9 => ("CharRowsModel", "broken", "I", false)
  | 10 => ("CharRowsModel", "points", "[I", true)
  | 11 => ("CharRowsModel", "pointMany", "I", false)
  | 12 => ("CharRowsModel", "units", "[I", true)
  | 13 => ("CharRowsModel", "unitMany", "I", false)
  | 14 => ("CharRowsModel", "others", "[I", true)
  | 15 => ("CharRowsModel", "otherMany", "I", false)
  | 16 => ("CharRowsModel", "bytesMany", "I", false)
  | _ => ("CharRowsModel", "bytes", "[I", true)
def tyX3 : Nat → FieldType := fun k => match k with
  | 0 => .array .int
  | 1 => .array .int
  | 2 => .int
  | 3 => .array .int
  | 4 => .array .int
  | 5 => .array .int
  | 6 => .array .int
  | 7 => .int
  | 8 => .int
  | 9 => .int
  | 10 => .array .int
  | 11 => .int
  | 12 => .array .int
  | 13 => .int
  | 14 => .array .int
  | 15 => .int
  | 16 => .int
  | _ => .array .int
abbrev wsX30 : List Cond := u_ws RX3 TX3 18
theorem nmX3 : ∀ a, a < 18 → ∀ b, b < 18 → a ≠ b → (TX3 a).2.1 ≠ (TX3 b).2.1 := by decide +kernel
theorem tyX3_ok : ∀ k, k < 18 → parseFieldDescriptor (TX3 k).2.2.1 = some (tyX3 k) := by decide +kernel
abbrev cX3_init : ByteArray := prog_5_method_1_code
def yX3_init : MethodName := ⟨RX3, "<init>", "()V"⟩
abbrev cX3_within : ByteArray := prog_5_method_3_code
def yX3_within : MethodName := ⟨RX3, "within", "(III)Z"⟩
abbrev cX3_isText : ByteArray := prog_5_method_4_code
def yX3_isText : MethodName := ⟨RX3, "isText", "(I)Z"⟩
abbrev cX3_isPoint : ByteArray := prog_5_method_5_code
def yX3_isPoint : MethodName := ⟨RX3, "isPoint", "(I)Z"⟩
abbrev cX3_isHigh : ByteArray := prog_5_method_6_code
def yX3_isHigh : MethodName := ⟨RX3, "isHigh", "(I)Z"⟩
abbrev cX3_isLow : ByteArray := prog_5_method_7_code
def yX3_isLow : MethodName := ⟨RX3, "isLow", "(I)Z"⟩
abbrev cX3_no : ByteArray := prog_5_method_8_code
def yX3_no : MethodName := ⟨RX3, "no", "(I)I"⟩
abbrev cX3_yes : ByteArray := prog_5_method_9_code
def yX3_yes : MethodName := ⟨RX3, "yes", "(I)I"⟩
abbrev cX3_breaks : ByteArray := prog_5_method_10_code
def yX3_breaks : MethodName := ⟨RX3, "breaks", "(I)I"⟩
abbrev cX3_code : ByteArray := prog_5_method_11_code
def yX3_code : MethodName := ⟨RX3, "code", "()I"⟩
abbrev cX3_place : ByteArray := prog_5_method_12_code
def yX3_place : MethodName := ⟨RX3, "place", "()I"⟩
abbrev cX3_freeRow : ByteArray := prog_5_method_13_code
def yX3_freeRow : MethodName := ⟨RX3, "freeRow", "()I"⟩
abbrev cX3_become : ByteArray := prog_5_method_14_code
def yX3_become : MethodName := ⟨RX3, "become", "(II[II)I"⟩
abbrev cX3_sortOf : ByteArray := prog_5_method_15_code
def yX3_sortOf : MethodName := ⟨RX3, "sortOf", "(I)I"⟩
abbrev cX3_manyOf : ByteArray := prog_5_method_16_code
def yX3_manyOf : MethodName := ⟨RX3, "manyOf", "(I)I"⟩
abbrev cX3_item : ByteArray := prog_5_method_17_code
def yX3_item : MethodName := ⟨RX3, "item", "(II)I"⟩
abbrev cX3_addUnits : ByteArray := prog_5_method_18_code
def yX3_addUnits : MethodName := ⟨RX3, "addUnits", "(I)V"⟩
abbrev cX3_unitsToPoints : ByteArray := prog_5_method_19_code
def yX3_unitsToPoints : MethodName := ⟨RX3, "unitsToPoints", "()V"⟩
abbrev cX3_pointsToUnits : ByteArray := prog_5_method_20_code
def yX3_pointsToUnits : MethodName := ⟨RX3, "pointsToUnits", "()V"⟩
abbrev cX3_take : ByteArray := prog_5_method_21_code
def yX3_take : MethodName := ⟨RX3, "take", "(I)V"⟩
abbrev cX3_point : ByteArray := prog_5_method_22_code
def yX3_point : MethodName := ⟨RX3, "point", "(I)I"⟩
abbrev cX3_unit : ByteArray := prog_5_method_23_code
def yX3_unit : MethodName := ⟨RX3, "unit", "(I)I"⟩
abbrev cX3_fresh : ByteArray := prog_5_method_24_code
def yX3_fresh : MethodName := ⟨RX3, "fresh", "()I"⟩
abbrev cX3_lay : ByteArray := prog_5_method_25_code
def yX3_lay : MethodName := ⟨RX3, "lay", "(II)I"⟩
abbrev cX3_share : ByteArray := prog_5_method_26_code
def yX3_share : MethodName := ⟨RX3, "share", "(II)I"⟩
abbrev cX3_nothing : ByteArray := prog_5_method_27_code
def yX3_nothing : MethodName := ⟨RX3, "nothing", "(I)I"⟩
abbrev cX3_sort : ByteArray := prog_5_method_28_code
def yX3_sort : MethodName := ⟨RX3, "sort", "(I)I"⟩
abbrev cX3_length : ByteArray := prog_5_method_29_code
def yX3_length : MethodName := ⟨RX3, "length", "(I)I"⟩
abbrev cX3_wantsPoints : ByteArray := prog_5_method_30_code
def yX3_wantsPoints : MethodName := ⟨RX3, "wantsPoints", "(I)I"⟩
abbrev cX3_points : ByteArray := prog_5_method_31_code
def yX3_points : MethodName := ⟨RX3, "points", "(I)I"⟩
abbrev cX3_at : ByteArray := prog_5_method_32_code
def yX3_at : MethodName := ⟨RX3, "at", "(II)I"⟩
abbrev cX3_pointAt : ByteArray := prog_5_method_33_code
def yX3_pointAt : MethodName := ⟨RX3, "pointAt", "(II)I"⟩
abbrev cX3_put : ByteArray := prog_5_method_34_code
def yX3_put : MethodName := ⟨RX3, "put", "(III)I"⟩
abbrev cX3_turnInto : ByteArray := prog_5_method_35_code
def yX3_turnInto : MethodName := ⟨RX3, "turnInto", "(III)I"⟩
abbrev cX3_addByte : ByteArray := prog_5_method_36_code
def yX3_addByte : MethodName := ⟨RX3, "addByte", "(I)V"⟩
abbrev cX3_addPoint : ByteArray := prog_5_method_37_code
def yX3_addPoint : MethodName := ⟨RX3, "addPoint", "(I)V"⟩
abbrev cX3_tell : ByteArray := prog_5_method_38_code
def yX3_tell : MethodName := ⟨RX3, "tell", "(III)I"⟩
abbrev cX3_longOf : ByteArray := prog_5_method_39_code
def yX3_longOf : MethodName := ⟨RX3, "longOf", "(I)I"⟩
abbrev cX3_pointFrom : ByteArray := prog_5_method_40_code
def yX3_pointFrom : MethodName := ⟨RX3, "pointFrom", "(III)I"⟩
abbrev cX3_read : ByteArray := prog_5_method_41_code
def yX3_read : MethodName := ⟨RX3, "read", "(III)I"⟩
abbrev cX3_parts : ByteArray := prog_5_method_42_code
def yX3_parts : MethodName := ⟨RX3, "parts", "(II)Z"⟩
abbrev cX3_cut : ByteArray := prog_5_method_43_code
def yX3_cut : MethodName := ⟨RX3, "cut", "(IIII)I"⟩
abbrev cX3_join : ByteArray := prog_5_method_44_code
def yX3_join : MethodName := ⟨RX3, "join", "(III)I"⟩
abbrev cX3_back : ByteArray := prog_5_method_45_code
def yX3_back : MethodName := ⟨RX3, "back", "(II)I"⟩
abbrev cX3_copy : ByteArray := prog_5_method_46_code
def yX3_copy : MethodName := ⟨RX3, "copy", "(IIIII)I"⟩
abbrev cX3_find : ByteArray := prog_5_method_47_code
def yX3_find : MethodName := ⟨RX3, "find", "(III)I"⟩
abbrev cX3_against : ByteArray := prog_5_method_48_code
def yX3_against : MethodName := ⟨RX3, "against", "([II)I"⟩
abbrev cX3_compare : ByteArray := prog_5_method_49_code
def yX3_compare : MethodName := ⟨RX3, "compare", "(III)I"⟩
abbrev cX3_inCase : ByteArray := prog_5_method_50_code
def yX3_inCase : MethodName := ⟨RX3, "inCase", "(II)I"⟩
abbrev cX3_change : ByteArray := prog_5_method_51_code
def yX3_change : MethodName := ⟨RX3, "change", "(III)I"⟩
abbrev cX3_keep : ByteArray := prog_5_method_52_code
def yX3_keep : MethodName := ⟨RX3, "keep", "(I)I"⟩
abbrev cX3_kept : ByteArray := prog_5_method_53_code
def yX3_kept : MethodName := ⟨RX3, "kept", "()I"⟩
abbrev cX3_same : ByteArray := prog_5_method_54_code
def yX3_same : MethodName := ⟨RX3, "same", "(II)I"⟩
abbrev cX3_kind : ByteArray := prog_5_method_55_code
def yX3_kind : MethodName := ⟨RX3, "kind", "(I)I"⟩
def RJx8e188 : String := "java/lang/Cloneable"
def TJx8e188 : u_T := fun k => match k with
  | _ => ("", "", "", false)
def tyJx8e188 : Nat → FieldType := fun k => match k with
  | _ => .int
abbrev wsJx8e1880 : List Cond := u_ws RJx8e188 TJx8e188 0
theorem nmJx8e188 : ∀ a, a < 0 → ∀ b, b < 0 → a ≠ b → (TJx8e188 a).2.1 ≠ (TJx8e188 b).2.1 := by decide +kernel
theorem tyJx8e188_ok : ∀ k, k < 0 → parseFieldDescriptor (TJx8e188 k).2.2.1 = some (tyJx8e188 k) := by decide +kernel
def RJ9 : String := "java/lang/Math"
def TJ9 : u_T := fun k => match k with
  | _ => ("", "", "", false)
def tyJ9 : Nat → FieldType := fun k => match k with
  | _ => .int
abbrev wsJ90 : List Cond := u_ws RJ9 TJ9 0
theorem nmJ9 : ∀ a, a < 0 → ∀ b, b < 0 → a ≠ b → (TJ9 a).2.1 ≠ (TJ9 b).2.1 := by decide +kernel
theorem tyJ9_ok : ∀ k, k < 0 → parseFieldDescriptor (TJ9 k).2.2.1 = some (tyJ9 k) := by decide +kernel
abbrev cJ9_min_7cf53 : ByteArray := prog_7_method_69_code
def yJ9_min_7cf53 : MethodName := ⟨RJ9, "min", "(II)I"⟩
def RJ10 : String := "java/lang/System"
def TJ10 : u_T := fun k => match k with
  | _ => ("", "", "", false)
def tyJ10 : Nat → FieldType := fun k => match k with
  | _ => .int
abbrev wsJ100 : List Cond := u_ws RJ10 TJ10 0
theorem nmJ10 : ∀ a, a < 0 → ∀ b, b < 0 → a ≠ b → (TJ10 a).2.1 ≠ (TJ10 b).2.1 := by decide +kernel
theorem tyJ10_ok : ∀ k, k < 0 → parseFieldDescriptor (TJ10 k).2.2.1 = some (tyJ10 k) := by decide +kernel
def RJ7 : String := "java/util/Arrays"
def TJ7 : u_T := fun k => match k with
  | _ => ("", "", "", false)
def tyJ7 : Nat → FieldType := fun k => match k with
  | _ => .int
abbrev wsJ70 : List Cond := u_ws RJ7 TJ7 0
theorem nmJ7 : ∀ a, a < 0 → ∀ b, b < 0 → a ≠ b → (TJ7 a).2.1 ≠ (TJ7 b).2.1 := by decide +kernel
theorem tyJ7_ok : ∀ k, k < 0 → parseFieldDescriptor (TJ7 k).2.2.1 = some (tyJ7 k) := by decide +kernel
abbrev cJ7_copyOf_59c91 : ByteArray := prog_9_method_123_code
def yJ7_copyOf_59c91 : MethodName := ⟨RJ7, "copyOf", "([II)[I"⟩
def RL : String := "CharRowsLaw"
abbrev cL_law : ByteArray := code
def yL_law : MethodName := ⟨RL, "law", "([I)Z"⟩
def wsX0_init : List Cond := .code yX0_init cX0_init 2 none :: ([.methodLink RX0 3 objectInit, .instanceMethod objectInit, .code objectInit ⟨#[0xb1]⟩ 1 none, .arrayClass .int, .fieldLink RX0 9 "CharRows$Row" "items" "[I", .fieldLink RX0 15 "CharRows$Row" "count" "I"] ++ wsX00)
def wsX0_empty : List Cond := .code yX0_empty cX0_empty 1 none :: ([.fieldLink RX0 15 "CharRows$Row" "count" "I"] ++ wsX00)
def wsX0_add : List Cond := .code yX0_add cX0_add 2 none :: ([.fieldLink RX0 15 "CharRows$Row" "count" "I", .fieldLink RX0 9 "CharRows$Row" "items" "[I"] ++ wsX00)
def wsX0_addAll : List Cond := .code yX0_addAll cX0_addAll 3 none :: ([.methodLink RX0 19 yX0_add, .instanceMethod yX0_add, .selects RX0 yX0_add yX0_add, .initialized RX0, .code yX0_add cX0_add 2 none, .fieldLink RX0 15 "CharRows$Row" "count" "I", .fieldLink RX0 9 "CharRows$Row" "items" "[I"] ++ wsX00)
def wsX0_addUnitsOf : List Cond := .code yX0_addUnitsOf cX0_addUnitsOf 3 none :: ([.constant RX0 23 (65536), .constant RX0 24 (55296), .constant RX0 25 (56320), .methodLink RX0 19 yX0_add, .instanceMethod yX0_add, .selects RX0 yX0_add yX0_add, .initialized RX0, .code yX0_add cX0_add 2 none, .fieldLink RX0 15 "CharRows$Row" "count" "I", .fieldLink RX0 9 "CharRows$Row" "items" "[I"] ++ wsX00)
def wsX2_isHigh : List Cond := .code yX2_isHigh cX2_isHigh 1 (some .boolean) :: ([.constant RX2 182 (55296), .constant RX2 183 (56320)])
def wsX2_isLow : List Cond := .code yX2_isLow cX2_isLow 1 (some .boolean) :: ([.constant RX2 183 (56320), .constant RX2 184 (57343)])
def wsX2_isInsidePair : List Cond := .code yX2_isInsidePair cX2_isInsidePair 3 (some .boolean) :: ([.methodLink RX2 167 yX2_isHigh, .static yX2_isHigh, .initialized RX2, .code yX2_isHigh cX2_isHigh 1 (some .boolean), .constant RX2 182 (55296), .constant RX2 183 (56320), .methodLink RX2 170 yX2_isLow, .static yX2_isLow, .code yX2_isLow cX2_isLow 1 (some .boolean), .constant RX2 184 (57343)])
def wsX2_pairedPoint : List Cond := .code yX2_pairedPoint cX2_pairedPoint 2 (some .int) :: ([.constant RX2 173 (65536), .constant RX2 182 (55296), .constant RX2 183 (56320)])
def wsX0_addPointsOf : List Cond := .code yX0_addPointsOf cX0_addPointsOf 4 none :: ([.static yX2_isInsidePair, .initialized RX2, .code yX2_isInsidePair cX2_isInsidePair 3 (some .boolean), .methodLink RX2 167 yX2_isHigh, .static yX2_isHigh, .code yX2_isHigh cX2_isHigh 1 (some .boolean), .constant RX2 182 (55296), .constant RX2 183 (56320), .methodLink RX2 170 yX2_isLow, .static yX2_isLow, .code yX2_isLow cX2_isLow 1 (some .boolean), .constant RX2 184 (57343), .static yX2_pairedPoint, .code yX2_pairedPoint cX2_pairedPoint 2 (some .int), .constant RX2 173 (65536), .methodLink RX0 19 yX0_add, .instanceMethod yX0_add, .selects RX0 yX0_add yX0_add, .initialized RX0, .code yX0_add cX0_add 2 none, .fieldLink RX0 15 "CharRows$Row" "count" "I", .fieldLink RX0 9 "CharRows$Row" "items" "[I"] ++ wsX00)
def wsJ7_copyOf_59c91 : List Cond := .code yJ7_copyOf_59c91 cJ7_copyOf_59c91 3 (some (.array .int)) :: ([.methodLink RJ7 316 ⟨"[I", "clone", "()Ljava/lang/Object;"⟩, .sameMethod "[I" "java/lang/Object" "clone" "()Ljava/lang/Object;", .native ⟨"java/lang/Object", "clone", "()Ljava/lang/Object;"⟩, .instanceMethod ⟨"java/lang/Object", "clone", "()Ljava/lang/Object;"⟩, .selects "[I" ⟨"[I", "clone", "()Ljava/lang/Object;"⟩ ⟨"java/lang/Object", "clone", "()Ljava/lang/Object;"⟩, .classLink RJ7 317 "[I", .arrayClass .int, .methodLink RJ7 304 Lib.Math.min.name, .static Lib.Math.min.name, .initialized "java/lang/Math", .code Lib.Math.min.name Lib.Math.min.code 2 (some .int), .methodLink RJ7 150 arraycopyName, .native arraycopyName, .static arraycopyName, .initialized "java/lang/System"])
def wsX1_init_r1 : List Cond := [Cond.methodLink RX1 3 objectInit, Cond.instanceMethod objectInit, Cond.code objectInit ⟨#[0xb1]⟩ 1 none, Cond.fieldLink RX1 9 "CharRows$Text" "kindOfItems" "I", Cond.fieldLink RX1 15 "CharRows$Row" "items" "[I", Cond.fieldLink RX1 21 "CharRows$Row" "count" "I", Cond.fieldLink RX1 30 "CharRows$Text" "items" "[I", Cond.methodLink RX1 24 yJ7_copyOf_59c91, Cond.static yJ7_copyOf_59c91, Cond.initialized RJ7, Cond.code yJ7_copyOf_59c91 cJ7_copyOf_59c91 3 (some (.array .int)), Cond.methodLink RJ7 316 ⟨"[I", "clone", "()Ljava/lang/Object;"⟩, Cond.sameMethod "[I" "java/lang/Object" "clone" "()Ljava/lang/Object;", Cond.native ⟨"java/lang/Object", "clone", "()Ljava/lang/Object;"⟩, Cond.instanceMethod ⟨"java/lang/Object", "clone", "()Ljava/lang/Object;"⟩, Cond.selects "[I" ⟨"[I", "clone", "()Ljava/lang/Object;"⟩ ⟨"java/lang/Object", "clone", "()Ljava/lang/Object;"⟩, Cond.classLink RJ7 317 "[I", Cond.arrayClass .int, Cond.methodLink RJ7 304 Lib.Math.min.name, Cond.static Lib.Math.min.name, Cond.initialized "java/lang/Math", Cond.code Lib.Math.min.name Lib.Math.min.code 2 (some .int), Cond.methodLink RJ7 150 arraycopyName, Cond.native arraycopyName]
def wsX1_init_r2 : List Cond := [Cond.static arraycopyName, Cond.initialized "java/lang/System"]
def wsX1_init : List Cond := .code yX1_init cX1_init 3 none :: ((wsX1_init_r1 ++ wsX1_init_r2) ++ wsX10 ++ wsX00)
def wsX1_mostItems : List Cond := .code yX1_mostItems cX1_mostItems 1 (some .int) :: ([.fieldLink RX1 9 "CharRows$Text" "kindOfItems" "I"] ++ wsX10)
def wsX2_init : List Cond := .code yX2_init cX2_init 1 none :: ([.methodLink RX2 1 objectInit, .instanceMethod objectInit, .code objectInit ⟨#[0xb1]⟩ 1 none, .classLink RX2 9 RX1, .fieldLink RX2 11 "CharRows" "texts" "[LCharRows$Text;", .fieldLink RX2 15 "CharRows" "keptTexts" "[LCharRows$Text;", .fieldLink RX2 18 "CharRows" "keptCount" "I", .classLink RX2 22 RX0, .instantiable RX0 2, .initialized RX0, .fieldLink RX2 27 "CharRows" "draft" "LCharRows$Row;", .fieldLink RX2 31 "CharRows" "work" "LCharRows$Row;", .fieldLink RX2 34 "CharRows" "secondWork" "LCharRows$Row;", .fieldLink RX2 37 "CharRows" "lastCode" "I", .fieldLink RX2 40 "CharRows" "lastPlace" "I", .methodLink RX2 24 yX0_init, .instanceMethod yX0_init, .code yX0_init cX0_init 2 none, .methodLink RX0 3 objectInit, .arrayClass .int, .fieldLink RX0 9 "CharRows$Row" "items" "[I", .fieldLink RX0 15 "CharRows$Row" "count" "I"] ++ wsX20 ++ wsX00)
def wsX2_code : List Cond := .code yX2_code cX2_code 1 (some .int) :: ([.fieldLink RX2 37 "CharRows" "lastCode" "I"] ++ wsX20)
def wsX2_place : List Cond := .code yX2_place cX2_place 1 (some .int) :: ([.fieldLink RX2 40 "CharRows" "lastPlace" "I"] ++ wsX20)
def wsX2_isNoPoint : List Cond := .code yX2_isNoPoint cX2_isNoPoint 1 (some .boolean) :: ([.constant RX2 181 (1114111)])
def wsX2_unitCount : List Cond := .code yX2_unitCount cX2_unitCount 1 (some .int) :: ([.constant RX2 173 (65536)])
def wsX2_refuse : List Cond := .code yX2_refuse cX2_refuse 2 (some .int) :: ([.fieldLink RX2 37 "CharRows" "lastCode" "I"] ++ wsX20)
def wsX2_done : List Cond := .code yX2_done cX2_done 2 (some .int) :: ([.fieldLink RX2 37 "CharRows" "lastCode" "I"] ++ wsX20)
def wsX2_point_r1 : List Cond := [Cond.constant RX2 47 (-2000000001), Cond.fieldLink RX2 27 "CharRows" "draft" "LCharRows$Row;", Cond.fieldLink RX2 48 "CharRows$Row" "count" "I", Cond.methodLink RX2 43 yX2_isNoPoint, Cond.static yX2_isNoPoint, Cond.initialized RX2, Cond.code yX2_isNoPoint cX2_isNoPoint 1 (some .boolean), Cond.constant RX2 181 (1114111), Cond.methodLink RX2 51 yX2_unitCount, Cond.static yX2_unitCount, Cond.code yX2_unitCount cX2_unitCount 1 (some .int), Cond.constant RX2 173 (65536), Cond.methodLink RX2 55 yX2_refuse, Cond.instanceMethod yX2_refuse, Cond.selects RX2 yX2_refuse yX2_refuse, Cond.code yX2_refuse cX2_refuse 2 (some .int), Cond.fieldLink RX2 37 "CharRows" "lastCode" "I", Cond.methodLink RX2 58 yX0_addUnitsOf, Cond.instanceMethod yX0_addUnitsOf, Cond.selects RX0 yX0_addUnitsOf yX0_addUnitsOf, Cond.initialized RX0, Cond.code yX0_addUnitsOf cX0_addUnitsOf 3 none, Cond.constant RX0 23 (65536), Cond.constant RX0 24 (55296)]
def wsX2_point_r2 : List Cond := [Cond.constant RX0 25 (56320), Cond.methodLink RX0 19 yX0_add, Cond.instanceMethod yX0_add, Cond.selects RX0 yX0_add yX0_add, Cond.code yX0_add cX0_add 2 none, Cond.fieldLink RX0 15 "CharRows$Row" "count" "I", Cond.fieldLink RX0 9 "CharRows$Row" "items" "[I", Cond.methodLink RX2 61 yX2_done, Cond.instanceMethod yX2_done, Cond.selects RX2 yX2_done yX2_done, Cond.code yX2_done cX2_done 2 (some .int)]
def wsX2_point : List Cond := .code yX2_point cX2_point 2 (some .int) :: ((wsX2_point_r1 ++ wsX2_point_r2) ++ wsX20 ++ wsX00)
def wsX2_unit : List Cond := .code yX2_unit cX2_unit 2 (some .int) :: ([.constant RX2 64 (65535), .constant RX2 47 (-2000000001), .fieldLink RX2 27 "CharRows" "draft" "LCharRows$Row;", .fieldLink RX2 48 "CharRows$Row" "count" "I", .methodLink RX2 55 yX2_refuse, .instanceMethod yX2_refuse, .selects RX2 yX2_refuse yX2_refuse, .initialized RX2, .code yX2_refuse cX2_refuse 2 (some .int), .fieldLink RX2 37 "CharRows" "lastCode" "I", .methodLink RX2 65 yX0_add, .instanceMethod yX0_add, .selects RX0 yX0_add yX0_add, .initialized RX0, .code yX0_add cX0_add 2 none, .fieldLink RX0 15 "CharRows$Row" "count" "I", .fieldLink RX0 9 "CharRows$Row" "items" "[I", .methodLink RX2 61 yX2_done, .instanceMethod yX2_done, .selects RX2 yX2_done yX2_done, .code yX2_done cX2_done 2 (some .int)] ++ wsX20 ++ wsX00)
def wsX2_fresh : List Cond := .code yX2_fresh cX2_fresh 2 (some .int) :: ([.fieldLink RX2 27 "CharRows" "draft" "LCharRows$Row;", .fieldLink RX2 48 "CharRows$Row" "count" "I", .methodLink RX2 68 yX0_empty, .instanceMethod yX0_empty, .selects RX0 yX0_empty yX0_empty, .initialized RX0, .code yX0_empty cX0_empty 1 none, .fieldLink RX0 15 "CharRows$Row" "count" "I"] ++ wsX20 ++ wsX00)
def wsX2_isNoText : List Cond := .code yX2_isNoText cX2_isNoText 1 (some .boolean) :: ([])
def wsX2_maskOf : List Cond := .code yX2_maskOf cX2_maskOf 1 (some .int) :: ([.constant RX2 64 (65535)])
def wsX2_setText_r1 : List Cond := [Cond.fieldLink RX2 11 "CharRows" "texts" "[LCharRows$Text;", Cond.classLink RX2 9 RX1, Cond.instantiable RX1 2, Cond.initialized RX1, Cond.fieldLink RX2 48 "CharRows$Row" "count" "I", Cond.methodLink RX2 174 yX1_init, Cond.instanceMethod yX1_init, Cond.code yX1_init cX1_init 3 none, Cond.methodLink RX1 3 objectInit, Cond.instanceMethod objectInit, Cond.code objectInit ⟨#[0xb1]⟩ 1 none, Cond.fieldLink RX1 9 "CharRows$Text" "kindOfItems" "I", Cond.fieldLink RX1 15 "CharRows$Row" "items" "[I", Cond.fieldLink RX1 21 "CharRows$Row" "count" "I", Cond.fieldLink RX1 30 "CharRows$Text" "items" "[I", Cond.methodLink RX1 24 yJ7_copyOf_59c91, Cond.static yJ7_copyOf_59c91, Cond.initialized RJ7, Cond.code yJ7_copyOf_59c91 cJ7_copyOf_59c91 3 (some (.array .int)), Cond.methodLink RJ7 316 ⟨"[I", "clone", "()Ljava/lang/Object;"⟩, Cond.sameMethod "[I" "java/lang/Object" "clone" "()Ljava/lang/Object;", Cond.native ⟨"java/lang/Object", "clone", "()Ljava/lang/Object;"⟩, Cond.instanceMethod ⟨"java/lang/Object", "clone", "()Ljava/lang/Object;"⟩, Cond.selects "[I" ⟨"[I", "clone", "()Ljava/lang/Object;"⟩ ⟨"java/lang/Object", "clone", "()Ljava/lang/Object;"⟩]
def wsX2_setText_r2 : List Cond := [Cond.classLink RJ7 317 "[I", Cond.arrayClass .int, Cond.methodLink RJ7 304 Lib.Math.min.name, Cond.static Lib.Math.min.name, Cond.initialized "java/lang/Math", Cond.code Lib.Math.min.name Lib.Math.min.code 2 (some .int), Cond.methodLink RJ7 150 arraycopyName, Cond.native arraycopyName, Cond.static arraycopyName, Cond.initialized "java/lang/System", Cond.methodLink RX2 61 yX2_done, Cond.instanceMethod yX2_done, Cond.selects RX2 yX2_done yX2_done, Cond.initialized RX2, Cond.code yX2_done cX2_done 2 (some .int), Cond.fieldLink RX2 37 "CharRows" "lastCode" "I"]
def wsX2_setText : List Cond := .code yX2_setText cX2_setText 4 (some .int) :: ((wsX2_setText_r1 ++ wsX2_setText_r2) ++ wsX20 ++ wsX10 ++ wsX00)
def wsX2_lay_r1 : List Cond := [Cond.constant RX2 47 (-2000000001), Cond.fieldLink RX2 31 "CharRows" "work" "LCharRows$Row;", Cond.fieldLink RX2 27 "CharRows" "draft" "LCharRows$Row;", Cond.fieldLink RX2 74 "CharRows$Row" "items" "[I", Cond.fieldLink RX2 48 "CharRows$Row" "count" "I", Cond.methodLink RX2 71 yX2_isNoText, Cond.static yX2_isNoText, Cond.initialized RX2, Cond.code yX2_isNoText cX2_isNoText 1 (some .boolean), Cond.methodLink RX2 68 yX0_empty, Cond.instanceMethod yX0_empty, Cond.selects RX0 yX0_empty yX0_empty, Cond.initialized RX0, Cond.code yX0_empty cX0_empty 1 none, Cond.fieldLink RX0 15 "CharRows$Row" "count" "I", Cond.methodLink RX2 78 yX0_addPointsOf, Cond.instanceMethod yX0_addPointsOf, Cond.selects RX0 yX0_addPointsOf yX0_addPointsOf, Cond.code yX0_addPointsOf cX0_addPointsOf 4 none, Cond.static yX2_isInsidePair, Cond.code yX2_isInsidePair cX2_isInsidePair 3 (some .boolean), Cond.methodLink RX2 167 yX2_isHigh, Cond.static yX2_isHigh, Cond.code yX2_isHigh cX2_isHigh 1 (some .boolean)]
def wsX2_lay_r2 : List Cond := [Cond.constant RX2 182 (55296), Cond.constant RX2 183 (56320), Cond.methodLink RX2 170 yX2_isLow, Cond.static yX2_isLow, Cond.code yX2_isLow cX2_isLow 1 (some .boolean), Cond.constant RX2 184 (57343), Cond.static yX2_pairedPoint, Cond.code yX2_pairedPoint cX2_pairedPoint 2 (some .int), Cond.constant RX2 173 (65536), Cond.methodLink RX0 19 yX0_add, Cond.instanceMethod yX0_add, Cond.selects RX0 yX0_add yX0_add, Cond.code yX0_add cX0_add 2 none, Cond.fieldLink RX0 9 "CharRows$Row" "items" "[I", Cond.methodLink RX2 82 yX2_maskOf, Cond.static yX2_maskOf, Cond.code yX2_maskOf cX2_maskOf 1 (some .int), Cond.constant RX2 64 (65535), Cond.methodLink RX2 65 yX0_add, Cond.methodLink RX2 85 yX2_setText, Cond.instanceMethod yX2_setText, Cond.selects RX2 yX2_setText yX2_setText, Cond.code yX2_setText cX2_setText 4 (some .int), Cond.fieldLink RX2 11 "CharRows" "texts" "[LCharRows$Text;"]
def wsX2_lay_r3 : List Cond := [Cond.classLink RX2 9 RX1, Cond.instantiable RX1 2, Cond.initialized RX1, Cond.methodLink RX2 174 yX1_init, Cond.instanceMethod yX1_init, Cond.code yX1_init cX1_init 3 none, Cond.methodLink RX1 3 objectInit, Cond.instanceMethod objectInit, Cond.code objectInit ⟨#[0xb1]⟩ 1 none, Cond.fieldLink RX1 9 "CharRows$Text" "kindOfItems" "I", Cond.fieldLink RX1 15 "CharRows$Row" "items" "[I", Cond.fieldLink RX1 21 "CharRows$Row" "count" "I", Cond.fieldLink RX1 30 "CharRows$Text" "items" "[I", Cond.methodLink RX1 24 yJ7_copyOf_59c91, Cond.static yJ7_copyOf_59c91, Cond.initialized RJ7, Cond.code yJ7_copyOf_59c91 cJ7_copyOf_59c91 3 (some (.array .int)), Cond.methodLink RJ7 316 ⟨"[I", "clone", "()Ljava/lang/Object;"⟩, Cond.sameMethod "[I" "java/lang/Object" "clone" "()Ljava/lang/Object;", Cond.native ⟨"java/lang/Object", "clone", "()Ljava/lang/Object;"⟩, Cond.instanceMethod ⟨"java/lang/Object", "clone", "()Ljava/lang/Object;"⟩, Cond.selects "[I" ⟨"[I", "clone", "()Ljava/lang/Object;"⟩ ⟨"java/lang/Object", "clone", "()Ljava/lang/Object;"⟩, Cond.classLink RJ7 317 "[I", Cond.arrayClass .int]
def wsX2_lay_r4 : List Cond := [Cond.methodLink RJ7 304 Lib.Math.min.name, Cond.static Lib.Math.min.name, Cond.initialized "java/lang/Math", Cond.code Lib.Math.min.name Lib.Math.min.code 2 (some .int), Cond.methodLink RJ7 150 arraycopyName, Cond.native arraycopyName, Cond.static arraycopyName, Cond.initialized "java/lang/System", Cond.methodLink RX2 61 yX2_done, Cond.instanceMethod yX2_done, Cond.selects RX2 yX2_done yX2_done, Cond.code yX2_done cX2_done 2 (some .int), Cond.fieldLink RX2 37 "CharRows" "lastCode" "I"]
def wsX2_lay : List Cond := .code yX2_lay cX2_lay 5 (some .int) :: ((wsX2_lay_r1 ++ (wsX2_lay_r2 ++ (wsX2_lay_r3 ++ wsX2_lay_r4))) ++ wsX20 ++ wsX00 ++ wsX10)
def wsX2_sortOf : List Cond := .code yX2_sortOf cX2_sortOf 1 (some .int) :: ([.fieldLink RX2 94 "CharRows$Text" "kindOfItems" "I"] ++ wsX10)
def wsX2_share : List Cond := .code yX2_share cX2_share 3 (some .int) :: ([.constant RX2 47 (-2000000001), .fieldLink RX2 11 "CharRows" "texts" "[LCharRows$Text;", .methodLink RX2 71 yX2_isNoText, .static yX2_isNoText, .initialized RX2, .code yX2_isNoText cX2_isNoText 1 (some .boolean), .methodLink RX2 89 yX2_sortOf, .static yX2_sortOf, .code yX2_sortOf cX2_sortOf 1 (some .int), .fieldLink RX2 94 "CharRows$Text" "kindOfItems" "I"] ++ wsX20 ++ wsX10)
def wsX2_nothing : List Cond := .code yX2_nothing cX2_nothing 3 (some .int) :: ([.constant RX2 47 (-2000000001), .fieldLink RX2 11 "CharRows" "texts" "[LCharRows$Text;", .methodLink RX2 71 yX2_isNoText, .static yX2_isNoText, .initialized RX2, .code yX2_isNoText cX2_isNoText 1 (some .boolean), .methodLink RX2 89 yX2_sortOf, .static yX2_sortOf, .code yX2_sortOf cX2_sortOf 1 (some .int), .fieldLink RX2 94 "CharRows$Text" "kindOfItems" "I"] ++ wsX20 ++ wsX10)
def wsX2_sort : List Cond := .code yX2_sort cX2_sort 2 (some .int) :: ([.constant RX2 47 (-2000000001), .fieldLink RX2 11 "CharRows" "texts" "[LCharRows$Text;", .methodLink RX2 71 yX2_isNoText, .static yX2_isNoText, .initialized RX2, .code yX2_isNoText cX2_isNoText 1 (some .boolean), .methodLink RX2 89 yX2_sortOf, .static yX2_sortOf, .code yX2_sortOf cX2_sortOf 1 (some .int), .fieldLink RX2 94 "CharRows$Text" "kindOfItems" "I"] ++ wsX20 ++ wsX10)
def wsX2_length : List Cond := .code yX2_length cX2_length 3 (some .int) :: ([.constant RX2 47 (-2000000001), .fieldLink RX2 11 "CharRows" "texts" "[LCharRows$Text;", .fieldLink RX2 93 "CharRows$Text" "items" "[I", .methodLink RX2 71 yX2_isNoText, .static yX2_isNoText, .initialized RX2, .code yX2_isNoText cX2_isNoText 1 (some .boolean), .methodLink RX2 55 yX2_refuse, .instanceMethod yX2_refuse, .selects RX2 yX2_refuse yX2_refuse, .code yX2_refuse cX2_refuse 2 (some .int), .fieldLink RX2 37 "CharRows" "lastCode" "I", .methodLink RX2 61 yX2_done, .instanceMethod yX2_done, .selects RX2 yX2_done yX2_done, .code yX2_done cX2_done 2 (some .int)] ++ wsX20 ++ wsX10)
def wsX2_listPoints_r1 : List Cond := [Cond.fieldLink RX2 94 "CharRows$Text" "kindOfItems" "I", Cond.fieldLink RX2 93 "CharRows$Text" "items" "[I", Cond.methodLink RX2 68 yX0_empty, Cond.instanceMethod yX0_empty, Cond.selects RX0 yX0_empty yX0_empty, Cond.initialized RX0, Cond.code yX0_empty cX0_empty 1 none, Cond.fieldLink RX0 15 "CharRows$Row" "count" "I", Cond.methodLink RX2 78 yX0_addPointsOf, Cond.instanceMethod yX0_addPointsOf, Cond.selects RX0 yX0_addPointsOf yX0_addPointsOf, Cond.code yX0_addPointsOf cX0_addPointsOf 4 none, Cond.static yX2_isInsidePair, Cond.initialized RX2, Cond.code yX2_isInsidePair cX2_isInsidePair 3 (some .boolean), Cond.methodLink RX2 167 yX2_isHigh, Cond.static yX2_isHigh, Cond.code yX2_isHigh cX2_isHigh 1 (some .boolean), Cond.constant RX2 182 (55296), Cond.constant RX2 183 (56320), Cond.methodLink RX2 170 yX2_isLow, Cond.static yX2_isLow, Cond.code yX2_isLow cX2_isLow 1 (some .boolean), Cond.constant RX2 184 (57343)]
def wsX2_listPoints_r2 : List Cond := [Cond.static yX2_pairedPoint, Cond.code yX2_pairedPoint cX2_pairedPoint 2 (some .int), Cond.constant RX2 173 (65536), Cond.methodLink RX0 19 yX0_add, Cond.instanceMethod yX0_add, Cond.selects RX0 yX0_add yX0_add, Cond.code yX0_add cX0_add 2 none, Cond.fieldLink RX0 9 "CharRows$Row" "items" "[I", Cond.methodLink RX2 140 yX0_addAll, Cond.instanceMethod yX0_addAll, Cond.selects RX0 yX0_addAll yX0_addAll, Cond.code yX0_addAll cX0_addAll 3 none]
def wsX2_listPoints : List Cond := .code yX2_listPoints cX2_listPoints 2 none :: ((wsX2_listPoints_r1 ++ wsX2_listPoints_r2) ++ wsX10 ++ wsX00)
def wsX2_points_r1 : List Cond := [Cond.constant RX2 47 (-2000000001), Cond.fieldLink RX2 11 "CharRows" "texts" "[LCharRows$Text;", Cond.fieldLink RX2 94 "CharRows$Text" "kindOfItems" "I", Cond.fieldLink RX2 31 "CharRows" "work" "LCharRows$Row;", Cond.fieldLink RX2 48 "CharRows$Row" "count" "I", Cond.methodLink RX2 71 yX2_isNoText, Cond.static yX2_isNoText, Cond.initialized RX2, Cond.code yX2_isNoText cX2_isNoText 1 (some .boolean), Cond.methodLink RX2 55 yX2_refuse, Cond.instanceMethod yX2_refuse, Cond.selects RX2 yX2_refuse yX2_refuse, Cond.code yX2_refuse cX2_refuse 2 (some .int), Cond.fieldLink RX2 37 "CharRows" "lastCode" "I", Cond.methodLink RX2 97 yX2_listPoints, Cond.static yX2_listPoints, Cond.code yX2_listPoints cX2_listPoints 2 none, Cond.fieldLink RX2 93 "CharRows$Text" "items" "[I", Cond.methodLink RX2 68 yX0_empty, Cond.instanceMethod yX0_empty, Cond.selects RX0 yX0_empty yX0_empty, Cond.initialized RX0, Cond.code yX0_empty cX0_empty 1 none, Cond.fieldLink RX0 15 "CharRows$Row" "count" "I"]
def wsX2_points_r2 : List Cond := [Cond.methodLink RX2 78 yX0_addPointsOf, Cond.instanceMethod yX0_addPointsOf, Cond.selects RX0 yX0_addPointsOf yX0_addPointsOf, Cond.code yX0_addPointsOf cX0_addPointsOf 4 none, Cond.static yX2_isInsidePair, Cond.code yX2_isInsidePair cX2_isInsidePair 3 (some .boolean), Cond.methodLink RX2 167 yX2_isHigh, Cond.static yX2_isHigh, Cond.code yX2_isHigh cX2_isHigh 1 (some .boolean), Cond.constant RX2 182 (55296), Cond.constant RX2 183 (56320), Cond.methodLink RX2 170 yX2_isLow, Cond.static yX2_isLow, Cond.code yX2_isLow cX2_isLow 1 (some .boolean), Cond.constant RX2 184 (57343), Cond.static yX2_pairedPoint, Cond.code yX2_pairedPoint cX2_pairedPoint 2 (some .int), Cond.constant RX2 173 (65536), Cond.methodLink RX0 19 yX0_add, Cond.instanceMethod yX0_add, Cond.selects RX0 yX0_add yX0_add, Cond.code yX0_add cX0_add 2 none, Cond.fieldLink RX0 9 "CharRows$Row" "items" "[I", Cond.methodLink RX2 140 yX0_addAll]
def wsX2_points_r3 : List Cond := [Cond.instanceMethod yX0_addAll, Cond.selects RX0 yX0_addAll yX0_addAll, Cond.code yX0_addAll cX0_addAll 3 none, Cond.methodLink RX2 61 yX2_done, Cond.instanceMethod yX2_done, Cond.selects RX2 yX2_done yX2_done, Cond.code yX2_done cX2_done 2 (some .int)]
def wsX2_points : List Cond := .code yX2_points cX2_points 3 (some .int) :: ((wsX2_points_r1 ++ (wsX2_points_r2 ++ wsX2_points_r3)) ++ wsX20 ++ wsX10 ++ wsX00)
def wsX2_at : List Cond := .code yX2_at cX2_at 4 (some .int) :: ([.constant RX2 47 (-2000000001), .fieldLink RX2 11 "CharRows" "texts" "[LCharRows$Text;", .fieldLink RX2 93 "CharRows$Text" "items" "[I", .methodLink RX2 71 yX2_isNoText, .static yX2_isNoText, .initialized RX2, .code yX2_isNoText cX2_isNoText 1 (some .boolean), .methodLink RX2 55 yX2_refuse, .instanceMethod yX2_refuse, .selects RX2 yX2_refuse yX2_refuse, .code yX2_refuse cX2_refuse 2 (some .int), .fieldLink RX2 37 "CharRows" "lastCode" "I", .methodLink RX2 61 yX2_done, .instanceMethod yX2_done, .selects RX2 yX2_done yX2_done, .code yX2_done cX2_done 2 (some .int)] ++ wsX20 ++ wsX10)
def wsX2_pointAt_r1 : List Cond := [Cond.constant RX2 47 (-2000000001), Cond.fieldLink RX2 11 "CharRows" "texts" "[LCharRows$Text;", Cond.fieldLink RX2 94 "CharRows$Text" "kindOfItems" "I", Cond.fieldLink RX2 31 "CharRows" "work" "LCharRows$Row;", Cond.fieldLink RX2 48 "CharRows$Row" "count" "I", Cond.fieldLink RX2 74 "CharRows$Row" "items" "[I", Cond.methodLink RX2 71 yX2_isNoText, Cond.static yX2_isNoText, Cond.initialized RX2, Cond.code yX2_isNoText cX2_isNoText 1 (some .boolean), Cond.methodLink RX2 55 yX2_refuse, Cond.instanceMethod yX2_refuse, Cond.selects RX2 yX2_refuse yX2_refuse, Cond.code yX2_refuse cX2_refuse 2 (some .int), Cond.fieldLink RX2 37 "CharRows" "lastCode" "I", Cond.methodLink RX2 97 yX2_listPoints, Cond.static yX2_listPoints, Cond.code yX2_listPoints cX2_listPoints 2 none, Cond.fieldLink RX2 93 "CharRows$Text" "items" "[I", Cond.methodLink RX2 68 yX0_empty, Cond.instanceMethod yX0_empty, Cond.selects RX0 yX0_empty yX0_empty, Cond.initialized RX0, Cond.code yX0_empty cX0_empty 1 none]
def wsX2_pointAt_r2 : List Cond := [Cond.fieldLink RX0 15 "CharRows$Row" "count" "I", Cond.methodLink RX2 78 yX0_addPointsOf, Cond.instanceMethod yX0_addPointsOf, Cond.selects RX0 yX0_addPointsOf yX0_addPointsOf, Cond.code yX0_addPointsOf cX0_addPointsOf 4 none, Cond.static yX2_isInsidePair, Cond.code yX2_isInsidePair cX2_isInsidePair 3 (some .boolean), Cond.methodLink RX2 167 yX2_isHigh, Cond.static yX2_isHigh, Cond.code yX2_isHigh cX2_isHigh 1 (some .boolean), Cond.constant RX2 182 (55296), Cond.constant RX2 183 (56320), Cond.methodLink RX2 170 yX2_isLow, Cond.static yX2_isLow, Cond.code yX2_isLow cX2_isLow 1 (some .boolean), Cond.constant RX2 184 (57343), Cond.static yX2_pairedPoint, Cond.code yX2_pairedPoint cX2_pairedPoint 2 (some .int), Cond.constant RX2 173 (65536), Cond.methodLink RX0 19 yX0_add, Cond.instanceMethod yX0_add, Cond.selects RX0 yX0_add yX0_add, Cond.code yX0_add cX0_add 2 none, Cond.fieldLink RX0 9 "CharRows$Row" "items" "[I"]
def wsX2_pointAt_r3 : List Cond := [Cond.methodLink RX2 140 yX0_addAll, Cond.instanceMethod yX0_addAll, Cond.selects RX0 yX0_addAll yX0_addAll, Cond.code yX0_addAll cX0_addAll 3 none, Cond.methodLink RX2 61 yX2_done, Cond.instanceMethod yX2_done, Cond.selects RX2 yX2_done yX2_done, Cond.code yX2_done cX2_done 2 (some .int)]
def wsX2_pointAt : List Cond := .code yX2_pointAt cX2_pointAt 4 (some .int) :: ((wsX2_pointAt_r1 ++ (wsX2_pointAt_r2 ++ wsX2_pointAt_r3)) ++ wsX20 ++ wsX10 ++ wsX00)
def wsX2_put : List Cond := .code yX2_put cX2_put 6 (some .int) :: ([.constant RX2 47 (-2000000001), .fieldLink RX2 11 "CharRows" "texts" "[LCharRows$Text;", .fieldLink RX2 94 "CharRows$Text" "kindOfItems" "I", .fieldLink RX2 93 "CharRows$Text" "items" "[I", .methodLink RX2 71 yX2_isNoText, .static yX2_isNoText, .initialized RX2, .code yX2_isNoText cX2_isNoText 1 (some .boolean), .methodLink RX2 55 yX2_refuse, .instanceMethod yX2_refuse, .selects RX2 yX2_refuse yX2_refuse, .code yX2_refuse cX2_refuse 2 (some .int), .fieldLink RX2 37 "CharRows" "lastCode" "I", .methodLink RX2 82 yX2_maskOf, .static yX2_maskOf, .code yX2_maskOf cX2_maskOf 1 (some .int), .constant RX2 64 (65535), .methodLink RX2 61 yX2_done, .instanceMethod yX2_done, .selects RX2 yX2_done yX2_done, .code yX2_done cX2_done 2 (some .int)] ++ wsX20 ++ wsX10)
def wsX2_isNoWay : List Cond := .code yX2_isNoWay cX2_isNoWay 1 (some .boolean) :: ([])
def wsX2_listUnits : List Cond := .code yX2_listUnits cX2_listUnits 3 none :: ([.fieldLink RX2 94 "CharRows$Text" "kindOfItems" "I", .fieldLink RX2 93 "CharRows$Text" "items" "[I", .methodLink RX2 68 yX0_empty, .instanceMethod yX0_empty, .selects RX0 yX0_empty yX0_empty, .initialized RX0, .code yX0_empty cX0_empty 1 none, .fieldLink RX0 15 "CharRows$Row" "count" "I", .methodLink RX2 140 yX0_addAll, .instanceMethod yX0_addAll, .selects RX0 yX0_addAll yX0_addAll, .code yX0_addAll cX0_addAll 3 none, .methodLink RX0 19 yX0_add, .instanceMethod yX0_add, .selects RX0 yX0_add yX0_add, .code yX0_add cX0_add 2 none, .fieldLink RX0 9 "CharRows$Row" "items" "[I", .methodLink RX2 58 yX0_addUnitsOf, .instanceMethod yX0_addUnitsOf, .selects RX0 yX0_addUnitsOf yX0_addUnitsOf, .code yX0_addUnitsOf cX0_addUnitsOf 3 none, .constant RX0 23 (65536), .constant RX0 24 (55296), .constant RX0 25 (56320)] ++ wsX10 ++ wsX00)
def wsX2_turnInto_r1 : List Cond := [Cond.constant RX2 47 (-2000000001), Cond.fieldLink RX2 11 "CharRows" "texts" "[LCharRows$Text;", Cond.fieldLink RX2 94 "CharRows$Text" "kindOfItems" "I", Cond.fieldLink RX2 31 "CharRows" "work" "LCharRows$Row;", Cond.fieldLink RX2 48 "CharRows$Row" "count" "I", Cond.methodLink RX2 71 yX2_isNoText, Cond.static yX2_isNoText, Cond.initialized RX2, Cond.code yX2_isNoText cX2_isNoText 1 (some .boolean), Cond.methodLink RX2 101 yX2_isNoWay, Cond.static yX2_isNoWay, Cond.code yX2_isNoWay cX2_isNoWay 1 (some .boolean), Cond.methodLink RX2 55 yX2_refuse, Cond.instanceMethod yX2_refuse, Cond.selects RX2 yX2_refuse yX2_refuse, Cond.code yX2_refuse cX2_refuse 2 (some .int), Cond.fieldLink RX2 37 "CharRows" "lastCode" "I", Cond.methodLink RX2 97 yX2_listPoints, Cond.static yX2_listPoints, Cond.code yX2_listPoints cX2_listPoints 2 none, Cond.fieldLink RX2 93 "CharRows$Text" "items" "[I", Cond.methodLink RX2 68 yX0_empty, Cond.instanceMethod yX0_empty, Cond.selects RX0 yX0_empty yX0_empty]
def wsX2_turnInto_r2 : List Cond := [Cond.initialized RX0, Cond.code yX0_empty cX0_empty 1 none, Cond.fieldLink RX0 15 "CharRows$Row" "count" "I", Cond.methodLink RX2 78 yX0_addPointsOf, Cond.instanceMethod yX0_addPointsOf, Cond.selects RX0 yX0_addPointsOf yX0_addPointsOf, Cond.code yX0_addPointsOf cX0_addPointsOf 4 none, Cond.static yX2_isInsidePair, Cond.code yX2_isInsidePair cX2_isInsidePair 3 (some .boolean), Cond.methodLink RX2 167 yX2_isHigh, Cond.static yX2_isHigh, Cond.code yX2_isHigh cX2_isHigh 1 (some .boolean), Cond.constant RX2 182 (55296), Cond.constant RX2 183 (56320), Cond.methodLink RX2 170 yX2_isLow, Cond.static yX2_isLow, Cond.code yX2_isLow cX2_isLow 1 (some .boolean), Cond.constant RX2 184 (57343), Cond.static yX2_pairedPoint, Cond.code yX2_pairedPoint cX2_pairedPoint 2 (some .int), Cond.constant RX2 173 (65536), Cond.methodLink RX0 19 yX0_add, Cond.instanceMethod yX0_add, Cond.selects RX0 yX0_add yX0_add]
def wsX2_turnInto_r3 : List Cond := [Cond.code yX0_add cX0_add 2 none, Cond.fieldLink RX0 9 "CharRows$Row" "items" "[I", Cond.methodLink RX2 140 yX0_addAll, Cond.instanceMethod yX0_addAll, Cond.selects RX0 yX0_addAll yX0_addAll, Cond.code yX0_addAll cX0_addAll 3 none, Cond.methodLink RX2 104 yX2_listUnits, Cond.static yX2_listUnits, Cond.code yX2_listUnits cX2_listUnits 3 none, Cond.methodLink RX2 58 yX0_addUnitsOf, Cond.instanceMethod yX0_addUnitsOf, Cond.selects RX0 yX0_addUnitsOf yX0_addUnitsOf, Cond.code yX0_addUnitsOf cX0_addUnitsOf 3 none, Cond.constant RX0 23 (65536), Cond.constant RX0 24 (55296), Cond.constant RX0 25 (56320), Cond.methodLink RX2 85 yX2_setText, Cond.instanceMethod yX2_setText, Cond.selects RX2 yX2_setText yX2_setText, Cond.code yX2_setText cX2_setText 4 (some .int), Cond.classLink RX2 9 RX1, Cond.instantiable RX1 2, Cond.initialized RX1, Cond.methodLink RX2 174 yX1_init]
def wsX2_turnInto_r4 : List Cond := [Cond.instanceMethod yX1_init, Cond.code yX1_init cX1_init 3 none, Cond.methodLink RX1 3 objectInit, Cond.instanceMethod objectInit, Cond.code objectInit ⟨#[0xb1]⟩ 1 none, Cond.fieldLink RX1 9 "CharRows$Text" "kindOfItems" "I", Cond.fieldLink RX1 15 "CharRows$Row" "items" "[I", Cond.fieldLink RX1 21 "CharRows$Row" "count" "I", Cond.fieldLink RX1 30 "CharRows$Text" "items" "[I", Cond.methodLink RX1 24 yJ7_copyOf_59c91, Cond.static yJ7_copyOf_59c91, Cond.initialized RJ7, Cond.code yJ7_copyOf_59c91 cJ7_copyOf_59c91 3 (some (.array .int)), Cond.methodLink RJ7 316 ⟨"[I", "clone", "()Ljava/lang/Object;"⟩, Cond.sameMethod "[I" "java/lang/Object" "clone" "()Ljava/lang/Object;", Cond.native ⟨"java/lang/Object", "clone", "()Ljava/lang/Object;"⟩, Cond.instanceMethod ⟨"java/lang/Object", "clone", "()Ljava/lang/Object;"⟩, Cond.selects "[I" ⟨"[I", "clone", "()Ljava/lang/Object;"⟩ ⟨"java/lang/Object", "clone", "()Ljava/lang/Object;"⟩, Cond.classLink RJ7 317 "[I", Cond.arrayClass .int, Cond.methodLink RJ7 304 Lib.Math.min.name, Cond.static Lib.Math.min.name, Cond.initialized "java/lang/Math", Cond.code Lib.Math.min.name Lib.Math.min.code 2 (some .int)]
def wsX2_turnInto_r5 : List Cond := [Cond.methodLink RJ7 150 arraycopyName, Cond.native arraycopyName, Cond.static arraycopyName, Cond.initialized "java/lang/System", Cond.methodLink RX2 61 yX2_done, Cond.instanceMethod yX2_done, Cond.selects RX2 yX2_done yX2_done, Cond.code yX2_done cX2_done 2 (some .int)]
def wsX2_turnInto : List Cond := .code yX2_turnInto cX2_turnInto 5 (some .int) :: ((wsX2_turnInto_r1 ++ (wsX2_turnInto_r2 ++ (wsX2_turnInto_r3 ++ (wsX2_turnInto_r4 ++ wsX2_turnInto_r5)))) ++ wsX20 ++ wsX10 ++ wsX00)
def wsX2_isNoForm : List Cond := .code yX2_isNoForm cX2_isNoForm 1 (some .boolean) :: ([])
def wsX2_tellUnits : List Cond := .code yX2_tellUnits cX2_tellUnits 6 none :: ([.fieldLink RX2 48 "CharRows$Row" "count" "I", .fieldLink RX2 74 "CharRows$Row" "items" "[I", .methodLink RX2 65 yX0_add, .instanceMethod yX0_add, .selects RX0 yX0_add yX0_add, .initialized RX0, .code yX0_add cX0_add 2 none, .fieldLink RX0 15 "CharRows$Row" "count" "I", .fieldLink RX0 9 "CharRows$Row" "items" "[I"] ++ wsX00)
def wsX2_firstUntellable : List Cond := .code yX2_firstUntellable cX2_firstUntellable 4 (some .int) :: ([.fieldLink RX2 48 "CharRows$Row" "count" "I", .fieldLink RX2 74 "CharRows$Row" "items" "[I", .methodLink RX2 167 yX2_isHigh, .static yX2_isHigh, .initialized RX2, .code yX2_isHigh cX2_isHigh 1 (some .boolean), .constant RX2 182 (55296), .constant RX2 183 (56320), .methodLink RX2 170 yX2_isLow, .static yX2_isLow, .code yX2_isLow cX2_isLow 1 (some .boolean), .constant RX2 184 (57343)] ++ wsX00)
def wsX2_refuseAt : List Cond := .code yX2_refuseAt cX2_refuseAt 2 (some .int) :: ([.fieldLink RX2 40 "CharRows" "lastPlace" "I", .methodLink RX2 55 yX2_refuse, .instanceMethod yX2_refuse, .selects RX2 yX2_refuse yX2_refuse, .initialized RX2, .code yX2_refuse cX2_refuse 2 (some .int), .fieldLink RX2 37 "CharRows" "lastCode" "I"] ++ wsX20)
def wsX2_tellInManyBytes : List Cond := .code yX2_tellInManyBytes cX2_tellInManyBytes 2 none :: ([.constant RX2 173 (65536), .constant RX2 192 (262144), .methodLink RX2 65 yX0_add, .instanceMethod yX0_add, .selects RX0 yX0_add yX0_add, .initialized RX0, .code yX0_add cX0_add 2 none, .fieldLink RX0 15 "CharRows$Row" "count" "I", .fieldLink RX0 9 "CharRows$Row" "items" "[I"] ++ wsX00)
def wsX2_tellPoints : List Cond := .code yX2_tellPoints cX2_tellPoints 4 none :: ([.fieldLink RX2 48 "CharRows$Row" "count" "I", .fieldLink RX2 74 "CharRows$Row" "items" "[I", .methodLink RX2 65 yX0_add, .instanceMethod yX0_add, .selects RX0 yX0_add yX0_add, .initialized RX0, .code yX0_add cX0_add 2 none, .fieldLink RX0 15 "CharRows$Row" "count" "I", .fieldLink RX0 9 "CharRows$Row" "items" "[I", .methodLink RX2 189 yX2_tellInManyBytes, .static yX2_tellInManyBytes, .initialized RX2, .code yX2_tellInManyBytes cX2_tellInManyBytes 2 none, .constant RX2 173 (65536), .constant RX2 192 (262144)] ++ wsX00)
def wsX2_tell_r1 : List Cond := [Cond.constant RX2 47 (-2000000001), Cond.fieldLink RX2 11 "CharRows" "texts" "[LCharRows$Text;", Cond.fieldLink RX2 94 "CharRows$Text" "kindOfItems" "I", Cond.fieldLink RX2 34 "CharRows" "secondWork" "LCharRows$Row;", Cond.fieldLink RX2 31 "CharRows" "work" "LCharRows$Row;", Cond.methodLink RX2 71 yX2_isNoText, Cond.static yX2_isNoText, Cond.initialized RX2, Cond.code yX2_isNoText cX2_isNoText 1 (some .boolean), Cond.methodLink RX2 107 yX2_isNoForm, Cond.static yX2_isNoForm, Cond.code yX2_isNoForm cX2_isNoForm 1 (some .boolean), Cond.methodLink RX2 55 yX2_refuse, Cond.instanceMethod yX2_refuse, Cond.selects RX2 yX2_refuse yX2_refuse, Cond.code yX2_refuse cX2_refuse 2 (some .int), Cond.fieldLink RX2 37 "CharRows" "lastCode" "I", Cond.methodLink RX2 68 yX0_empty, Cond.instanceMethod yX0_empty, Cond.selects RX0 yX0_empty yX0_empty, Cond.initialized RX0, Cond.code yX0_empty cX0_empty 1 none, Cond.fieldLink RX0 15 "CharRows$Row" "count" "I", Cond.methodLink RX2 104 yX2_listUnits]
def wsX2_tell_r2 : List Cond := [Cond.static yX2_listUnits, Cond.code yX2_listUnits cX2_listUnits 3 none, Cond.fieldLink RX2 93 "CharRows$Text" "items" "[I", Cond.methodLink RX2 140 yX0_addAll, Cond.instanceMethod yX0_addAll, Cond.selects RX0 yX0_addAll yX0_addAll, Cond.code yX0_addAll cX0_addAll 3 none, Cond.methodLink RX0 19 yX0_add, Cond.instanceMethod yX0_add, Cond.selects RX0 yX0_add yX0_add, Cond.code yX0_add cX0_add 2 none, Cond.fieldLink RX0 9 "CharRows$Row" "items" "[I", Cond.methodLink RX2 58 yX0_addUnitsOf, Cond.instanceMethod yX0_addUnitsOf, Cond.selects RX0 yX0_addUnitsOf yX0_addUnitsOf, Cond.code yX0_addUnitsOf cX0_addUnitsOf 3 none, Cond.constant RX0 23 (65536), Cond.constant RX0 24 (55296), Cond.constant RX0 25 (56320), Cond.methodLink RX2 110 yX2_tellUnits, Cond.static yX2_tellUnits, Cond.code yX2_tellUnits cX2_tellUnits 6 none, Cond.fieldLink RX2 48 "CharRows$Row" "count" "I", Cond.fieldLink RX2 74 "CharRows$Row" "items" "[I"]
def wsX2_tell_r3 : List Cond := [Cond.methodLink RX2 65 yX0_add, Cond.methodLink RX2 85 yX2_setText, Cond.instanceMethod yX2_setText, Cond.selects RX2 yX2_setText yX2_setText, Cond.code yX2_setText cX2_setText 4 (some .int), Cond.classLink RX2 9 RX1, Cond.instantiable RX1 2, Cond.initialized RX1, Cond.methodLink RX2 174 yX1_init, Cond.instanceMethod yX1_init, Cond.code yX1_init cX1_init 3 none, Cond.methodLink RX1 3 objectInit, Cond.instanceMethod objectInit, Cond.code objectInit ⟨#[0xb1]⟩ 1 none, Cond.fieldLink RX1 9 "CharRows$Text" "kindOfItems" "I", Cond.fieldLink RX1 15 "CharRows$Row" "items" "[I", Cond.fieldLink RX1 21 "CharRows$Row" "count" "I", Cond.fieldLink RX1 30 "CharRows$Text" "items" "[I", Cond.methodLink RX1 24 yJ7_copyOf_59c91, Cond.static yJ7_copyOf_59c91, Cond.initialized RJ7, Cond.code yJ7_copyOf_59c91 cJ7_copyOf_59c91 3 (some (.array .int)), Cond.methodLink RJ7 316 ⟨"[I", "clone", "()Ljava/lang/Object;"⟩, Cond.sameMethod "[I" "java/lang/Object" "clone" "()Ljava/lang/Object;"]
def wsX2_tell_r4 : List Cond := [Cond.native ⟨"java/lang/Object", "clone", "()Ljava/lang/Object;"⟩, Cond.instanceMethod ⟨"java/lang/Object", "clone", "()Ljava/lang/Object;"⟩, Cond.selects "[I" ⟨"[I", "clone", "()Ljava/lang/Object;"⟩ ⟨"java/lang/Object", "clone", "()Ljava/lang/Object;"⟩, Cond.classLink RJ7 317 "[I", Cond.arrayClass .int, Cond.methodLink RJ7 304 Lib.Math.min.name, Cond.static Lib.Math.min.name, Cond.initialized "java/lang/Math", Cond.code Lib.Math.min.name Lib.Math.min.code 2 (some .int), Cond.methodLink RJ7 150 arraycopyName, Cond.native arraycopyName, Cond.static arraycopyName, Cond.initialized "java/lang/System", Cond.methodLink RX2 61 yX2_done, Cond.instanceMethod yX2_done, Cond.selects RX2 yX2_done yX2_done, Cond.code yX2_done cX2_done 2 (some .int), Cond.methodLink RX2 97 yX2_listPoints, Cond.static yX2_listPoints, Cond.code yX2_listPoints cX2_listPoints 2 none, Cond.methodLink RX2 78 yX0_addPointsOf, Cond.instanceMethod yX0_addPointsOf, Cond.selects RX0 yX0_addPointsOf yX0_addPointsOf, Cond.code yX0_addPointsOf cX0_addPointsOf 4 none]
def wsX2_tell_r5 : List Cond := [Cond.static yX2_isInsidePair, Cond.code yX2_isInsidePair cX2_isInsidePair 3 (some .boolean), Cond.methodLink RX2 167 yX2_isHigh, Cond.static yX2_isHigh, Cond.code yX2_isHigh cX2_isHigh 1 (some .boolean), Cond.constant RX2 182 (55296), Cond.constant RX2 183 (56320), Cond.methodLink RX2 170 yX2_isLow, Cond.static yX2_isLow, Cond.code yX2_isLow cX2_isLow 1 (some .boolean), Cond.constant RX2 184 (57343), Cond.static yX2_pairedPoint, Cond.code yX2_pairedPoint cX2_pairedPoint 2 (some .int), Cond.constant RX2 173 (65536), Cond.methodLink RX2 114 yX2_firstUntellable, Cond.static yX2_firstUntellable, Cond.code yX2_firstUntellable cX2_firstUntellable 4 (some .int), Cond.methodLink RX2 118 yX2_refuseAt, Cond.instanceMethod yX2_refuseAt, Cond.selects RX2 yX2_refuseAt yX2_refuseAt, Cond.code yX2_refuseAt cX2_refuseAt 2 (some .int), Cond.fieldLink RX2 40 "CharRows" "lastPlace" "I", Cond.methodLink RX2 121 yX2_tellPoints, Cond.static yX2_tellPoints]
def wsX2_tell_r6 : List Cond := [Cond.code yX2_tellPoints cX2_tellPoints 4 none, Cond.methodLink RX2 189 yX2_tellInManyBytes, Cond.static yX2_tellInManyBytes, Cond.code yX2_tellInManyBytes cX2_tellInManyBytes 2 none, Cond.constant RX2 192 (262144)]
def wsX2_tell : List Cond := .code yX2_tell cX2_tell 6 (some .int) :: ((wsX2_tell_r1 ++ (wsX2_tell_r2 ++ (wsX2_tell_r3 ++ (wsX2_tell_r4 ++ (wsX2_tell_r5 ++ wsX2_tell_r6))))) ++ wsX20 ++ wsX10 ++ wsX00)
def wsX2_byteCount : List Cond := .code yX2_byteCount cX2_byteCount 1 (some .int) :: ([])
def wsX2_firstByteOffset : List Cond := .code yX2_firstByteOffset cX2_firstByteOffset 1 (some .int) :: ([])
def wsX2_isToldIn : List Cond := .code yX2_isToldIn cX2_isToldIn 2 (some .boolean) :: ([.constant RX2 173 (65536), .constant RX2 181 (1114111), .methodLink RX2 167 yX2_isHigh, .static yX2_isHigh, .initialized RX2, .code yX2_isHigh cX2_isHigh 1 (some .boolean), .constant RX2 182 (55296), .constant RX2 183 (56320), .methodLink RX2 170 yX2_isLow, .static yX2_isLow, .code yX2_isLow cX2_isLow 1 (some .boolean), .constant RX2 184 (57343)])
def wsX2_pointFrom : List Cond := .code yX2_pointFrom cX2_pointFrom 5 (some .int) :: ([.methodLink RX2 204 yX2_byteCount, .static yX2_byteCount, .initialized RX2, .code yX2_byteCount cX2_byteCount 1 (some .int), .methodLink RX2 207 yX2_firstByteOffset, .static yX2_firstByteOffset, .code yX2_firstByteOffset cX2_firstByteOffset 1 (some .int), .methodLink RX2 210 yX2_isToldIn, .static yX2_isToldIn, .code yX2_isToldIn cX2_isToldIn 2 (some .boolean), .constant RX2 173 (65536), .constant RX2 181 (1114111), .methodLink RX2 167 yX2_isHigh, .static yX2_isHigh, .code yX2_isHigh cX2_isHigh 1 (some .boolean), .constant RX2 182 (55296), .constant RX2 183 (56320), .methodLink RX2 170 yX2_isLow, .static yX2_isLow, .code yX2_isLow cX2_isLow 1 (some .boolean), .constant RX2 184 (57343)])
def wsX2_readManyBytes_r1 : List Cond := [Cond.fieldLink RX2 48 "CharRows$Row" "count" "I", Cond.methodLink RX2 200 yX2_pointFrom, Cond.static yX2_pointFrom, Cond.initialized RX2, Cond.code yX2_pointFrom cX2_pointFrom 5 (some .int), Cond.methodLink RX2 204 yX2_byteCount, Cond.static yX2_byteCount, Cond.code yX2_byteCount cX2_byteCount 1 (some .int), Cond.methodLink RX2 207 yX2_firstByteOffset, Cond.static yX2_firstByteOffset, Cond.code yX2_firstByteOffset cX2_firstByteOffset 1 (some .int), Cond.methodLink RX2 210 yX2_isToldIn, Cond.static yX2_isToldIn, Cond.code yX2_isToldIn cX2_isToldIn 2 (some .boolean), Cond.constant RX2 173 (65536), Cond.constant RX2 181 (1114111), Cond.methodLink RX2 167 yX2_isHigh, Cond.static yX2_isHigh, Cond.code yX2_isHigh cX2_isHigh 1 (some .boolean), Cond.constant RX2 182 (55296), Cond.constant RX2 183 (56320), Cond.methodLink RX2 170 yX2_isLow, Cond.static yX2_isLow, Cond.code yX2_isLow cX2_isLow 1 (some .boolean)]
def wsX2_readManyBytes_r2 : List Cond := [Cond.constant RX2 184 (57343), Cond.methodLink RX2 58 yX0_addUnitsOf, Cond.instanceMethod yX0_addUnitsOf, Cond.selects RX0 yX0_addUnitsOf yX0_addUnitsOf, Cond.initialized RX0, Cond.code yX0_addUnitsOf cX0_addUnitsOf 3 none, Cond.constant RX0 23 (65536), Cond.constant RX0 24 (55296), Cond.constant RX0 25 (56320), Cond.methodLink RX0 19 yX0_add, Cond.instanceMethod yX0_add, Cond.selects RX0 yX0_add yX0_add, Cond.code yX0_add cX0_add 2 none, Cond.fieldLink RX0 15 "CharRows$Row" "count" "I", Cond.fieldLink RX0 9 "CharRows$Row" "items" "[I"]
def wsX2_readManyBytes : List Cond := .code yX2_readManyBytes cX2_readManyBytes 5 (some .int) :: ((wsX2_readManyBytes_r1 ++ wsX2_readManyBytes_r2) ++ wsX00)
def wsX2_readTwoBytes : List Cond := .code yX2_readTwoBytes cX2_readTwoBytes 6 (some .int) :: ([.fieldLink RX2 48 "CharRows$Row" "count" "I", .methodLink RX2 65 yX0_add, .instanceMethod yX0_add, .selects RX0 yX0_add yX0_add, .initialized RX0, .code yX0_add cX0_add 2 none, .fieldLink RX0 15 "CharRows$Row" "count" "I", .fieldLink RX0 9 "CharRows$Row" "items" "[I"] ++ wsX00)
def wsX2_readUnits_r1 : List Cond := [Cond.methodLink RX2 68 yX0_empty, Cond.instanceMethod yX0_empty, Cond.selects RX0 yX0_empty yX0_empty, Cond.initialized RX0, Cond.code yX0_empty cX0_empty 1 none, Cond.fieldLink RX0 15 "CharRows$Row" "count" "I", Cond.methodLink RX2 193 yX2_readManyBytes, Cond.static yX2_readManyBytes, Cond.initialized RX2, Cond.code yX2_readManyBytes cX2_readManyBytes 5 (some .int), Cond.fieldLink RX2 48 "CharRows$Row" "count" "I", Cond.methodLink RX2 200 yX2_pointFrom, Cond.static yX2_pointFrom, Cond.code yX2_pointFrom cX2_pointFrom 5 (some .int), Cond.methodLink RX2 204 yX2_byteCount, Cond.static yX2_byteCount, Cond.code yX2_byteCount cX2_byteCount 1 (some .int), Cond.methodLink RX2 207 yX2_firstByteOffset, Cond.static yX2_firstByteOffset, Cond.code yX2_firstByteOffset cX2_firstByteOffset 1 (some .int), Cond.methodLink RX2 210 yX2_isToldIn, Cond.static yX2_isToldIn, Cond.code yX2_isToldIn cX2_isToldIn 2 (some .boolean), Cond.constant RX2 173 (65536)]
def wsX2_readUnits_r2 : List Cond := [Cond.constant RX2 181 (1114111), Cond.methodLink RX2 167 yX2_isHigh, Cond.static yX2_isHigh, Cond.code yX2_isHigh cX2_isHigh 1 (some .boolean), Cond.constant RX2 182 (55296), Cond.constant RX2 183 (56320), Cond.methodLink RX2 170 yX2_isLow, Cond.static yX2_isLow, Cond.code yX2_isLow cX2_isLow 1 (some .boolean), Cond.constant RX2 184 (57343), Cond.methodLink RX2 58 yX0_addUnitsOf, Cond.instanceMethod yX0_addUnitsOf, Cond.selects RX0 yX0_addUnitsOf yX0_addUnitsOf, Cond.code yX0_addUnitsOf cX0_addUnitsOf 3 none, Cond.constant RX0 23 (65536), Cond.constant RX0 24 (55296), Cond.constant RX0 25 (56320), Cond.methodLink RX0 19 yX0_add, Cond.instanceMethod yX0_add, Cond.selects RX0 yX0_add yX0_add, Cond.code yX0_add cX0_add 2 none, Cond.fieldLink RX0 9 "CharRows$Row" "items" "[I", Cond.methodLink RX2 140 yX0_addAll, Cond.instanceMethod yX0_addAll]
def wsX2_readUnits_r3 : List Cond := [Cond.selects RX0 yX0_addAll yX0_addAll, Cond.code yX0_addAll cX0_addAll 3 none, Cond.methodLink RX2 197 yX2_readTwoBytes, Cond.static yX2_readTwoBytes, Cond.code yX2_readTwoBytes cX2_readTwoBytes 6 (some .int), Cond.methodLink RX2 65 yX0_add]
def wsX2_readUnits : List Cond := .code yX2_readUnits cX2_readUnits 3 (some .int) :: ((wsX2_readUnits_r1 ++ (wsX2_readUnits_r2 ++ wsX2_readUnits_r3)) ++ wsX00)
def wsX2_read_r1 : List Cond := [Cond.constant RX2 47 (-2000000001), Cond.fieldLink RX2 11 "CharRows" "texts" "[LCharRows$Text;", Cond.fieldLink RX2 94 "CharRows$Text" "kindOfItems" "I", Cond.fieldLink RX2 93 "CharRows$Text" "items" "[I", Cond.fieldLink RX2 31 "CharRows" "work" "LCharRows$Row;", Cond.fieldLink RX2 48 "CharRows$Row" "count" "I", Cond.methodLink RX2 71 yX2_isNoText, Cond.static yX2_isNoText, Cond.initialized RX2, Cond.code yX2_isNoText cX2_isNoText 1 (some .boolean), Cond.methodLink RX2 107 yX2_isNoForm, Cond.static yX2_isNoForm, Cond.code yX2_isNoForm cX2_isNoForm 1 (some .boolean), Cond.methodLink RX2 55 yX2_refuse, Cond.instanceMethod yX2_refuse, Cond.selects RX2 yX2_refuse yX2_refuse, Cond.code yX2_refuse cX2_refuse 2 (some .int), Cond.fieldLink RX2 37 "CharRows" "lastCode" "I", Cond.methodLink RX2 124 yX2_readUnits, Cond.static yX2_readUnits, Cond.code yX2_readUnits cX2_readUnits 3 (some .int), Cond.methodLink RX2 68 yX0_empty, Cond.instanceMethod yX0_empty, Cond.selects RX0 yX0_empty yX0_empty]
def wsX2_read_r2 : List Cond := [Cond.initialized RX0, Cond.code yX0_empty cX0_empty 1 none, Cond.fieldLink RX0 15 "CharRows$Row" "count" "I", Cond.methodLink RX2 193 yX2_readManyBytes, Cond.static yX2_readManyBytes, Cond.code yX2_readManyBytes cX2_readManyBytes 5 (some .int), Cond.methodLink RX2 200 yX2_pointFrom, Cond.static yX2_pointFrom, Cond.code yX2_pointFrom cX2_pointFrom 5 (some .int), Cond.methodLink RX2 204 yX2_byteCount, Cond.static yX2_byteCount, Cond.code yX2_byteCount cX2_byteCount 1 (some .int), Cond.methodLink RX2 207 yX2_firstByteOffset, Cond.static yX2_firstByteOffset, Cond.code yX2_firstByteOffset cX2_firstByteOffset 1 (some .int), Cond.methodLink RX2 210 yX2_isToldIn, Cond.static yX2_isToldIn, Cond.code yX2_isToldIn cX2_isToldIn 2 (some .boolean), Cond.constant RX2 173 (65536), Cond.constant RX2 181 (1114111), Cond.methodLink RX2 167 yX2_isHigh, Cond.static yX2_isHigh, Cond.code yX2_isHigh cX2_isHigh 1 (some .boolean), Cond.constant RX2 182 (55296)]
def wsX2_read_r3 : List Cond := [Cond.constant RX2 183 (56320), Cond.methodLink RX2 170 yX2_isLow, Cond.static yX2_isLow, Cond.code yX2_isLow cX2_isLow 1 (some .boolean), Cond.constant RX2 184 (57343), Cond.methodLink RX2 58 yX0_addUnitsOf, Cond.instanceMethod yX0_addUnitsOf, Cond.selects RX0 yX0_addUnitsOf yX0_addUnitsOf, Cond.code yX0_addUnitsOf cX0_addUnitsOf 3 none, Cond.constant RX0 23 (65536), Cond.constant RX0 24 (55296), Cond.constant RX0 25 (56320), Cond.methodLink RX0 19 yX0_add, Cond.instanceMethod yX0_add, Cond.selects RX0 yX0_add yX0_add, Cond.code yX0_add cX0_add 2 none, Cond.fieldLink RX0 9 "CharRows$Row" "items" "[I", Cond.methodLink RX2 140 yX0_addAll, Cond.instanceMethod yX0_addAll, Cond.selects RX0 yX0_addAll yX0_addAll, Cond.code yX0_addAll cX0_addAll 3 none, Cond.methodLink RX2 197 yX2_readTwoBytes, Cond.static yX2_readTwoBytes, Cond.code yX2_readTwoBytes cX2_readTwoBytes 6 (some .int)]
def wsX2_read_r4 : List Cond := [Cond.methodLink RX2 65 yX0_add, Cond.methodLink RX2 118 yX2_refuseAt, Cond.instanceMethod yX2_refuseAt, Cond.selects RX2 yX2_refuseAt yX2_refuseAt, Cond.code yX2_refuseAt cX2_refuseAt 2 (some .int), Cond.fieldLink RX2 40 "CharRows" "lastPlace" "I", Cond.methodLink RX2 85 yX2_setText, Cond.instanceMethod yX2_setText, Cond.selects RX2 yX2_setText yX2_setText, Cond.code yX2_setText cX2_setText 4 (some .int), Cond.classLink RX2 9 RX1, Cond.instantiable RX1 2, Cond.initialized RX1, Cond.methodLink RX2 174 yX1_init, Cond.instanceMethod yX1_init, Cond.code yX1_init cX1_init 3 none, Cond.methodLink RX1 3 objectInit, Cond.instanceMethod objectInit, Cond.code objectInit ⟨#[0xb1]⟩ 1 none, Cond.fieldLink RX1 9 "CharRows$Text" "kindOfItems" "I", Cond.fieldLink RX1 15 "CharRows$Row" "items" "[I", Cond.fieldLink RX1 21 "CharRows$Row" "count" "I", Cond.fieldLink RX1 30 "CharRows$Text" "items" "[I", Cond.methodLink RX1 24 yJ7_copyOf_59c91]
def wsX2_read_r5 : List Cond := [Cond.static yJ7_copyOf_59c91, Cond.initialized RJ7, Cond.code yJ7_copyOf_59c91 cJ7_copyOf_59c91 3 (some (.array .int)), Cond.methodLink RJ7 316 ⟨"[I", "clone", "()Ljava/lang/Object;"⟩, Cond.sameMethod "[I" "java/lang/Object" "clone" "()Ljava/lang/Object;", Cond.native ⟨"java/lang/Object", "clone", "()Ljava/lang/Object;"⟩, Cond.instanceMethod ⟨"java/lang/Object", "clone", "()Ljava/lang/Object;"⟩, Cond.selects "[I" ⟨"[I", "clone", "()Ljava/lang/Object;"⟩ ⟨"java/lang/Object", "clone", "()Ljava/lang/Object;"⟩, Cond.classLink RJ7 317 "[I", Cond.arrayClass .int, Cond.methodLink RJ7 304 Lib.Math.min.name, Cond.static Lib.Math.min.name, Cond.initialized "java/lang/Math", Cond.code Lib.Math.min.name Lib.Math.min.code 2 (some .int), Cond.methodLink RJ7 150 arraycopyName, Cond.native arraycopyName, Cond.static arraycopyName, Cond.initialized "java/lang/System", Cond.methodLink RX2 61 yX2_done, Cond.instanceMethod yX2_done, Cond.selects RX2 yX2_done yX2_done, Cond.code yX2_done cX2_done 2 (some .int)]
def wsX2_read : List Cond := .code yX2_read cX2_read 6 (some .int) :: ((wsX2_read_r1 ++ (wsX2_read_r2 ++ (wsX2_read_r3 ++ (wsX2_read_r4 ++ wsX2_read_r5)))) ++ wsX20 ++ wsX10 ++ wsX00)
def wsX2_isBeyond : List Cond := .code yX2_isBeyond cX2_isBeyond 4 (some .boolean) :: ([.fieldLink RX2 93 "CharRows$Text" "items" "[I"] ++ wsX10)
def wsX2_partsPair : List Cond := .code yX2_partsPair cX2_partsPair 2 (some .boolean) :: ([.fieldLink RX2 94 "CharRows$Text" "kindOfItems" "I", .fieldLink RX2 93 "CharRows$Text" "items" "[I", .methodLink RX2 185 yX2_isInsidePair, .static yX2_isInsidePair, .initialized RX2, .code yX2_isInsidePair cX2_isInsidePair 3 (some .boolean), .methodLink RX2 167 yX2_isHigh, .static yX2_isHigh, .code yX2_isHigh cX2_isHigh 1 (some .boolean), .constant RX2 182 (55296), .constant RX2 183 (56320), .methodLink RX2 170 yX2_isLow, .static yX2_isLow, .code yX2_isLow cX2_isLow 1 (some .boolean), .constant RX2 184 (57343)] ++ wsX10)
def wsX2_cut_r1 : List Cond := [Cond.constant RX2 47 (-2000000001), Cond.fieldLink RX2 11 "CharRows" "texts" "[LCharRows$Text;", Cond.fieldLink RX2 31 "CharRows" "work" "LCharRows$Row;", Cond.fieldLink RX2 93 "CharRows$Text" "items" "[I", Cond.fieldLink RX2 94 "CharRows$Text" "kindOfItems" "I", Cond.methodLink RX2 71 yX2_isNoText, Cond.static yX2_isNoText, Cond.initialized RX2, Cond.code yX2_isNoText cX2_isNoText 1 (some .boolean), Cond.methodLink RX2 55 yX2_refuse, Cond.instanceMethod yX2_refuse, Cond.selects RX2 yX2_refuse yX2_refuse, Cond.code yX2_refuse cX2_refuse 2 (some .int), Cond.fieldLink RX2 37 "CharRows" "lastCode" "I", Cond.methodLink RX2 128 yX2_isBeyond, Cond.static yX2_isBeyond, Cond.code yX2_isBeyond cX2_isBeyond 4 (some .boolean), Cond.methodLink RX2 132 yX2_partsPair, Cond.static yX2_partsPair, Cond.code yX2_partsPair cX2_partsPair 2 (some .boolean), Cond.methodLink RX2 185 yX2_isInsidePair, Cond.static yX2_isInsidePair, Cond.code yX2_isInsidePair cX2_isInsidePair 3 (some .boolean), Cond.methodLink RX2 167 yX2_isHigh]
def wsX2_cut_r2 : List Cond := [Cond.static yX2_isHigh, Cond.code yX2_isHigh cX2_isHigh 1 (some .boolean), Cond.constant RX2 182 (55296), Cond.constant RX2 183 (56320), Cond.methodLink RX2 170 yX2_isLow, Cond.static yX2_isLow, Cond.code yX2_isLow cX2_isLow 1 (some .boolean), Cond.constant RX2 184 (57343), Cond.methodLink RX2 68 yX0_empty, Cond.instanceMethod yX0_empty, Cond.selects RX0 yX0_empty yX0_empty, Cond.initialized RX0, Cond.code yX0_empty cX0_empty 1 none, Cond.fieldLink RX0 15 "CharRows$Row" "count" "I", Cond.methodLink RX2 65 yX0_add, Cond.instanceMethod yX0_add, Cond.selects RX0 yX0_add yX0_add, Cond.code yX0_add cX0_add 2 none, Cond.fieldLink RX0 9 "CharRows$Row" "items" "[I", Cond.methodLink RX2 85 yX2_setText, Cond.instanceMethod yX2_setText, Cond.selects RX2 yX2_setText yX2_setText, Cond.code yX2_setText cX2_setText 4 (some .int), Cond.classLink RX2 9 RX1]
def wsX2_cut_r3 : List Cond := [Cond.instantiable RX1 2, Cond.initialized RX1, Cond.fieldLink RX2 48 "CharRows$Row" "count" "I", Cond.methodLink RX2 174 yX1_init, Cond.instanceMethod yX1_init, Cond.code yX1_init cX1_init 3 none, Cond.methodLink RX1 3 objectInit, Cond.instanceMethod objectInit, Cond.code objectInit ⟨#[0xb1]⟩ 1 none, Cond.fieldLink RX1 9 "CharRows$Text" "kindOfItems" "I", Cond.fieldLink RX1 15 "CharRows$Row" "items" "[I", Cond.fieldLink RX1 21 "CharRows$Row" "count" "I", Cond.fieldLink RX1 30 "CharRows$Text" "items" "[I", Cond.methodLink RX1 24 yJ7_copyOf_59c91, Cond.static yJ7_copyOf_59c91, Cond.initialized RJ7, Cond.code yJ7_copyOf_59c91 cJ7_copyOf_59c91 3 (some (.array .int)), Cond.methodLink RJ7 316 ⟨"[I", "clone", "()Ljava/lang/Object;"⟩, Cond.sameMethod "[I" "java/lang/Object" "clone" "()Ljava/lang/Object;", Cond.native ⟨"java/lang/Object", "clone", "()Ljava/lang/Object;"⟩, Cond.instanceMethod ⟨"java/lang/Object", "clone", "()Ljava/lang/Object;"⟩, Cond.selects "[I" ⟨"[I", "clone", "()Ljava/lang/Object;"⟩ ⟨"java/lang/Object", "clone", "()Ljava/lang/Object;"⟩, Cond.classLink RJ7 317 "[I", Cond.arrayClass .int]
def wsX2_cut_r4 : List Cond := [Cond.methodLink RJ7 304 Lib.Math.min.name, Cond.static Lib.Math.min.name, Cond.initialized "java/lang/Math", Cond.code Lib.Math.min.name Lib.Math.min.code 2 (some .int), Cond.methodLink RJ7 150 arraycopyName, Cond.native arraycopyName, Cond.static arraycopyName, Cond.initialized "java/lang/System", Cond.methodLink RX2 61 yX2_done, Cond.instanceMethod yX2_done, Cond.selects RX2 yX2_done yX2_done, Cond.code yX2_done cX2_done 2 (some .int)]
def wsX2_cut : List Cond := .code yX2_cut cX2_cut 7 (some .int) :: ((wsX2_cut_r1 ++ (wsX2_cut_r2 ++ (wsX2_cut_r3 ++ wsX2_cut_r4))) ++ wsX20 ++ wsX10 ++ wsX00)
def wsX2_join_r1 : List Cond := [Cond.constant RX2 47 (-2000000001), Cond.fieldLink RX2 11 "CharRows" "texts" "[LCharRows$Text;", Cond.fieldLink RX2 94 "CharRows$Text" "kindOfItems" "I", Cond.fieldLink RX2 93 "CharRows$Text" "items" "[I", Cond.fieldLink RX2 31 "CharRows" "work" "LCharRows$Row;", Cond.methodLink RX2 71 yX2_isNoText, Cond.static yX2_isNoText, Cond.initialized RX2, Cond.code yX2_isNoText cX2_isNoText 1 (some .boolean), Cond.methodLink RX2 55 yX2_refuse, Cond.instanceMethod yX2_refuse, Cond.selects RX2 yX2_refuse yX2_refuse, Cond.code yX2_refuse cX2_refuse 2 (some .int), Cond.fieldLink RX2 37 "CharRows" "lastCode" "I", Cond.methodLink RX2 136 yX1_mostItems, Cond.instanceMethod yX1_mostItems, Cond.selects RX1 yX1_mostItems yX1_mostItems, Cond.initialized RX1, Cond.code yX1_mostItems cX1_mostItems 1 (some .int), Cond.fieldLink RX1 9 "CharRows$Text" "kindOfItems" "I", Cond.methodLink RX2 68 yX0_empty, Cond.instanceMethod yX0_empty, Cond.selects RX0 yX0_empty yX0_empty, Cond.initialized RX0]
def wsX2_join_r2 : List Cond := [Cond.code yX0_empty cX0_empty 1 none, Cond.fieldLink RX0 15 "CharRows$Row" "count" "I", Cond.methodLink RX2 140 yX0_addAll, Cond.instanceMethod yX0_addAll, Cond.selects RX0 yX0_addAll yX0_addAll, Cond.code yX0_addAll cX0_addAll 3 none, Cond.methodLink RX0 19 yX0_add, Cond.instanceMethod yX0_add, Cond.selects RX0 yX0_add yX0_add, Cond.code yX0_add cX0_add 2 none, Cond.fieldLink RX0 9 "CharRows$Row" "items" "[I", Cond.methodLink RX2 85 yX2_setText, Cond.instanceMethod yX2_setText, Cond.selects RX2 yX2_setText yX2_setText, Cond.code yX2_setText cX2_setText 4 (some .int), Cond.classLink RX2 9 RX1, Cond.instantiable RX1 2, Cond.fieldLink RX2 48 "CharRows$Row" "count" "I", Cond.methodLink RX2 174 yX1_init, Cond.instanceMethod yX1_init, Cond.code yX1_init cX1_init 3 none, Cond.methodLink RX1 3 objectInit, Cond.instanceMethod objectInit, Cond.code objectInit ⟨#[0xb1]⟩ 1 none]
def wsX2_join_r3 : List Cond := [Cond.fieldLink RX1 15 "CharRows$Row" "items" "[I", Cond.fieldLink RX1 21 "CharRows$Row" "count" "I", Cond.fieldLink RX1 30 "CharRows$Text" "items" "[I", Cond.methodLink RX1 24 yJ7_copyOf_59c91, Cond.static yJ7_copyOf_59c91, Cond.initialized RJ7, Cond.code yJ7_copyOf_59c91 cJ7_copyOf_59c91 3 (some (.array .int)), Cond.methodLink RJ7 316 ⟨"[I", "clone", "()Ljava/lang/Object;"⟩, Cond.sameMethod "[I" "java/lang/Object" "clone" "()Ljava/lang/Object;", Cond.native ⟨"java/lang/Object", "clone", "()Ljava/lang/Object;"⟩, Cond.instanceMethod ⟨"java/lang/Object", "clone", "()Ljava/lang/Object;"⟩, Cond.selects "[I" ⟨"[I", "clone", "()Ljava/lang/Object;"⟩ ⟨"java/lang/Object", "clone", "()Ljava/lang/Object;"⟩, Cond.classLink RJ7 317 "[I", Cond.arrayClass .int, Cond.methodLink RJ7 304 Lib.Math.min.name, Cond.static Lib.Math.min.name, Cond.initialized "java/lang/Math", Cond.code Lib.Math.min.name Lib.Math.min.code 2 (some .int), Cond.methodLink RJ7 150 arraycopyName, Cond.native arraycopyName, Cond.static arraycopyName, Cond.initialized "java/lang/System", Cond.methodLink RX2 61 yX2_done, Cond.instanceMethod yX2_done]
def wsX2_join_r4 : List Cond := [Cond.selects RX2 yX2_done yX2_done, Cond.code yX2_done cX2_done 2 (some .int)]
def wsX2_join : List Cond := .code yX2_join cX2_join 6 (some .int) :: ((wsX2_join_r1 ++ (wsX2_join_r2 ++ (wsX2_join_r3 ++ wsX2_join_r4))) ++ wsX20 ++ wsX10 ++ wsX00)
def wsX2_back_r1 : List Cond := [Cond.constant RX2 47 (-2000000001), Cond.fieldLink RX2 11 "CharRows" "texts" "[LCharRows$Text;", Cond.fieldLink RX2 31 "CharRows" "work" "LCharRows$Row;", Cond.fieldLink RX2 34 "CharRows" "secondWork" "LCharRows$Row;", Cond.fieldLink RX2 48 "CharRows$Row" "count" "I", Cond.fieldLink RX2 74 "CharRows$Row" "items" "[I", Cond.fieldLink RX2 94 "CharRows$Text" "kindOfItems" "I", Cond.methodLink RX2 71 yX2_isNoText, Cond.static yX2_isNoText, Cond.initialized RX2, Cond.code yX2_isNoText cX2_isNoText 1 (some .boolean), Cond.methodLink RX2 55 yX2_refuse, Cond.instanceMethod yX2_refuse, Cond.selects RX2 yX2_refuse yX2_refuse, Cond.code yX2_refuse cX2_refuse 2 (some .int), Cond.fieldLink RX2 37 "CharRows" "lastCode" "I", Cond.methodLink RX2 97 yX2_listPoints, Cond.static yX2_listPoints, Cond.code yX2_listPoints cX2_listPoints 2 none, Cond.fieldLink RX2 93 "CharRows$Text" "items" "[I", Cond.methodLink RX2 68 yX0_empty, Cond.instanceMethod yX0_empty, Cond.selects RX0 yX0_empty yX0_empty, Cond.initialized RX0]
def wsX2_back_r2 : List Cond := [Cond.code yX0_empty cX0_empty 1 none, Cond.fieldLink RX0 15 "CharRows$Row" "count" "I", Cond.methodLink RX2 78 yX0_addPointsOf, Cond.instanceMethod yX0_addPointsOf, Cond.selects RX0 yX0_addPointsOf yX0_addPointsOf, Cond.code yX0_addPointsOf cX0_addPointsOf 4 none, Cond.static yX2_isInsidePair, Cond.code yX2_isInsidePair cX2_isInsidePair 3 (some .boolean), Cond.methodLink RX2 167 yX2_isHigh, Cond.static yX2_isHigh, Cond.code yX2_isHigh cX2_isHigh 1 (some .boolean), Cond.constant RX2 182 (55296), Cond.constant RX2 183 (56320), Cond.methodLink RX2 170 yX2_isLow, Cond.static yX2_isLow, Cond.code yX2_isLow cX2_isLow 1 (some .boolean), Cond.constant RX2 184 (57343), Cond.static yX2_pairedPoint, Cond.code yX2_pairedPoint cX2_pairedPoint 2 (some .int), Cond.constant RX2 173 (65536), Cond.methodLink RX0 19 yX0_add, Cond.instanceMethod yX0_add, Cond.selects RX0 yX0_add yX0_add, Cond.code yX0_add cX0_add 2 none]
def wsX2_back_r3 : List Cond := [Cond.fieldLink RX0 9 "CharRows$Row" "items" "[I", Cond.methodLink RX2 140 yX0_addAll, Cond.instanceMethod yX0_addAll, Cond.selects RX0 yX0_addAll yX0_addAll, Cond.code yX0_addAll cX0_addAll 3 none, Cond.methodLink RX2 58 yX0_addUnitsOf, Cond.instanceMethod yX0_addUnitsOf, Cond.selects RX0 yX0_addUnitsOf yX0_addUnitsOf, Cond.code yX0_addUnitsOf cX0_addUnitsOf 3 none, Cond.constant RX0 23 (65536), Cond.constant RX0 24 (55296), Cond.constant RX0 25 (56320), Cond.methodLink RX2 65 yX0_add, Cond.methodLink RX2 85 yX2_setText, Cond.instanceMethod yX2_setText, Cond.selects RX2 yX2_setText yX2_setText, Cond.code yX2_setText cX2_setText 4 (some .int), Cond.classLink RX2 9 RX1, Cond.instantiable RX1 2, Cond.initialized RX1, Cond.methodLink RX2 174 yX1_init, Cond.instanceMethod yX1_init, Cond.code yX1_init cX1_init 3 none, Cond.methodLink RX1 3 objectInit]
def wsX2_back_r4 : List Cond := [Cond.instanceMethod objectInit, Cond.code objectInit ⟨#[0xb1]⟩ 1 none, Cond.fieldLink RX1 9 "CharRows$Text" "kindOfItems" "I", Cond.fieldLink RX1 15 "CharRows$Row" "items" "[I", Cond.fieldLink RX1 21 "CharRows$Row" "count" "I", Cond.fieldLink RX1 30 "CharRows$Text" "items" "[I", Cond.methodLink RX1 24 yJ7_copyOf_59c91, Cond.static yJ7_copyOf_59c91, Cond.initialized RJ7, Cond.code yJ7_copyOf_59c91 cJ7_copyOf_59c91 3 (some (.array .int)), Cond.methodLink RJ7 316 ⟨"[I", "clone", "()Ljava/lang/Object;"⟩, Cond.sameMethod "[I" "java/lang/Object" "clone" "()Ljava/lang/Object;", Cond.native ⟨"java/lang/Object", "clone", "()Ljava/lang/Object;"⟩, Cond.instanceMethod ⟨"java/lang/Object", "clone", "()Ljava/lang/Object;"⟩, Cond.selects "[I" ⟨"[I", "clone", "()Ljava/lang/Object;"⟩ ⟨"java/lang/Object", "clone", "()Ljava/lang/Object;"⟩, Cond.classLink RJ7 317 "[I", Cond.arrayClass .int, Cond.methodLink RJ7 304 Lib.Math.min.name, Cond.static Lib.Math.min.name, Cond.initialized "java/lang/Math", Cond.code Lib.Math.min.name Lib.Math.min.code 2 (some .int), Cond.methodLink RJ7 150 arraycopyName, Cond.native arraycopyName, Cond.static arraycopyName]
def wsX2_back_r5 : List Cond := [Cond.initialized "java/lang/System", Cond.methodLink RX2 61 yX2_done, Cond.instanceMethod yX2_done, Cond.selects RX2 yX2_done yX2_done, Cond.code yX2_done cX2_done 2 (some .int)]
def wsX2_back : List Cond := .code yX2_back cX2_back 5 (some .int) :: ((wsX2_back_r1 ++ (wsX2_back_r2 ++ (wsX2_back_r3 ++ (wsX2_back_r4 ++ wsX2_back_r5)))) ++ wsX20 ++ wsX00 ++ wsX10)
def wsX2_copy : List Cond := .code yX2_copy cX2_copy 8 (some .int) :: ([.constant RX2 47 (-2000000001), .fieldLink RX2 11 "CharRows" "texts" "[LCharRows$Text;", .fieldLink RX2 94 "CharRows$Text" "kindOfItems" "I", .fieldLink RX2 93 "CharRows$Text" "items" "[I", .methodLink RX2 144 arraycopyName, .native arraycopyName, .static arraycopyName, .initialized "java/lang/System", .methodLink RX2 71 yX2_isNoText, .static yX2_isNoText, .initialized RX2, .code yX2_isNoText cX2_isNoText 1 (some .boolean), .methodLink RX2 55 yX2_refuse, .instanceMethod yX2_refuse, .selects RX2 yX2_refuse yX2_refuse, .code yX2_refuse cX2_refuse 2 (some .int), .fieldLink RX2 37 "CharRows" "lastCode" "I", .methodLink RX2 128 yX2_isBeyond, .static yX2_isBeyond, .code yX2_isBeyond cX2_isBeyond 4 (some .boolean), .methodLink RX2 61 yX2_done, .instanceMethod yX2_done, .selects RX2 yX2_done yX2_done, .code yX2_done cX2_done 2 (some .int)] ++ wsX20 ++ wsX10)
def wsX2_standsAt : List Cond := .code yX2_standsAt cX2_standsAt 5 (some .boolean) :: ([.fieldLink RX2 93 "CharRows$Text" "items" "[I", .methodLink RX2 128 yX2_isBeyond, .static yX2_isBeyond, .initialized RX2, .code yX2_isBeyond cX2_isBeyond 4 (some .boolean), .methodLink RX2 132 yX2_partsPair, .static yX2_partsPair, .code yX2_partsPair cX2_partsPair 2 (some .boolean), .fieldLink RX2 94 "CharRows$Text" "kindOfItems" "I", .methodLink RX2 185 yX2_isInsidePair, .static yX2_isInsidePair, .code yX2_isInsidePair cX2_isInsidePair 3 (some .boolean), .methodLink RX2 167 yX2_isHigh, .static yX2_isHigh, .code yX2_isHigh cX2_isHigh 1 (some .boolean), .constant RX2 182 (55296), .constant RX2 183 (56320), .methodLink RX2 170 yX2_isLow, .static yX2_isLow, .code yX2_isLow cX2_isLow 1 (some .boolean), .constant RX2 184 (57343)] ++ wsX10)
def wsX2_find_r1 : List Cond := [Cond.constant RX2 47 (-2000000001), Cond.fieldLink RX2 11 "CharRows" "texts" "[LCharRows$Text;", Cond.fieldLink RX2 94 "CharRows$Text" "kindOfItems" "I", Cond.fieldLink RX2 93 "CharRows$Text" "items" "[I", Cond.methodLink RX2 71 yX2_isNoText, Cond.static yX2_isNoText, Cond.initialized RX2, Cond.code yX2_isNoText cX2_isNoText 1 (some .boolean), Cond.methodLink RX2 55 yX2_refuse, Cond.instanceMethod yX2_refuse, Cond.selects RX2 yX2_refuse yX2_refuse, Cond.code yX2_refuse cX2_refuse 2 (some .int), Cond.fieldLink RX2 37 "CharRows" "lastCode" "I", Cond.methodLink RX2 150 yX2_standsAt, Cond.static yX2_standsAt, Cond.code yX2_standsAt cX2_standsAt 5 (some .boolean), Cond.methodLink RX2 128 yX2_isBeyond, Cond.static yX2_isBeyond, Cond.code yX2_isBeyond cX2_isBeyond 4 (some .boolean), Cond.methodLink RX2 132 yX2_partsPair, Cond.static yX2_partsPair, Cond.code yX2_partsPair cX2_partsPair 2 (some .boolean), Cond.methodLink RX2 185 yX2_isInsidePair, Cond.static yX2_isInsidePair]
def wsX2_find_r2 : List Cond := [Cond.code yX2_isInsidePair cX2_isInsidePair 3 (some .boolean), Cond.methodLink RX2 167 yX2_isHigh, Cond.static yX2_isHigh, Cond.code yX2_isHigh cX2_isHigh 1 (some .boolean), Cond.constant RX2 182 (55296), Cond.constant RX2 183 (56320), Cond.methodLink RX2 170 yX2_isLow, Cond.static yX2_isLow, Cond.code yX2_isLow cX2_isLow 1 (some .boolean), Cond.constant RX2 184 (57343), Cond.methodLink RX2 61 yX2_done, Cond.instanceMethod yX2_done, Cond.selects RX2 yX2_done yX2_done, Cond.code yX2_done cX2_done 2 (some .int)]
def wsX2_find : List Cond := .code yX2_find cX2_find 8 (some .int) :: ((wsX2_find_r1 ++ wsX2_find_r2) ++ wsX20 ++ wsX10)
def wsX2_order : List Cond := .code yX2_order cX2_order 4 (some .int) :: ([.fieldLink RX2 48 "CharRows$Row" "count" "I", .fieldLink RX2 74 "CharRows$Row" "items" "[I", .methodLink RX2 214 Lib.Math.min.name, .static Lib.Math.min.name, .initialized "java/lang/Math", .code Lib.Math.min.name Lib.Math.min.code 2 (some .int)] ++ wsX00)
def wsX2_compare_r1 : List Cond := [Cond.constant RX2 47 (-2000000001), Cond.fieldLink RX2 11 "CharRows" "texts" "[LCharRows$Text;", Cond.fieldLink RX2 94 "CharRows$Text" "kindOfItems" "I", Cond.fieldLink RX2 31 "CharRows" "work" "LCharRows$Row;", Cond.fieldLink RX2 34 "CharRows" "secondWork" "LCharRows$Row;", Cond.methodLink RX2 71 yX2_isNoText, Cond.static yX2_isNoText, Cond.initialized RX2, Cond.code yX2_isNoText cX2_isNoText 1 (some .boolean), Cond.methodLink RX2 101 yX2_isNoWay, Cond.static yX2_isNoWay, Cond.code yX2_isNoWay cX2_isNoWay 1 (some .boolean), Cond.methodLink RX2 55 yX2_refuse, Cond.instanceMethod yX2_refuse, Cond.selects RX2 yX2_refuse yX2_refuse, Cond.code yX2_refuse cX2_refuse 2 (some .int), Cond.fieldLink RX2 37 "CharRows" "lastCode" "I", Cond.methodLink RX2 104 yX2_listUnits, Cond.static yX2_listUnits, Cond.code yX2_listUnits cX2_listUnits 3 none, Cond.fieldLink RX2 93 "CharRows$Text" "items" "[I", Cond.methodLink RX2 68 yX0_empty, Cond.instanceMethod yX0_empty, Cond.selects RX0 yX0_empty yX0_empty]
def wsX2_compare_r2 : List Cond := [Cond.initialized RX0, Cond.code yX0_empty cX0_empty 1 none, Cond.fieldLink RX0 15 "CharRows$Row" "count" "I", Cond.methodLink RX2 140 yX0_addAll, Cond.instanceMethod yX0_addAll, Cond.selects RX0 yX0_addAll yX0_addAll, Cond.code yX0_addAll cX0_addAll 3 none, Cond.methodLink RX0 19 yX0_add, Cond.instanceMethod yX0_add, Cond.selects RX0 yX0_add yX0_add, Cond.code yX0_add cX0_add 2 none, Cond.fieldLink RX0 9 "CharRows$Row" "items" "[I", Cond.methodLink RX2 58 yX0_addUnitsOf, Cond.instanceMethod yX0_addUnitsOf, Cond.selects RX0 yX0_addUnitsOf yX0_addUnitsOf, Cond.code yX0_addUnitsOf cX0_addUnitsOf 3 none, Cond.constant RX0 23 (65536), Cond.constant RX0 24 (55296), Cond.constant RX0 25 (56320), Cond.methodLink RX2 97 yX2_listPoints, Cond.static yX2_listPoints, Cond.code yX2_listPoints cX2_listPoints 2 none, Cond.methodLink RX2 78 yX0_addPointsOf, Cond.instanceMethod yX0_addPointsOf]
def wsX2_compare_r3 : List Cond := [Cond.selects RX0 yX0_addPointsOf yX0_addPointsOf, Cond.code yX0_addPointsOf cX0_addPointsOf 4 none, Cond.static yX2_isInsidePair, Cond.code yX2_isInsidePair cX2_isInsidePair 3 (some .boolean), Cond.methodLink RX2 167 yX2_isHigh, Cond.static yX2_isHigh, Cond.code yX2_isHigh cX2_isHigh 1 (some .boolean), Cond.constant RX2 182 (55296), Cond.constant RX2 183 (56320), Cond.methodLink RX2 170 yX2_isLow, Cond.static yX2_isLow, Cond.code yX2_isLow cX2_isLow 1 (some .boolean), Cond.constant RX2 184 (57343), Cond.static yX2_pairedPoint, Cond.code yX2_pairedPoint cX2_pairedPoint 2 (some .int), Cond.constant RX2 173 (65536), Cond.methodLink RX2 154 yX2_order, Cond.static yX2_order, Cond.code yX2_order cX2_order 4 (some .int), Cond.fieldLink RX2 48 "CharRows$Row" "count" "I", Cond.fieldLink RX2 74 "CharRows$Row" "items" "[I", Cond.methodLink RX2 214 Lib.Math.min.name, Cond.static Lib.Math.min.name, Cond.initialized "java/lang/Math"]
def wsX2_compare_r4 : List Cond := [Cond.code Lib.Math.min.name Lib.Math.min.code 2 (some .int), Cond.methodLink RX2 61 yX2_done, Cond.instanceMethod yX2_done, Cond.selects RX2 yX2_done yX2_done, Cond.code yX2_done cX2_done 2 (some .int)]
def wsX2_compare : List Cond := .code yX2_compare cX2_compare 6 (some .int) :: ((wsX2_compare_r1 ++ (wsX2_compare_r2 ++ (wsX2_compare_r3 ++ wsX2_compare_r4))) ++ wsX20 ++ wsX10 ++ wsX00)
def wsX2_greater : List Cond := .code yX2_greater cX2_greater 1 (some .int) :: ([])
def wsX2_lesser : List Cond := .code yX2_lesser cX2_lesser 1 (some .int) :: ([])
def wsX2_change_r1 : List Cond := [Cond.constant RX2 47 (-2000000001), Cond.fieldLink RX2 11 "CharRows" "texts" "[LCharRows$Text;", Cond.fieldLink RX2 94 "CharRows$Text" "kindOfItems" "I", Cond.fieldLink RX2 31 "CharRows" "work" "LCharRows$Row;", Cond.fieldLink RX2 93 "CharRows$Text" "items" "[I", Cond.methodLink RX2 71 yX2_isNoText, Cond.static yX2_isNoText, Cond.initialized RX2, Cond.code yX2_isNoText cX2_isNoText 1 (some .boolean), Cond.methodLink RX2 101 yX2_isNoWay, Cond.static yX2_isNoWay, Cond.code yX2_isNoWay cX2_isNoWay 1 (some .boolean), Cond.methodLink RX2 55 yX2_refuse, Cond.instanceMethod yX2_refuse, Cond.selects RX2 yX2_refuse yX2_refuse, Cond.code yX2_refuse cX2_refuse 2 (some .int), Cond.fieldLink RX2 37 "CharRows" "lastCode" "I", Cond.methodLink RX2 68 yX0_empty, Cond.instanceMethod yX0_empty, Cond.selects RX0 yX0_empty yX0_empty, Cond.initialized RX0, Cond.code yX0_empty cX0_empty 1 none, Cond.fieldLink RX0 15 "CharRows$Row" "count" "I", Cond.methodLink RX2 158 yX2_greater]
def wsX2_change_r2 : List Cond := [Cond.static yX2_greater, Cond.code yX2_greater cX2_greater 1 (some .int), Cond.methodLink RX2 161 yX2_lesser, Cond.static yX2_lesser, Cond.code yX2_lesser cX2_lesser 1 (some .int), Cond.methodLink RX2 65 yX0_add, Cond.instanceMethod yX0_add, Cond.selects RX0 yX0_add yX0_add, Cond.code yX0_add cX0_add 2 none, Cond.fieldLink RX0 9 "CharRows$Row" "items" "[I", Cond.methodLink RX2 85 yX2_setText, Cond.instanceMethod yX2_setText, Cond.selects RX2 yX2_setText yX2_setText, Cond.code yX2_setText cX2_setText 4 (some .int), Cond.classLink RX2 9 RX1, Cond.instantiable RX1 2, Cond.initialized RX1, Cond.fieldLink RX2 48 "CharRows$Row" "count" "I", Cond.methodLink RX2 174 yX1_init, Cond.instanceMethod yX1_init, Cond.code yX1_init cX1_init 3 none, Cond.methodLink RX1 3 objectInit, Cond.instanceMethod objectInit, Cond.code objectInit ⟨#[0xb1]⟩ 1 none]
def wsX2_change_r3 : List Cond := [Cond.fieldLink RX1 9 "CharRows$Text" "kindOfItems" "I", Cond.fieldLink RX1 15 "CharRows$Row" "items" "[I", Cond.fieldLink RX1 21 "CharRows$Row" "count" "I", Cond.fieldLink RX1 30 "CharRows$Text" "items" "[I", Cond.methodLink RX1 24 yJ7_copyOf_59c91, Cond.static yJ7_copyOf_59c91, Cond.initialized RJ7, Cond.code yJ7_copyOf_59c91 cJ7_copyOf_59c91 3 (some (.array .int)), Cond.methodLink RJ7 316 ⟨"[I", "clone", "()Ljava/lang/Object;"⟩, Cond.sameMethod "[I" "java/lang/Object" "clone" "()Ljava/lang/Object;", Cond.native ⟨"java/lang/Object", "clone", "()Ljava/lang/Object;"⟩, Cond.instanceMethod ⟨"java/lang/Object", "clone", "()Ljava/lang/Object;"⟩, Cond.selects "[I" ⟨"[I", "clone", "()Ljava/lang/Object;"⟩ ⟨"java/lang/Object", "clone", "()Ljava/lang/Object;"⟩, Cond.classLink RJ7 317 "[I", Cond.arrayClass .int, Cond.methodLink RJ7 304 Lib.Math.min.name, Cond.static Lib.Math.min.name, Cond.initialized "java/lang/Math", Cond.code Lib.Math.min.name Lib.Math.min.code 2 (some .int), Cond.methodLink RJ7 150 arraycopyName, Cond.native arraycopyName, Cond.static arraycopyName, Cond.initialized "java/lang/System", Cond.methodLink RX2 61 yX2_done]
def wsX2_change_r4 : List Cond := [Cond.instanceMethod yX2_done, Cond.selects RX2 yX2_done yX2_done, Cond.code yX2_done cX2_done 2 (some .int)]
def wsX2_change : List Cond := .code yX2_change cX2_change 6 (some .int) :: ((wsX2_change_r1 ++ (wsX2_change_r2 ++ (wsX2_change_r3 ++ wsX2_change_r4))) ++ wsX20 ++ wsX10 ++ wsX00)
def wsX2_hasSameItems : List Cond := .code yX2_hasSameItems cX2_hasSameItems 3 (some .boolean) :: ([.fieldLink RX2 93 "CharRows$Text" "items" "[I"] ++ wsX10)
def wsX2_keptLike : List Cond := .code yX2_keptLike cX2_keptLike 3 (some .int) :: ([.fieldLink RX2 18 "CharRows" "keptCount" "I", .fieldLink RX2 15 "CharRows" "keptTexts" "[LCharRows$Text;", .methodLink RX2 177 yX2_hasSameItems, .static yX2_hasSameItems, .initialized RX2, .code yX2_hasSameItems cX2_hasSameItems 3 (some .boolean), .fieldLink RX2 93 "CharRows$Text" "items" "[I"] ++ wsX20 ++ wsX10)
def wsX2_keep_r1 : List Cond := [Cond.constant RX2 47 (-2000000001), Cond.fieldLink RX2 11 "CharRows" "texts" "[LCharRows$Text;", Cond.fieldLink RX2 94 "CharRows$Text" "kindOfItems" "I", Cond.fieldLink RX2 15 "CharRows" "keptTexts" "[LCharRows$Text;", Cond.fieldLink RX2 18 "CharRows" "keptCount" "I", Cond.methodLink RX2 71 yX2_isNoText, Cond.static yX2_isNoText, Cond.initialized RX2, Cond.code yX2_isNoText cX2_isNoText 1 (some .boolean), Cond.methodLink RX2 55 yX2_refuse, Cond.instanceMethod yX2_refuse, Cond.selects RX2 yX2_refuse yX2_refuse, Cond.code yX2_refuse cX2_refuse 2 (some .int), Cond.fieldLink RX2 37 "CharRows" "lastCode" "I", Cond.methodLink RX2 164 yX2_keptLike, Cond.instanceMethod yX2_keptLike, Cond.selects RX2 yX2_keptLike yX2_keptLike, Cond.code yX2_keptLike cX2_keptLike 3 (some .int), Cond.methodLink RX2 177 yX2_hasSameItems, Cond.static yX2_hasSameItems, Cond.code yX2_hasSameItems cX2_hasSameItems 3 (some .boolean), Cond.fieldLink RX2 93 "CharRows$Text" "items" "[I", Cond.methodLink RX2 61 yX2_done, Cond.instanceMethod yX2_done]
def wsX2_keep_r2 : List Cond := [Cond.selects RX2 yX2_done yX2_done, Cond.code yX2_done cX2_done 2 (some .int)]
def wsX2_keep : List Cond := .code yX2_keep cX2_keep 4 (some .int) :: ((wsX2_keep_r1 ++ wsX2_keep_r2) ++ wsX20 ++ wsX10)
def wsX2_kept : List Cond := .code yX2_kept cX2_kept 1 (some .int) :: ([.fieldLink RX2 18 "CharRows" "keptCount" "I"] ++ wsX20)
def wsX2_same : List Cond := .code yX2_same cX2_same 3 (some .int) :: ([.constant RX2 47 (-2000000001), .fieldLink RX2 11 "CharRows" "texts" "[LCharRows$Text;", .methodLink RX2 71 yX2_isNoText, .static yX2_isNoText, .initialized RX2, .code yX2_isNoText cX2_isNoText 1 (some .boolean)] ++ wsX20)
def wsX2_kind : List Cond := .code yX2_kind cX2_kind 2 (some .int) :: ([.constant RX2 47 (-2000000001), .constant RX2 173 (65536), .methodLink RX2 43 yX2_isNoPoint, .static yX2_isNoPoint, .initialized RX2, .code yX2_isNoPoint cX2_isNoPoint 1 (some .boolean), .constant RX2 181 (1114111), .methodLink RX2 167 yX2_isHigh, .static yX2_isHigh, .code yX2_isHigh cX2_isHigh 1 (some .boolean), .constant RX2 182 (55296), .constant RX2 183 (56320), .methodLink RX2 170 yX2_isLow, .static yX2_isLow, .code yX2_isLow cX2_isLow 1 (some .boolean), .constant RX2 184 (57343), .methodLink RX2 158 yX2_greater, .static yX2_greater, .code yX2_greater cX2_greater 1 (some .int), .methodLink RX2 161 yX2_lesser, .static yX2_lesser, .code yX2_lesser cX2_lesser 1 (some .int)])
def wsX3_init : List Cond := .code yX3_init cX3_init 2 none :: ([.methodLink RX3 1 objectInit, .instanceMethod objectInit, .code objectInit ⟨#[0xb1]⟩ 1 none, .arrayClass .int, .fieldLink RX3 7 "CharRowsModel" "textRow" "[I", .fieldLink RX3 13 "CharRowsModel" "keptRow" "[I", .fieldLink RX3 16 "CharRowsModel" "rowSort" "[I", .fieldLink RX3 19 "CharRowsModel" "rowMany" "[I", .fieldLink RX3 22 "CharRowsModel" "rowItem" "[I", .fieldLink RX3 25 "CharRowsModel" "draft" "[I", .fieldLink RX3 28 "CharRowsModel" "broken" "I", .fieldLink RX3 32 "CharRowsModel" "points" "[I", .fieldLink RX3 35 "CharRowsModel" "units" "[I", .fieldLink RX3 38 "CharRowsModel" "others" "[I", .fieldLink RX3 41 "CharRowsModel" "bytes" "[I"] ++ wsX30)
def wsX3_within : List Cond := .code yX3_within cX3_within 3 (some .boolean) :: ([])
def wsX3_isText : List Cond := .code yX3_isText cX3_isText 1 (some .boolean) :: ([.methodLink RX3 44 yX3_within, .static yX3_within, .initialized RX3, .code yX3_within cX3_within 3 (some .boolean)])
def wsX3_isPoint : List Cond := .code yX3_isPoint cX3_isPoint 1 (some .boolean) :: ([.constant RX3 48 (1114111), .methodLink RX3 44 yX3_within, .static yX3_within, .initialized RX3, .code yX3_within cX3_within 3 (some .boolean)])
def wsX3_isHigh : List Cond := .code yX3_isHigh cX3_isHigh 1 (some .boolean) :: ([.constant RX3 49 (55296), .constant RX3 50 (56319), .methodLink RX3 44 yX3_within, .static yX3_within, .initialized RX3, .code yX3_within cX3_within 3 (some .boolean)])
def wsX3_isLow : List Cond := .code yX3_isLow cX3_isLow 1 (some .boolean) :: ([.constant RX3 51 (56320), .constant RX3 52 (57343), .methodLink RX3 44 yX3_within, .static yX3_within, .initialized RX3, .code yX3_within cX3_within 3 (some .boolean)])
def wsX3_no : List Cond := .code yX3_no cX3_no 2 (some .int) :: ([.fieldLink RX3 53 "CharRowsModel" "code" "I"] ++ wsX30)
def wsX3_yes : List Cond := .code yX3_yes cX3_yes 2 (some .int) :: ([.fieldLink RX3 53 "CharRowsModel" "code" "I"] ++ wsX30)
def wsX3_breaks : List Cond := .code yX3_breaks cX3_breaks 2 (some .int) :: ([.fieldLink RX3 28 "CharRowsModel" "broken" "I", .methodLink RX3 56 yX3_no, .instanceMethod yX3_no, .selects RX3 yX3_no yX3_no, .initialized RX3, .code yX3_no cX3_no 2 (some .int), .fieldLink RX3 53 "CharRowsModel" "code" "I"] ++ wsX30)
def wsX3_code : List Cond := .code yX3_code cX3_code 1 (some .int) :: ([.fieldLink RX3 53 "CharRowsModel" "code" "I"] ++ wsX30)
def wsX3_place : List Cond := .code yX3_place cX3_place 1 (some .int) :: ([.fieldLink RX3 28 "CharRowsModel" "broken" "I"] ++ wsX30)
def wsX3_freeRow : List Cond := .code yX3_freeRow cX3_freeRow 4 (some .int) :: ([.fieldLink RX3 7 "CharRowsModel" "textRow" "[I", .fieldLink RX3 60 "CharRowsModel" "kept" "I", .fieldLink RX3 13 "CharRowsModel" "keptRow" "[I"] ++ wsX30)
def wsX3_become : List Cond := .code yX3_become cX3_become 7 (some .int) :: ([.fieldLink RX3 16 "CharRowsModel" "rowSort" "[I", .fieldLink RX3 19 "CharRowsModel" "rowMany" "[I", .fieldLink RX3 22 "CharRowsModel" "rowItem" "[I", .fieldLink RX3 7 "CharRowsModel" "textRow" "[I", .methodLink RX3 63 yX3_freeRow, .instanceMethod yX3_freeRow, .selects RX3 yX3_freeRow yX3_freeRow, .initialized RX3, .code yX3_freeRow cX3_freeRow 4 (some .int), .fieldLink RX3 60 "CharRowsModel" "kept" "I", .fieldLink RX3 13 "CharRowsModel" "keptRow" "[I", .methodLink RX3 67 yX3_yes, .instanceMethod yX3_yes, .selects RX3 yX3_yes yX3_yes, .code yX3_yes cX3_yes 2 (some .int), .fieldLink RX3 53 "CharRowsModel" "code" "I"] ++ wsX30)
def wsX3_sortOf : List Cond := .code yX3_sortOf cX3_sortOf 2 (some .int) :: ([.fieldLink RX3 7 "CharRowsModel" "textRow" "[I", .fieldLink RX3 16 "CharRowsModel" "rowSort" "[I"] ++ wsX30)
def wsX3_manyOf : List Cond := .code yX3_manyOf cX3_manyOf 2 (some .int) :: ([.fieldLink RX3 19 "CharRowsModel" "rowMany" "[I", .fieldLink RX3 7 "CharRowsModel" "textRow" "[I"] ++ wsX30)
def wsX3_item : List Cond := .code yX3_item cX3_item 3 (some .int) :: ([.fieldLink RX3 22 "CharRowsModel" "rowItem" "[I", .fieldLink RX3 7 "CharRowsModel" "textRow" "[I"] ++ wsX30)
def wsX3_addUnits : List Cond := .code yX3_addUnits cX3_addUnits 2 none :: ([.constant RX3 70 (65536), .fieldLink RX3 35 "CharRowsModel" "units" "[I", .fieldLink RX3 71 "CharRowsModel" "unitMany" "I", .constant RX3 49 (55296), .constant RX3 51 (56320)] ++ wsX30)
def wsX3_unitsToPoints : List Cond := .code yX3_unitsToPoints cX3_unitsToPoints 3 none :: ([.fieldLink RX3 74 "CharRowsModel" "pointMany" "I", .fieldLink RX3 71 "CharRowsModel" "unitMany" "I", .fieldLink RX3 35 "CharRowsModel" "units" "[I", .fieldLink RX3 32 "CharRowsModel" "points" "[I", .constant RX3 70 (65536), .constant RX3 49 (55296), .constant RX3 51 (56320), .methodLink RX3 77 yX3_isHigh, .static yX3_isHigh, .initialized RX3, .code yX3_isHigh cX3_isHigh 1 (some .boolean), .constant RX3 50 (56319), .methodLink RX3 44 yX3_within, .static yX3_within, .code yX3_within cX3_within 3 (some .boolean), .methodLink RX3 81 yX3_isLow, .static yX3_isLow, .code yX3_isLow cX3_isLow 1 (some .boolean), .constant RX3 52 (57343)] ++ wsX30)
def wsX3_pointsToUnits : List Cond := .code yX3_pointsToUnits cX3_pointsToUnits 2 none :: ([.fieldLink RX3 71 "CharRowsModel" "unitMany" "I", .fieldLink RX3 74 "CharRowsModel" "pointMany" "I", .fieldLink RX3 32 "CharRowsModel" "points" "[I", .methodLink RX3 84 yX3_addUnits, .instanceMethod yX3_addUnits, .selects RX3 yX3_addUnits yX3_addUnits, .initialized RX3, .code yX3_addUnits cX3_addUnits 2 none, .constant RX3 70 (65536), .fieldLink RX3 35 "CharRowsModel" "units" "[I", .constant RX3 49 (55296), .constant RX3 51 (56320)] ++ wsX30)
def wsX3_take_r1 : List Cond := [Cond.fieldLink RX3 71 "CharRowsModel" "unitMany" "I", Cond.fieldLink RX3 35 "CharRowsModel" "units" "[I", Cond.fieldLink RX3 74 "CharRowsModel" "pointMany" "I", Cond.fieldLink RX3 32 "CharRowsModel" "points" "[I", Cond.methodLink RX3 88 yX3_sortOf, Cond.instanceMethod yX3_sortOf, Cond.selects RX3 yX3_sortOf yX3_sortOf, Cond.initialized RX3, Cond.code yX3_sortOf cX3_sortOf 2 (some .int), Cond.fieldLink RX3 7 "CharRowsModel" "textRow" "[I", Cond.fieldLink RX3 16 "CharRowsModel" "rowSort" "[I", Cond.methodLink RX3 91 yX3_manyOf, Cond.instanceMethod yX3_manyOf, Cond.selects RX3 yX3_manyOf yX3_manyOf, Cond.code yX3_manyOf cX3_manyOf 2 (some .int), Cond.fieldLink RX3 19 "CharRowsModel" "rowMany" "[I", Cond.methodLink RX3 94 yX3_item, Cond.instanceMethod yX3_item, Cond.selects RX3 yX3_item yX3_item, Cond.code yX3_item cX3_item 3 (some .int), Cond.fieldLink RX3 22 "CharRowsModel" "rowItem" "[I", Cond.methodLink RX3 98 yX3_unitsToPoints, Cond.instanceMethod yX3_unitsToPoints, Cond.selects RX3 yX3_unitsToPoints yX3_unitsToPoints]
def wsX3_take_r2 : List Cond := [Cond.code yX3_unitsToPoints cX3_unitsToPoints 3 none, Cond.constant RX3 70 (65536), Cond.constant RX3 49 (55296), Cond.constant RX3 51 (56320), Cond.methodLink RX3 77 yX3_isHigh, Cond.static yX3_isHigh, Cond.code yX3_isHigh cX3_isHigh 1 (some .boolean), Cond.constant RX3 50 (56319), Cond.methodLink RX3 44 yX3_within, Cond.static yX3_within, Cond.code yX3_within cX3_within 3 (some .boolean), Cond.methodLink RX3 81 yX3_isLow, Cond.static yX3_isLow, Cond.code yX3_isLow cX3_isLow 1 (some .boolean), Cond.constant RX3 52 (57343), Cond.methodLink RX3 101 yX3_pointsToUnits, Cond.instanceMethod yX3_pointsToUnits, Cond.selects RX3 yX3_pointsToUnits yX3_pointsToUnits, Cond.code yX3_pointsToUnits cX3_pointsToUnits 2 none, Cond.methodLink RX3 84 yX3_addUnits, Cond.instanceMethod yX3_addUnits, Cond.selects RX3 yX3_addUnits yX3_addUnits, Cond.code yX3_addUnits cX3_addUnits 2 none]
def wsX3_take : List Cond := .code yX3_take cX3_take 3 none :: ((wsX3_take_r1 ++ wsX3_take_r2) ++ wsX30)
def wsX3_point_r1 : List Cond := [Cond.constant RX3 107 (-2000000001), Cond.fieldLink RX3 108 "CharRowsModel" "drafted" "I", Cond.constant RX3 70 (65536), Cond.fieldLink RX3 71 "CharRowsModel" "unitMany" "I", Cond.fieldLink RX3 25 "CharRowsModel" "draft" "[I", Cond.fieldLink RX3 35 "CharRowsModel" "units" "[I", Cond.methodLink RX3 104 yX3_isPoint, Cond.static yX3_isPoint, Cond.initialized RX3, Cond.code yX3_isPoint cX3_isPoint 1 (some .boolean), Cond.constant RX3 48 (1114111), Cond.methodLink RX3 44 yX3_within, Cond.static yX3_within, Cond.code yX3_within cX3_within 3 (some .boolean), Cond.methodLink RX3 56 yX3_no, Cond.instanceMethod yX3_no, Cond.selects RX3 yX3_no yX3_no, Cond.code yX3_no cX3_no 2 (some .int), Cond.fieldLink RX3 53 "CharRowsModel" "code" "I", Cond.methodLink RX3 84 yX3_addUnits, Cond.instanceMethod yX3_addUnits, Cond.selects RX3 yX3_addUnits yX3_addUnits, Cond.code yX3_addUnits cX3_addUnits 2 none, Cond.constant RX3 49 (55296)]
def wsX3_point_r2 : List Cond := [Cond.constant RX3 51 (56320), Cond.methodLink RX3 67 yX3_yes, Cond.instanceMethod yX3_yes, Cond.selects RX3 yX3_yes yX3_yes, Cond.code yX3_yes cX3_yes 2 (some .int)]
def wsX3_point : List Cond := .code yX3_point cX3_point 3 (some .int) :: ((wsX3_point_r1 ++ wsX3_point_r2) ++ wsX30)
def wsX3_unit : List Cond := .code yX3_unit cX3_unit 2 (some .int) :: ([.constant RX3 111 (65535), .constant RX3 107 (-2000000001), .fieldLink RX3 108 "CharRowsModel" "drafted" "I", .fieldLink RX3 25 "CharRowsModel" "draft" "[I", .methodLink RX3 44 yX3_within, .static yX3_within, .initialized RX3, .code yX3_within cX3_within 3 (some .boolean), .methodLink RX3 56 yX3_no, .instanceMethod yX3_no, .selects RX3 yX3_no yX3_no, .code yX3_no cX3_no 2 (some .int), .fieldLink RX3 53 "CharRowsModel" "code" "I", .methodLink RX3 67 yX3_yes, .instanceMethod yX3_yes, .selects RX3 yX3_yes yX3_yes, .code yX3_yes cX3_yes 2 (some .int)] ++ wsX30)
def wsX3_fresh : List Cond := .code yX3_fresh cX3_fresh 2 (some .int) :: ([.fieldLink RX3 108 "CharRowsModel" "drafted" "I"] ++ wsX30)
def wsX3_lay_r1 : List Cond := [Cond.constant RX3 107 (-2000000001), Cond.fieldLink RX3 108 "CharRowsModel" "drafted" "I", Cond.fieldLink RX3 71 "CharRowsModel" "unitMany" "I", Cond.fieldLink RX3 35 "CharRowsModel" "units" "[I", Cond.fieldLink RX3 25 "CharRowsModel" "draft" "[I", Cond.fieldLink RX3 32 "CharRowsModel" "points" "[I", Cond.fieldLink RX3 74 "CharRowsModel" "pointMany" "I", Cond.methodLink RX3 112 yX3_isText, Cond.static yX3_isText, Cond.initialized RX3, Cond.code yX3_isText cX3_isText 1 (some .boolean), Cond.methodLink RX3 44 yX3_within, Cond.static yX3_within, Cond.code yX3_within cX3_within 3 (some .boolean), Cond.methodLink RX3 115 yX3_become, Cond.instanceMethod yX3_become, Cond.selects RX3 yX3_become yX3_become, Cond.code yX3_become cX3_become 7 (some .int), Cond.fieldLink RX3 16 "CharRowsModel" "rowSort" "[I", Cond.fieldLink RX3 19 "CharRowsModel" "rowMany" "[I", Cond.fieldLink RX3 22 "CharRowsModel" "rowItem" "[I", Cond.fieldLink RX3 7 "CharRowsModel" "textRow" "[I", Cond.methodLink RX3 63 yX3_freeRow, Cond.instanceMethod yX3_freeRow]
def wsX3_lay_r2 : List Cond := [Cond.selects RX3 yX3_freeRow yX3_freeRow, Cond.code yX3_freeRow cX3_freeRow 4 (some .int), Cond.fieldLink RX3 60 "CharRowsModel" "kept" "I", Cond.fieldLink RX3 13 "CharRowsModel" "keptRow" "[I", Cond.methodLink RX3 67 yX3_yes, Cond.instanceMethod yX3_yes, Cond.selects RX3 yX3_yes yX3_yes, Cond.code yX3_yes cX3_yes 2 (some .int), Cond.fieldLink RX3 53 "CharRowsModel" "code" "I", Cond.methodLink RX3 98 yX3_unitsToPoints, Cond.instanceMethod yX3_unitsToPoints, Cond.selects RX3 yX3_unitsToPoints yX3_unitsToPoints, Cond.code yX3_unitsToPoints cX3_unitsToPoints 3 none, Cond.constant RX3 70 (65536), Cond.constant RX3 49 (55296), Cond.constant RX3 51 (56320), Cond.methodLink RX3 77 yX3_isHigh, Cond.static yX3_isHigh, Cond.code yX3_isHigh cX3_isHigh 1 (some .boolean), Cond.constant RX3 50 (56319), Cond.methodLink RX3 81 yX3_isLow, Cond.static yX3_isLow, Cond.code yX3_isLow cX3_isLow 1 (some .boolean), Cond.constant RX3 52 (57343)]
def wsX3_lay : List Cond := .code yX3_lay cX3_lay 4 (some .int) :: ((wsX3_lay_r1 ++ wsX3_lay_r2) ++ wsX30)
def wsX3_share : List Cond := .code yX3_share cX3_share 3 (some .int) :: ([.constant RX3 107 (-2000000001), .fieldLink RX3 7 "CharRowsModel" "textRow" "[I", .methodLink RX3 112 yX3_isText, .static yX3_isText, .initialized RX3, .code yX3_isText cX3_isText 1 (some .boolean), .methodLink RX3 44 yX3_within, .static yX3_within, .code yX3_within cX3_within 3 (some .boolean), .methodLink RX3 88 yX3_sortOf, .instanceMethod yX3_sortOf, .selects RX3 yX3_sortOf yX3_sortOf, .code yX3_sortOf cX3_sortOf 2 (some .int), .fieldLink RX3 16 "CharRowsModel" "rowSort" "[I"] ++ wsX30)
def wsX3_nothing : List Cond := .code yX3_nothing cX3_nothing 3 (some .int) :: ([.constant RX3 107 (-2000000001), .fieldLink RX3 7 "CharRowsModel" "textRow" "[I", .methodLink RX3 112 yX3_isText, .static yX3_isText, .initialized RX3, .code yX3_isText cX3_isText 1 (some .boolean), .methodLink RX3 44 yX3_within, .static yX3_within, .code yX3_within cX3_within 3 (some .boolean), .methodLink RX3 88 yX3_sortOf, .instanceMethod yX3_sortOf, .selects RX3 yX3_sortOf yX3_sortOf, .code yX3_sortOf cX3_sortOf 2 (some .int), .fieldLink RX3 16 "CharRowsModel" "rowSort" "[I"] ++ wsX30)
def wsX3_sort : List Cond := .code yX3_sort cX3_sort 2 (some .int) :: ([.constant RX3 107 (-2000000001), .methodLink RX3 112 yX3_isText, .static yX3_isText, .initialized RX3, .code yX3_isText cX3_isText 1 (some .boolean), .methodLink RX3 44 yX3_within, .static yX3_within, .code yX3_within cX3_within 3 (some .boolean), .methodLink RX3 88 yX3_sortOf, .instanceMethod yX3_sortOf, .selects RX3 yX3_sortOf yX3_sortOf, .code yX3_sortOf cX3_sortOf 2 (some .int), .fieldLink RX3 7 "CharRowsModel" "textRow" "[I", .fieldLink RX3 16 "CharRowsModel" "rowSort" "[I"] ++ wsX30)
def wsX3_length_r1 : List Cond := [Cond.constant RX3 107 (-2000000001), Cond.methodLink RX3 112 yX3_isText, Cond.static yX3_isText, Cond.initialized RX3, Cond.code yX3_isText cX3_isText 1 (some .boolean), Cond.methodLink RX3 44 yX3_within, Cond.static yX3_within, Cond.code yX3_within cX3_within 3 (some .boolean), Cond.methodLink RX3 88 yX3_sortOf, Cond.instanceMethod yX3_sortOf, Cond.selects RX3 yX3_sortOf yX3_sortOf, Cond.code yX3_sortOf cX3_sortOf 2 (some .int), Cond.fieldLink RX3 7 "CharRowsModel" "textRow" "[I", Cond.fieldLink RX3 16 "CharRowsModel" "rowSort" "[I", Cond.methodLink RX3 56 yX3_no, Cond.instanceMethod yX3_no, Cond.selects RX3 yX3_no yX3_no, Cond.code yX3_no cX3_no 2 (some .int), Cond.fieldLink RX3 53 "CharRowsModel" "code" "I", Cond.methodLink RX3 91 yX3_manyOf, Cond.instanceMethod yX3_manyOf, Cond.selects RX3 yX3_manyOf yX3_manyOf, Cond.code yX3_manyOf cX3_manyOf 2 (some .int), Cond.fieldLink RX3 19 "CharRowsModel" "rowMany" "[I"]
def wsX3_length_r2 : List Cond := [Cond.methodLink RX3 67 yX3_yes, Cond.instanceMethod yX3_yes, Cond.selects RX3 yX3_yes yX3_yes, Cond.code yX3_yes cX3_yes 2 (some .int)]
def wsX3_length : List Cond := .code yX3_length cX3_length 2 (some .int) :: ((wsX3_length_r1 ++ wsX3_length_r2) ++ wsX30)
def wsX3_wantsPoints : List Cond := .code yX3_wantsPoints cX3_wantsPoints 2 (some .int) :: ([.methodLink RX3 88 yX3_sortOf, .instanceMethod yX3_sortOf, .selects RX3 yX3_sortOf yX3_sortOf, .initialized RX3, .code yX3_sortOf cX3_sortOf 2 (some .int), .fieldLink RX3 7 "CharRowsModel" "textRow" "[I", .fieldLink RX3 16 "CharRowsModel" "rowSort" "[I"] ++ wsX30)
def wsX3_points_r1 : List Cond := [Cond.constant RX3 107 (-2000000001), Cond.fieldLink RX3 74 "CharRowsModel" "pointMany" "I", Cond.methodLink RX3 112 yX3_isText, Cond.static yX3_isText, Cond.initialized RX3, Cond.code yX3_isText cX3_isText 1 (some .boolean), Cond.methodLink RX3 44 yX3_within, Cond.static yX3_within, Cond.code yX3_within cX3_within 3 (some .boolean), Cond.methodLink RX3 119 yX3_wantsPoints, Cond.instanceMethod yX3_wantsPoints, Cond.selects RX3 yX3_wantsPoints yX3_wantsPoints, Cond.code yX3_wantsPoints cX3_wantsPoints 2 (some .int), Cond.methodLink RX3 88 yX3_sortOf, Cond.instanceMethod yX3_sortOf, Cond.selects RX3 yX3_sortOf yX3_sortOf, Cond.code yX3_sortOf cX3_sortOf 2 (some .int), Cond.fieldLink RX3 7 "CharRowsModel" "textRow" "[I", Cond.fieldLink RX3 16 "CharRowsModel" "rowSort" "[I", Cond.methodLink RX3 56 yX3_no, Cond.instanceMethod yX3_no, Cond.selects RX3 yX3_no yX3_no, Cond.code yX3_no cX3_no 2 (some .int), Cond.fieldLink RX3 53 "CharRowsModel" "code" "I"]
def wsX3_points_r2 : List Cond := [Cond.methodLink RX3 122 yX3_take, Cond.instanceMethod yX3_take, Cond.selects RX3 yX3_take yX3_take, Cond.code yX3_take cX3_take 3 none, Cond.fieldLink RX3 71 "CharRowsModel" "unitMany" "I", Cond.fieldLink RX3 35 "CharRowsModel" "units" "[I", Cond.fieldLink RX3 32 "CharRowsModel" "points" "[I", Cond.methodLink RX3 91 yX3_manyOf, Cond.instanceMethod yX3_manyOf, Cond.selects RX3 yX3_manyOf yX3_manyOf, Cond.code yX3_manyOf cX3_manyOf 2 (some .int), Cond.fieldLink RX3 19 "CharRowsModel" "rowMany" "[I", Cond.methodLink RX3 94 yX3_item, Cond.instanceMethod yX3_item, Cond.selects RX3 yX3_item yX3_item, Cond.code yX3_item cX3_item 3 (some .int), Cond.fieldLink RX3 22 "CharRowsModel" "rowItem" "[I", Cond.methodLink RX3 98 yX3_unitsToPoints, Cond.instanceMethod yX3_unitsToPoints, Cond.selects RX3 yX3_unitsToPoints yX3_unitsToPoints, Cond.code yX3_unitsToPoints cX3_unitsToPoints 3 none, Cond.constant RX3 70 (65536), Cond.constant RX3 49 (55296), Cond.constant RX3 51 (56320)]
def wsX3_points_r3 : List Cond := [Cond.methodLink RX3 77 yX3_isHigh, Cond.static yX3_isHigh, Cond.code yX3_isHigh cX3_isHigh 1 (some .boolean), Cond.constant RX3 50 (56319), Cond.methodLink RX3 81 yX3_isLow, Cond.static yX3_isLow, Cond.code yX3_isLow cX3_isLow 1 (some .boolean), Cond.constant RX3 52 (57343), Cond.methodLink RX3 101 yX3_pointsToUnits, Cond.instanceMethod yX3_pointsToUnits, Cond.selects RX3 yX3_pointsToUnits yX3_pointsToUnits, Cond.code yX3_pointsToUnits cX3_pointsToUnits 2 none, Cond.methodLink RX3 84 yX3_addUnits, Cond.instanceMethod yX3_addUnits, Cond.selects RX3 yX3_addUnits yX3_addUnits, Cond.code yX3_addUnits cX3_addUnits 2 none, Cond.methodLink RX3 67 yX3_yes, Cond.instanceMethod yX3_yes, Cond.selects RX3 yX3_yes yX3_yes, Cond.code yX3_yes cX3_yes 2 (some .int)]
def wsX3_points : List Cond := .code yX3_points cX3_points 3 (some .int) :: ((wsX3_points_r1 ++ (wsX3_points_r2 ++ wsX3_points_r3)) ++ wsX30)
def wsX3_at_r1 : List Cond := [Cond.constant RX3 107 (-2000000001), Cond.methodLink RX3 112 yX3_isText, Cond.static yX3_isText, Cond.initialized RX3, Cond.code yX3_isText cX3_isText 1 (some .boolean), Cond.methodLink RX3 44 yX3_within, Cond.static yX3_within, Cond.code yX3_within cX3_within 3 (some .boolean), Cond.methodLink RX3 88 yX3_sortOf, Cond.instanceMethod yX3_sortOf, Cond.selects RX3 yX3_sortOf yX3_sortOf, Cond.code yX3_sortOf cX3_sortOf 2 (some .int), Cond.fieldLink RX3 7 "CharRowsModel" "textRow" "[I", Cond.fieldLink RX3 16 "CharRowsModel" "rowSort" "[I", Cond.methodLink RX3 56 yX3_no, Cond.instanceMethod yX3_no, Cond.selects RX3 yX3_no yX3_no, Cond.code yX3_no cX3_no 2 (some .int), Cond.fieldLink RX3 53 "CharRowsModel" "code" "I", Cond.methodLink RX3 91 yX3_manyOf, Cond.instanceMethod yX3_manyOf, Cond.selects RX3 yX3_manyOf yX3_manyOf, Cond.code yX3_manyOf cX3_manyOf 2 (some .int), Cond.fieldLink RX3 19 "CharRowsModel" "rowMany" "[I"]
def wsX3_at_r2 : List Cond := [Cond.methodLink RX3 94 yX3_item, Cond.instanceMethod yX3_item, Cond.selects RX3 yX3_item yX3_item, Cond.code yX3_item cX3_item 3 (some .int), Cond.fieldLink RX3 22 "CharRowsModel" "rowItem" "[I", Cond.methodLink RX3 67 yX3_yes, Cond.instanceMethod yX3_yes, Cond.selects RX3 yX3_yes yX3_yes, Cond.code yX3_yes cX3_yes 2 (some .int)]
def wsX3_at : List Cond := .code yX3_at cX3_at 3 (some .int) :: ((wsX3_at_r1 ++ wsX3_at_r2) ++ wsX30)
def wsX3_pointAt_r1 : List Cond := [Cond.constant RX3 107 (-2000000001), Cond.fieldLink RX3 74 "CharRowsModel" "pointMany" "I", Cond.fieldLink RX3 32 "CharRowsModel" "points" "[I", Cond.methodLink RX3 112 yX3_isText, Cond.static yX3_isText, Cond.initialized RX3, Cond.code yX3_isText cX3_isText 1 (some .boolean), Cond.methodLink RX3 44 yX3_within, Cond.static yX3_within, Cond.code yX3_within cX3_within 3 (some .boolean), Cond.methodLink RX3 119 yX3_wantsPoints, Cond.instanceMethod yX3_wantsPoints, Cond.selects RX3 yX3_wantsPoints yX3_wantsPoints, Cond.code yX3_wantsPoints cX3_wantsPoints 2 (some .int), Cond.methodLink RX3 88 yX3_sortOf, Cond.instanceMethod yX3_sortOf, Cond.selects RX3 yX3_sortOf yX3_sortOf, Cond.code yX3_sortOf cX3_sortOf 2 (some .int), Cond.fieldLink RX3 7 "CharRowsModel" "textRow" "[I", Cond.fieldLink RX3 16 "CharRowsModel" "rowSort" "[I", Cond.methodLink RX3 56 yX3_no, Cond.instanceMethod yX3_no, Cond.selects RX3 yX3_no yX3_no, Cond.code yX3_no cX3_no 2 (some .int)]
def wsX3_pointAt_r2 : List Cond := [Cond.fieldLink RX3 53 "CharRowsModel" "code" "I", Cond.methodLink RX3 122 yX3_take, Cond.instanceMethod yX3_take, Cond.selects RX3 yX3_take yX3_take, Cond.code yX3_take cX3_take 3 none, Cond.fieldLink RX3 71 "CharRowsModel" "unitMany" "I", Cond.fieldLink RX3 35 "CharRowsModel" "units" "[I", Cond.methodLink RX3 91 yX3_manyOf, Cond.instanceMethod yX3_manyOf, Cond.selects RX3 yX3_manyOf yX3_manyOf, Cond.code yX3_manyOf cX3_manyOf 2 (some .int), Cond.fieldLink RX3 19 "CharRowsModel" "rowMany" "[I", Cond.methodLink RX3 94 yX3_item, Cond.instanceMethod yX3_item, Cond.selects RX3 yX3_item yX3_item, Cond.code yX3_item cX3_item 3 (some .int), Cond.fieldLink RX3 22 "CharRowsModel" "rowItem" "[I", Cond.methodLink RX3 98 yX3_unitsToPoints, Cond.instanceMethod yX3_unitsToPoints, Cond.selects RX3 yX3_unitsToPoints yX3_unitsToPoints, Cond.code yX3_unitsToPoints cX3_unitsToPoints 3 none, Cond.constant RX3 70 (65536), Cond.constant RX3 49 (55296), Cond.constant RX3 51 (56320)]
def wsX3_pointAt_r3 : List Cond := [Cond.methodLink RX3 77 yX3_isHigh, Cond.static yX3_isHigh, Cond.code yX3_isHigh cX3_isHigh 1 (some .boolean), Cond.constant RX3 50 (56319), Cond.methodLink RX3 81 yX3_isLow, Cond.static yX3_isLow, Cond.code yX3_isLow cX3_isLow 1 (some .boolean), Cond.constant RX3 52 (57343), Cond.methodLink RX3 101 yX3_pointsToUnits, Cond.instanceMethod yX3_pointsToUnits, Cond.selects RX3 yX3_pointsToUnits yX3_pointsToUnits, Cond.code yX3_pointsToUnits cX3_pointsToUnits 2 none, Cond.methodLink RX3 84 yX3_addUnits, Cond.instanceMethod yX3_addUnits, Cond.selects RX3 yX3_addUnits yX3_addUnits, Cond.code yX3_addUnits cX3_addUnits 2 none, Cond.methodLink RX3 67 yX3_yes, Cond.instanceMethod yX3_yes, Cond.selects RX3 yX3_yes yX3_yes, Cond.code yX3_yes cX3_yes 2 (some .int)]
def wsX3_pointAt : List Cond := .code yX3_pointAt cX3_pointAt 4 (some .int) :: ((wsX3_pointAt_r1 ++ (wsX3_pointAt_r2 ++ wsX3_pointAt_r3)) ++ wsX30)
def wsX3_put_r1 : List Cond := [Cond.constant RX3 107 (-2000000001), Cond.fieldLink RX3 22 "CharRowsModel" "rowItem" "[I", Cond.fieldLink RX3 7 "CharRowsModel" "textRow" "[I", Cond.constant RX3 111 (65535), Cond.methodLink RX3 112 yX3_isText, Cond.static yX3_isText, Cond.initialized RX3, Cond.code yX3_isText cX3_isText 1 (some .boolean), Cond.methodLink RX3 44 yX3_within, Cond.static yX3_within, Cond.code yX3_within cX3_within 3 (some .boolean), Cond.methodLink RX3 88 yX3_sortOf, Cond.instanceMethod yX3_sortOf, Cond.selects RX3 yX3_sortOf yX3_sortOf, Cond.code yX3_sortOf cX3_sortOf 2 (some .int), Cond.fieldLink RX3 16 "CharRowsModel" "rowSort" "[I", Cond.methodLink RX3 91 yX3_manyOf, Cond.instanceMethod yX3_manyOf, Cond.selects RX3 yX3_manyOf yX3_manyOf, Cond.code yX3_manyOf cX3_manyOf 2 (some .int), Cond.fieldLink RX3 19 "CharRowsModel" "rowMany" "[I", Cond.methodLink RX3 56 yX3_no, Cond.instanceMethod yX3_no, Cond.selects RX3 yX3_no yX3_no]
def wsX3_put_r2 : List Cond := [Cond.code yX3_no cX3_no 2 (some .int), Cond.fieldLink RX3 53 "CharRowsModel" "code" "I", Cond.methodLink RX3 94 yX3_item, Cond.instanceMethod yX3_item, Cond.selects RX3 yX3_item yX3_item, Cond.code yX3_item cX3_item 3 (some .int), Cond.methodLink RX3 67 yX3_yes, Cond.instanceMethod yX3_yes, Cond.selects RX3 yX3_yes yX3_yes, Cond.code yX3_yes cX3_yes 2 (some .int)]
def wsX3_put : List Cond := .code yX3_put cX3_put 7 (some .int) :: ((wsX3_put_r1 ++ wsX3_put_r2) ++ wsX30)
def wsX3_turnInto_r1 : List Cond := [Cond.constant RX3 107 (-2000000001), Cond.fieldLink RX3 32 "CharRowsModel" "points" "[I", Cond.fieldLink RX3 74 "CharRowsModel" "pointMany" "I", Cond.fieldLink RX3 71 "CharRowsModel" "unitMany" "I", Cond.fieldLink RX3 35 "CharRowsModel" "units" "[I", Cond.methodLink RX3 112 yX3_isText, Cond.static yX3_isText, Cond.initialized RX3, Cond.code yX3_isText cX3_isText 1 (some .boolean), Cond.methodLink RX3 44 yX3_within, Cond.static yX3_within, Cond.code yX3_within cX3_within 3 (some .boolean), Cond.methodLink RX3 119 yX3_wantsPoints, Cond.instanceMethod yX3_wantsPoints, Cond.selects RX3 yX3_wantsPoints yX3_wantsPoints, Cond.code yX3_wantsPoints cX3_wantsPoints 2 (some .int), Cond.methodLink RX3 88 yX3_sortOf, Cond.instanceMethod yX3_sortOf, Cond.selects RX3 yX3_sortOf yX3_sortOf, Cond.code yX3_sortOf cX3_sortOf 2 (some .int), Cond.fieldLink RX3 7 "CharRowsModel" "textRow" "[I", Cond.fieldLink RX3 16 "CharRowsModel" "rowSort" "[I", Cond.methodLink RX3 56 yX3_no, Cond.instanceMethod yX3_no]
def wsX3_turnInto_r2 : List Cond := [Cond.selects RX3 yX3_no yX3_no, Cond.code yX3_no cX3_no 2 (some .int), Cond.fieldLink RX3 53 "CharRowsModel" "code" "I", Cond.methodLink RX3 122 yX3_take, Cond.instanceMethod yX3_take, Cond.selects RX3 yX3_take yX3_take, Cond.code yX3_take cX3_take 3 none, Cond.methodLink RX3 91 yX3_manyOf, Cond.instanceMethod yX3_manyOf, Cond.selects RX3 yX3_manyOf yX3_manyOf, Cond.code yX3_manyOf cX3_manyOf 2 (some .int), Cond.fieldLink RX3 19 "CharRowsModel" "rowMany" "[I", Cond.methodLink RX3 94 yX3_item, Cond.instanceMethod yX3_item, Cond.selects RX3 yX3_item yX3_item, Cond.code yX3_item cX3_item 3 (some .int), Cond.fieldLink RX3 22 "CharRowsModel" "rowItem" "[I", Cond.methodLink RX3 98 yX3_unitsToPoints, Cond.instanceMethod yX3_unitsToPoints, Cond.selects RX3 yX3_unitsToPoints yX3_unitsToPoints, Cond.code yX3_unitsToPoints cX3_unitsToPoints 3 none, Cond.constant RX3 70 (65536), Cond.constant RX3 49 (55296), Cond.constant RX3 51 (56320)]
def wsX3_turnInto_r3 : List Cond := [Cond.methodLink RX3 77 yX3_isHigh, Cond.static yX3_isHigh, Cond.code yX3_isHigh cX3_isHigh 1 (some .boolean), Cond.constant RX3 50 (56319), Cond.methodLink RX3 81 yX3_isLow, Cond.static yX3_isLow, Cond.code yX3_isLow cX3_isLow 1 (some .boolean), Cond.constant RX3 52 (57343), Cond.methodLink RX3 101 yX3_pointsToUnits, Cond.instanceMethod yX3_pointsToUnits, Cond.selects RX3 yX3_pointsToUnits yX3_pointsToUnits, Cond.code yX3_pointsToUnits cX3_pointsToUnits 2 none, Cond.methodLink RX3 84 yX3_addUnits, Cond.instanceMethod yX3_addUnits, Cond.selects RX3 yX3_addUnits yX3_addUnits, Cond.code yX3_addUnits cX3_addUnits 2 none, Cond.methodLink RX3 115 yX3_become, Cond.instanceMethod yX3_become, Cond.selects RX3 yX3_become yX3_become, Cond.code yX3_become cX3_become 7 (some .int), Cond.methodLink RX3 63 yX3_freeRow, Cond.instanceMethod yX3_freeRow, Cond.selects RX3 yX3_freeRow yX3_freeRow, Cond.code yX3_freeRow cX3_freeRow 4 (some .int)]
def wsX3_turnInto_r4 : List Cond := [Cond.fieldLink RX3 60 "CharRowsModel" "kept" "I", Cond.fieldLink RX3 13 "CharRowsModel" "keptRow" "[I", Cond.methodLink RX3 67 yX3_yes, Cond.instanceMethod yX3_yes, Cond.selects RX3 yX3_yes yX3_yes, Cond.code yX3_yes cX3_yes 2 (some .int)]
def wsX3_turnInto : List Cond := .code yX3_turnInto cX3_turnInto 5 (some .int) :: ((wsX3_turnInto_r1 ++ (wsX3_turnInto_r2 ++ (wsX3_turnInto_r3 ++ wsX3_turnInto_r4))) ++ wsX30)
def wsX3_addByte : List Cond := .code yX3_addByte cX3_addByte 2 none :: ([.fieldLink RX3 41 "CharRowsModel" "bytes" "[I", .fieldLink RX3 125 "CharRowsModel" "bytesMany" "I"] ++ wsX30)
def wsX3_addPoint : List Cond := .code yX3_addPoint cX3_addPoint 2 none :: ([.constant RX3 70 (65536), .constant RX3 131 (262144), .methodLink RX3 128 yX3_addByte, .instanceMethod yX3_addByte, .selects RX3 yX3_addByte yX3_addByte, .initialized RX3, .code yX3_addByte cX3_addByte 2 none, .fieldLink RX3 41 "CharRowsModel" "bytes" "[I", .fieldLink RX3 125 "CharRowsModel" "bytesMany" "I"] ++ wsX30)
def wsX3_tell_r1 : List Cond := [Cond.constant RX3 107 (-2000000001), Cond.fieldLink RX3 125 "CharRowsModel" "bytesMany" "I", Cond.fieldLink RX3 71 "CharRowsModel" "unitMany" "I", Cond.fieldLink RX3 35 "CharRowsModel" "units" "[I", Cond.fieldLink RX3 41 "CharRowsModel" "bytes" "[I", Cond.fieldLink RX3 74 "CharRowsModel" "pointMany" "I", Cond.fieldLink RX3 32 "CharRowsModel" "points" "[I", Cond.methodLink RX3 112 yX3_isText, Cond.static yX3_isText, Cond.initialized RX3, Cond.code yX3_isText cX3_isText 1 (some .boolean), Cond.methodLink RX3 44 yX3_within, Cond.static yX3_within, Cond.code yX3_within cX3_within 3 (some .boolean), Cond.methodLink RX3 119 yX3_wantsPoints, Cond.instanceMethod yX3_wantsPoints, Cond.selects RX3 yX3_wantsPoints yX3_wantsPoints, Cond.code yX3_wantsPoints cX3_wantsPoints 2 (some .int), Cond.methodLink RX3 88 yX3_sortOf, Cond.instanceMethod yX3_sortOf, Cond.selects RX3 yX3_sortOf yX3_sortOf, Cond.code yX3_sortOf cX3_sortOf 2 (some .int), Cond.fieldLink RX3 7 "CharRowsModel" "textRow" "[I", Cond.fieldLink RX3 16 "CharRowsModel" "rowSort" "[I"]
def wsX3_tell_r2 : List Cond := [Cond.methodLink RX3 56 yX3_no, Cond.instanceMethod yX3_no, Cond.selects RX3 yX3_no yX3_no, Cond.code yX3_no cX3_no 2 (some .int), Cond.fieldLink RX3 53 "CharRowsModel" "code" "I", Cond.methodLink RX3 122 yX3_take, Cond.instanceMethod yX3_take, Cond.selects RX3 yX3_take yX3_take, Cond.code yX3_take cX3_take 3 none, Cond.methodLink RX3 91 yX3_manyOf, Cond.instanceMethod yX3_manyOf, Cond.selects RX3 yX3_manyOf yX3_manyOf, Cond.code yX3_manyOf cX3_manyOf 2 (some .int), Cond.fieldLink RX3 19 "CharRowsModel" "rowMany" "[I", Cond.methodLink RX3 94 yX3_item, Cond.instanceMethod yX3_item, Cond.selects RX3 yX3_item yX3_item, Cond.code yX3_item cX3_item 3 (some .int), Cond.fieldLink RX3 22 "CharRowsModel" "rowItem" "[I", Cond.methodLink RX3 98 yX3_unitsToPoints, Cond.instanceMethod yX3_unitsToPoints, Cond.selects RX3 yX3_unitsToPoints yX3_unitsToPoints, Cond.code yX3_unitsToPoints cX3_unitsToPoints 3 none, Cond.constant RX3 70 (65536)]
def wsX3_tell_r3 : List Cond := [Cond.constant RX3 49 (55296), Cond.constant RX3 51 (56320), Cond.methodLink RX3 77 yX3_isHigh, Cond.static yX3_isHigh, Cond.code yX3_isHigh cX3_isHigh 1 (some .boolean), Cond.constant RX3 50 (56319), Cond.methodLink RX3 81 yX3_isLow, Cond.static yX3_isLow, Cond.code yX3_isLow cX3_isLow 1 (some .boolean), Cond.constant RX3 52 (57343), Cond.methodLink RX3 101 yX3_pointsToUnits, Cond.instanceMethod yX3_pointsToUnits, Cond.selects RX3 yX3_pointsToUnits yX3_pointsToUnits, Cond.code yX3_pointsToUnits cX3_pointsToUnits 2 none, Cond.methodLink RX3 84 yX3_addUnits, Cond.instanceMethod yX3_addUnits, Cond.selects RX3 yX3_addUnits yX3_addUnits, Cond.code yX3_addUnits cX3_addUnits 2 none, Cond.methodLink RX3 128 yX3_addByte, Cond.instanceMethod yX3_addByte, Cond.selects RX3 yX3_addByte yX3_addByte, Cond.code yX3_addByte cX3_addByte 2 none, Cond.methodLink RX3 115 yX3_become, Cond.instanceMethod yX3_become]
def wsX3_tell_r4 : List Cond := [Cond.selects RX3 yX3_become yX3_become, Cond.code yX3_become cX3_become 7 (some .int), Cond.methodLink RX3 63 yX3_freeRow, Cond.instanceMethod yX3_freeRow, Cond.selects RX3 yX3_freeRow yX3_freeRow, Cond.code yX3_freeRow cX3_freeRow 4 (some .int), Cond.fieldLink RX3 60 "CharRowsModel" "kept" "I", Cond.fieldLink RX3 13 "CharRowsModel" "keptRow" "[I", Cond.methodLink RX3 67 yX3_yes, Cond.instanceMethod yX3_yes, Cond.selects RX3 yX3_yes yX3_yes, Cond.code yX3_yes cX3_yes 2 (some .int), Cond.methodLink RX3 132 yX3_breaks, Cond.instanceMethod yX3_breaks, Cond.selects RX3 yX3_breaks yX3_breaks, Cond.code yX3_breaks cX3_breaks 2 (some .int), Cond.fieldLink RX3 28 "CharRowsModel" "broken" "I", Cond.methodLink RX3 135 yX3_addPoint, Cond.instanceMethod yX3_addPoint, Cond.selects RX3 yX3_addPoint yX3_addPoint, Cond.code yX3_addPoint cX3_addPoint 2 none, Cond.constant RX3 131 (262144)]
def wsX3_tell : List Cond := .code yX3_tell cX3_tell 7 (some .int) :: ((wsX3_tell_r1 ++ (wsX3_tell_r2 ++ (wsX3_tell_r3 ++ wsX3_tell_r4))) ++ wsX30)
def wsX3_longOf : List Cond := .code yX3_longOf cX3_longOf 1 (some .int) :: ([.methodLink RX3 44 yX3_within, .static yX3_within, .initialized RX3, .code yX3_within cX3_within 3 (some .boolean)])
def wsX3_pointFrom_r1 : List Cond := [Cond.constant RX3 70 (65536), Cond.constant RX3 48 (1114111), Cond.methodLink RX3 91 yX3_manyOf, Cond.instanceMethod yX3_manyOf, Cond.selects RX3 yX3_manyOf yX3_manyOf, Cond.initialized RX3, Cond.code yX3_manyOf cX3_manyOf 2 (some .int), Cond.fieldLink RX3 19 "CharRowsModel" "rowMany" "[I", Cond.fieldLink RX3 7 "CharRowsModel" "textRow" "[I", Cond.methodLink RX3 94 yX3_item, Cond.instanceMethod yX3_item, Cond.selects RX3 yX3_item yX3_item, Cond.code yX3_item cX3_item 3 (some .int), Cond.fieldLink RX3 22 "CharRowsModel" "rowItem" "[I", Cond.methodLink RX3 44 yX3_within, Cond.static yX3_within, Cond.code yX3_within cX3_within 3 (some .boolean), Cond.methodLink RX3 77 yX3_isHigh, Cond.static yX3_isHigh, Cond.code yX3_isHigh cX3_isHigh 1 (some .boolean), Cond.constant RX3 49 (55296), Cond.constant RX3 50 (56319), Cond.methodLink RX3 81 yX3_isLow, Cond.static yX3_isLow]
def wsX3_pointFrom_r2 : List Cond := [Cond.code yX3_isLow cX3_isLow 1 (some .boolean), Cond.constant RX3 51 (56320), Cond.constant RX3 52 (57343)]
def wsX3_pointFrom : List Cond := .code yX3_pointFrom cX3_pointFrom 8 (some .int) :: ((wsX3_pointFrom_r1 ++ wsX3_pointFrom_r2) ++ wsX30)
def wsX3_read_r1 : List Cond := [Cond.constant RX3 107 (-2000000001), Cond.fieldLink RX3 71 "CharRowsModel" "unitMany" "I", Cond.fieldLink RX3 35 "CharRowsModel" "units" "[I", Cond.methodLink RX3 112 yX3_isText, Cond.static yX3_isText, Cond.initialized RX3, Cond.code yX3_isText cX3_isText 1 (some .boolean), Cond.methodLink RX3 44 yX3_within, Cond.static yX3_within, Cond.code yX3_within cX3_within 3 (some .boolean), Cond.methodLink RX3 88 yX3_sortOf, Cond.instanceMethod yX3_sortOf, Cond.selects RX3 yX3_sortOf yX3_sortOf, Cond.code yX3_sortOf cX3_sortOf 2 (some .int), Cond.fieldLink RX3 7 "CharRowsModel" "textRow" "[I", Cond.fieldLink RX3 16 "CharRowsModel" "rowSort" "[I", Cond.methodLink RX3 56 yX3_no, Cond.instanceMethod yX3_no, Cond.selects RX3 yX3_no yX3_no, Cond.code yX3_no cX3_no 2 (some .int), Cond.fieldLink RX3 53 "CharRowsModel" "code" "I", Cond.methodLink RX3 91 yX3_manyOf, Cond.instanceMethod yX3_manyOf, Cond.selects RX3 yX3_manyOf yX3_manyOf]
def wsX3_read_r2 : List Cond := [Cond.code yX3_manyOf cX3_manyOf 2 (some .int), Cond.fieldLink RX3 19 "CharRowsModel" "rowMany" "[I", Cond.methodLink RX3 94 yX3_item, Cond.instanceMethod yX3_item, Cond.selects RX3 yX3_item yX3_item, Cond.code yX3_item cX3_item 3 (some .int), Cond.fieldLink RX3 22 "CharRowsModel" "rowItem" "[I", Cond.methodLink RX3 138 yX3_longOf, Cond.static yX3_longOf, Cond.code yX3_longOf cX3_longOf 1 (some .int), Cond.methodLink RX3 141 yX3_pointFrom, Cond.instanceMethod yX3_pointFrom, Cond.selects RX3 yX3_pointFrom yX3_pointFrom, Cond.code yX3_pointFrom cX3_pointFrom 8 (some .int), Cond.constant RX3 70 (65536), Cond.constant RX3 48 (1114111), Cond.methodLink RX3 77 yX3_isHigh, Cond.static yX3_isHigh, Cond.code yX3_isHigh cX3_isHigh 1 (some .boolean), Cond.constant RX3 49 (55296), Cond.constant RX3 50 (56319), Cond.methodLink RX3 81 yX3_isLow, Cond.static yX3_isLow, Cond.code yX3_isLow cX3_isLow 1 (some .boolean)]
def wsX3_read_r3 : List Cond := [Cond.constant RX3 51 (56320), Cond.constant RX3 52 (57343), Cond.methodLink RX3 132 yX3_breaks, Cond.instanceMethod yX3_breaks, Cond.selects RX3 yX3_breaks yX3_breaks, Cond.code yX3_breaks cX3_breaks 2 (some .int), Cond.fieldLink RX3 28 "CharRowsModel" "broken" "I", Cond.methodLink RX3 84 yX3_addUnits, Cond.instanceMethod yX3_addUnits, Cond.selects RX3 yX3_addUnits yX3_addUnits, Cond.code yX3_addUnits cX3_addUnits 2 none, Cond.methodLink RX3 115 yX3_become, Cond.instanceMethod yX3_become, Cond.selects RX3 yX3_become yX3_become, Cond.code yX3_become cX3_become 7 (some .int), Cond.methodLink RX3 63 yX3_freeRow, Cond.instanceMethod yX3_freeRow, Cond.selects RX3 yX3_freeRow yX3_freeRow, Cond.code yX3_freeRow cX3_freeRow 4 (some .int), Cond.fieldLink RX3 60 "CharRowsModel" "kept" "I", Cond.fieldLink RX3 13 "CharRowsModel" "keptRow" "[I", Cond.methodLink RX3 67 yX3_yes, Cond.instanceMethod yX3_yes, Cond.selects RX3 yX3_yes yX3_yes]
def wsX3_read_r4 : List Cond := [Cond.code yX3_yes cX3_yes 2 (some .int)]
def wsX3_read : List Cond := .code yX3_read cX3_read 9 (some .int) :: ((wsX3_read_r1 ++ (wsX3_read_r2 ++ (wsX3_read_r3 ++ wsX3_read_r4))) ++ wsX30)
def wsX3_parts_r1 : List Cond := [Cond.methodLink RX3 88 yX3_sortOf, Cond.instanceMethod yX3_sortOf, Cond.selects RX3 yX3_sortOf yX3_sortOf, Cond.initialized RX3, Cond.code yX3_sortOf cX3_sortOf 2 (some .int), Cond.fieldLink RX3 7 "CharRowsModel" "textRow" "[I", Cond.fieldLink RX3 16 "CharRowsModel" "rowSort" "[I", Cond.methodLink RX3 91 yX3_manyOf, Cond.instanceMethod yX3_manyOf, Cond.selects RX3 yX3_manyOf yX3_manyOf, Cond.code yX3_manyOf cX3_manyOf 2 (some .int), Cond.fieldLink RX3 19 "CharRowsModel" "rowMany" "[I", Cond.methodLink RX3 94 yX3_item, Cond.instanceMethod yX3_item, Cond.selects RX3 yX3_item yX3_item, Cond.code yX3_item cX3_item 3 (some .int), Cond.fieldLink RX3 22 "CharRowsModel" "rowItem" "[I", Cond.methodLink RX3 77 yX3_isHigh, Cond.static yX3_isHigh, Cond.code yX3_isHigh cX3_isHigh 1 (some .boolean), Cond.constant RX3 49 (55296), Cond.constant RX3 50 (56319), Cond.methodLink RX3 44 yX3_within, Cond.static yX3_within]
def wsX3_parts_r2 : List Cond := [Cond.code yX3_within cX3_within 3 (some .boolean), Cond.methodLink RX3 81 yX3_isLow, Cond.static yX3_isLow, Cond.code yX3_isLow cX3_isLow 1 (some .boolean), Cond.constant RX3 51 (56320), Cond.constant RX3 52 (57343)]
def wsX3_parts : List Cond := .code yX3_parts cX3_parts 3 (some .boolean) :: ((wsX3_parts_r1 ++ wsX3_parts_r2) ++ wsX30)
def wsX3_cut_r1 : List Cond := [Cond.constant RX3 107 (-2000000001), Cond.fieldLink RX3 38 "CharRowsModel" "others" "[I", Cond.methodLink RX3 112 yX3_isText, Cond.static yX3_isText, Cond.initialized RX3, Cond.code yX3_isText cX3_isText 1 (some .boolean), Cond.methodLink RX3 44 yX3_within, Cond.static yX3_within, Cond.code yX3_within cX3_within 3 (some .boolean), Cond.methodLink RX3 88 yX3_sortOf, Cond.instanceMethod yX3_sortOf, Cond.selects RX3 yX3_sortOf yX3_sortOf, Cond.code yX3_sortOf cX3_sortOf 2 (some .int), Cond.fieldLink RX3 7 "CharRowsModel" "textRow" "[I", Cond.fieldLink RX3 16 "CharRowsModel" "rowSort" "[I", Cond.methodLink RX3 56 yX3_no, Cond.instanceMethod yX3_no, Cond.selects RX3 yX3_no yX3_no, Cond.code yX3_no cX3_no 2 (some .int), Cond.fieldLink RX3 53 "CharRowsModel" "code" "I", Cond.methodLink RX3 91 yX3_manyOf, Cond.instanceMethod yX3_manyOf, Cond.selects RX3 yX3_manyOf yX3_manyOf, Cond.code yX3_manyOf cX3_manyOf 2 (some .int)]
def wsX3_cut_r2 : List Cond := [Cond.fieldLink RX3 19 "CharRowsModel" "rowMany" "[I", Cond.methodLink RX3 145 yX3_parts, Cond.instanceMethod yX3_parts, Cond.selects RX3 yX3_parts yX3_parts, Cond.code yX3_parts cX3_parts 3 (some .boolean), Cond.methodLink RX3 94 yX3_item, Cond.instanceMethod yX3_item, Cond.selects RX3 yX3_item yX3_item, Cond.code yX3_item cX3_item 3 (some .int), Cond.fieldLink RX3 22 "CharRowsModel" "rowItem" "[I", Cond.methodLink RX3 77 yX3_isHigh, Cond.static yX3_isHigh, Cond.code yX3_isHigh cX3_isHigh 1 (some .boolean), Cond.constant RX3 49 (55296), Cond.constant RX3 50 (56319), Cond.methodLink RX3 81 yX3_isLow, Cond.static yX3_isLow, Cond.code yX3_isLow cX3_isLow 1 (some .boolean), Cond.constant RX3 51 (56320), Cond.constant RX3 52 (57343), Cond.methodLink RX3 115 yX3_become, Cond.instanceMethod yX3_become, Cond.selects RX3 yX3_become yX3_become, Cond.code yX3_become cX3_become 7 (some .int)]
def wsX3_cut_r3 : List Cond := [Cond.methodLink RX3 63 yX3_freeRow, Cond.instanceMethod yX3_freeRow, Cond.selects RX3 yX3_freeRow yX3_freeRow, Cond.code yX3_freeRow cX3_freeRow 4 (some .int), Cond.fieldLink RX3 60 "CharRowsModel" "kept" "I", Cond.fieldLink RX3 13 "CharRowsModel" "keptRow" "[I", Cond.methodLink RX3 67 yX3_yes, Cond.instanceMethod yX3_yes, Cond.selects RX3 yX3_yes yX3_yes, Cond.code yX3_yes cX3_yes 2 (some .int)]
def wsX3_cut : List Cond := .code yX3_cut cX3_cut 6 (some .int) :: ((wsX3_cut_r1 ++ (wsX3_cut_r2 ++ wsX3_cut_r3)) ++ wsX30)
def wsX3_join_r1 : List Cond := [Cond.constant RX3 107 (-2000000001), Cond.fieldLink RX3 38 "CharRowsModel" "others" "[I", Cond.methodLink RX3 112 yX3_isText, Cond.static yX3_isText, Cond.initialized RX3, Cond.code yX3_isText cX3_isText 1 (some .boolean), Cond.methodLink RX3 44 yX3_within, Cond.static yX3_within, Cond.code yX3_within cX3_within 3 (some .boolean), Cond.methodLink RX3 88 yX3_sortOf, Cond.instanceMethod yX3_sortOf, Cond.selects RX3 yX3_sortOf yX3_sortOf, Cond.code yX3_sortOf cX3_sortOf 2 (some .int), Cond.fieldLink RX3 7 "CharRowsModel" "textRow" "[I", Cond.fieldLink RX3 16 "CharRowsModel" "rowSort" "[I", Cond.methodLink RX3 56 yX3_no, Cond.instanceMethod yX3_no, Cond.selects RX3 yX3_no yX3_no, Cond.code yX3_no cX3_no 2 (some .int), Cond.fieldLink RX3 53 "CharRowsModel" "code" "I", Cond.methodLink RX3 91 yX3_manyOf, Cond.instanceMethod yX3_manyOf, Cond.selects RX3 yX3_manyOf yX3_manyOf, Cond.code yX3_manyOf cX3_manyOf 2 (some .int)]
def wsX3_join_r2 : List Cond := [Cond.fieldLink RX3 19 "CharRowsModel" "rowMany" "[I", Cond.methodLink RX3 94 yX3_item, Cond.instanceMethod yX3_item, Cond.selects RX3 yX3_item yX3_item, Cond.code yX3_item cX3_item 3 (some .int), Cond.fieldLink RX3 22 "CharRowsModel" "rowItem" "[I", Cond.methodLink RX3 115 yX3_become, Cond.instanceMethod yX3_become, Cond.selects RX3 yX3_become yX3_become, Cond.code yX3_become cX3_become 7 (some .int), Cond.methodLink RX3 63 yX3_freeRow, Cond.instanceMethod yX3_freeRow, Cond.selects RX3 yX3_freeRow yX3_freeRow, Cond.code yX3_freeRow cX3_freeRow 4 (some .int), Cond.fieldLink RX3 60 "CharRowsModel" "kept" "I", Cond.fieldLink RX3 13 "CharRowsModel" "keptRow" "[I", Cond.methodLink RX3 67 yX3_yes, Cond.instanceMethod yX3_yes, Cond.selects RX3 yX3_yes yX3_yes, Cond.code yX3_yes cX3_yes 2 (some .int)]
def wsX3_join : List Cond := .code yX3_join cX3_join 7 (some .int) :: ((wsX3_join_r1 ++ wsX3_join_r2) ++ wsX30)
def wsX3_back_r1 : List Cond := [Cond.constant RX3 107 (-2000000001), Cond.fieldLink RX3 38 "CharRowsModel" "others" "[I", Cond.methodLink RX3 112 yX3_isText, Cond.static yX3_isText, Cond.initialized RX3, Cond.code yX3_isText cX3_isText 1 (some .boolean), Cond.methodLink RX3 44 yX3_within, Cond.static yX3_within, Cond.code yX3_within cX3_within 3 (some .boolean), Cond.methodLink RX3 88 yX3_sortOf, Cond.instanceMethod yX3_sortOf, Cond.selects RX3 yX3_sortOf yX3_sortOf, Cond.code yX3_sortOf cX3_sortOf 2 (some .int), Cond.fieldLink RX3 7 "CharRowsModel" "textRow" "[I", Cond.fieldLink RX3 16 "CharRowsModel" "rowSort" "[I", Cond.methodLink RX3 56 yX3_no, Cond.instanceMethod yX3_no, Cond.selects RX3 yX3_no yX3_no, Cond.code yX3_no cX3_no 2 (some .int), Cond.fieldLink RX3 53 "CharRowsModel" "code" "I", Cond.methodLink RX3 91 yX3_manyOf, Cond.instanceMethod yX3_manyOf, Cond.selects RX3 yX3_manyOf yX3_manyOf, Cond.code yX3_manyOf cX3_manyOf 2 (some .int)]
def wsX3_back_r2 : List Cond := [Cond.fieldLink RX3 19 "CharRowsModel" "rowMany" "[I", Cond.methodLink RX3 94 yX3_item, Cond.instanceMethod yX3_item, Cond.selects RX3 yX3_item yX3_item, Cond.code yX3_item cX3_item 3 (some .int), Cond.fieldLink RX3 22 "CharRowsModel" "rowItem" "[I", Cond.methodLink RX3 145 yX3_parts, Cond.instanceMethod yX3_parts, Cond.selects RX3 yX3_parts yX3_parts, Cond.code yX3_parts cX3_parts 3 (some .boolean), Cond.methodLink RX3 77 yX3_isHigh, Cond.static yX3_isHigh, Cond.code yX3_isHigh cX3_isHigh 1 (some .boolean), Cond.constant RX3 49 (55296), Cond.constant RX3 50 (56319), Cond.methodLink RX3 81 yX3_isLow, Cond.static yX3_isLow, Cond.code yX3_isLow cX3_isLow 1 (some .boolean), Cond.constant RX3 51 (56320), Cond.constant RX3 52 (57343), Cond.methodLink RX3 115 yX3_become, Cond.instanceMethod yX3_become, Cond.selects RX3 yX3_become yX3_become, Cond.code yX3_become cX3_become 7 (some .int)]
def wsX3_back_r3 : List Cond := [Cond.methodLink RX3 63 yX3_freeRow, Cond.instanceMethod yX3_freeRow, Cond.selects RX3 yX3_freeRow yX3_freeRow, Cond.code yX3_freeRow cX3_freeRow 4 (some .int), Cond.fieldLink RX3 60 "CharRowsModel" "kept" "I", Cond.fieldLink RX3 13 "CharRowsModel" "keptRow" "[I", Cond.methodLink RX3 67 yX3_yes, Cond.instanceMethod yX3_yes, Cond.selects RX3 yX3_yes yX3_yes, Cond.code yX3_yes cX3_yes 2 (some .int)]
def wsX3_back : List Cond := .code yX3_back cX3_back 7 (some .int) :: ((wsX3_back_r1 ++ (wsX3_back_r2 ++ wsX3_back_r3)) ++ wsX30)
def wsX3_copy_r1 : List Cond := [Cond.constant RX3 107 (-2000000001), Cond.fieldLink RX3 38 "CharRowsModel" "others" "[I", Cond.fieldLink RX3 22 "CharRowsModel" "rowItem" "[I", Cond.fieldLink RX3 7 "CharRowsModel" "textRow" "[I", Cond.methodLink RX3 112 yX3_isText, Cond.static yX3_isText, Cond.initialized RX3, Cond.code yX3_isText cX3_isText 1 (some .boolean), Cond.methodLink RX3 44 yX3_within, Cond.static yX3_within, Cond.code yX3_within cX3_within 3 (some .boolean), Cond.methodLink RX3 88 yX3_sortOf, Cond.instanceMethod yX3_sortOf, Cond.selects RX3 yX3_sortOf yX3_sortOf, Cond.code yX3_sortOf cX3_sortOf 2 (some .int), Cond.fieldLink RX3 16 "CharRowsModel" "rowSort" "[I", Cond.methodLink RX3 56 yX3_no, Cond.instanceMethod yX3_no, Cond.selects RX3 yX3_no yX3_no, Cond.code yX3_no cX3_no 2 (some .int), Cond.fieldLink RX3 53 "CharRowsModel" "code" "I", Cond.methodLink RX3 91 yX3_manyOf, Cond.instanceMethod yX3_manyOf, Cond.selects RX3 yX3_manyOf yX3_manyOf]
def wsX3_copy_r2 : List Cond := [Cond.code yX3_manyOf cX3_manyOf 2 (some .int), Cond.fieldLink RX3 19 "CharRowsModel" "rowMany" "[I", Cond.methodLink RX3 94 yX3_item, Cond.instanceMethod yX3_item, Cond.selects RX3 yX3_item yX3_item, Cond.code yX3_item cX3_item 3 (some .int), Cond.methodLink RX3 67 yX3_yes, Cond.instanceMethod yX3_yes, Cond.selects RX3 yX3_yes yX3_yes, Cond.code yX3_yes cX3_yes 2 (some .int)]
def wsX3_copy : List Cond := .code yX3_copy cX3_copy 7 (some .int) :: ((wsX3_copy_r1 ++ wsX3_copy_r2) ++ wsX30)
def wsX3_find_r1 : List Cond := [Cond.constant RX3 107 (-2000000001), Cond.fieldLink RX3 53 "CharRowsModel" "code" "I", Cond.methodLink RX3 112 yX3_isText, Cond.static yX3_isText, Cond.initialized RX3, Cond.code yX3_isText cX3_isText 1 (some .boolean), Cond.methodLink RX3 44 yX3_within, Cond.static yX3_within, Cond.code yX3_within cX3_within 3 (some .boolean), Cond.methodLink RX3 88 yX3_sortOf, Cond.instanceMethod yX3_sortOf, Cond.selects RX3 yX3_sortOf yX3_sortOf, Cond.code yX3_sortOf cX3_sortOf 2 (some .int), Cond.fieldLink RX3 7 "CharRowsModel" "textRow" "[I", Cond.fieldLink RX3 16 "CharRowsModel" "rowSort" "[I", Cond.methodLink RX3 91 yX3_manyOf, Cond.instanceMethod yX3_manyOf, Cond.selects RX3 yX3_manyOf yX3_manyOf, Cond.code yX3_manyOf cX3_manyOf 2 (some .int), Cond.fieldLink RX3 19 "CharRowsModel" "rowMany" "[I", Cond.methodLink RX3 145 yX3_parts, Cond.instanceMethod yX3_parts, Cond.selects RX3 yX3_parts yX3_parts, Cond.code yX3_parts cX3_parts 3 (some .boolean)]
def wsX3_find_r2 : List Cond := [Cond.methodLink RX3 94 yX3_item, Cond.instanceMethod yX3_item, Cond.selects RX3 yX3_item yX3_item, Cond.code yX3_item cX3_item 3 (some .int), Cond.fieldLink RX3 22 "CharRowsModel" "rowItem" "[I", Cond.methodLink RX3 77 yX3_isHigh, Cond.static yX3_isHigh, Cond.code yX3_isHigh cX3_isHigh 1 (some .boolean), Cond.constant RX3 49 (55296), Cond.constant RX3 50 (56319), Cond.methodLink RX3 81 yX3_isLow, Cond.static yX3_isLow, Cond.code yX3_isLow cX3_isLow 1 (some .boolean), Cond.constant RX3 51 (56320), Cond.constant RX3 52 (57343)]
def wsX3_find : List Cond := .code yX3_find cX3_find 9 (some .int) :: ((wsX3_find_r1 ++ wsX3_find_r2) ++ wsX30)
def wsX3_against : List Cond := .code yX3_against cX3_against 4 (some .int) :: ([.fieldLink RX3 149 "CharRowsModel" "otherMany" "I", .fieldLink RX3 38 "CharRowsModel" "others" "[I"] ++ wsX30)
def wsX3_compare_r1 : List Cond := [Cond.constant RX3 107 (-2000000001), Cond.fieldLink RX3 149 "CharRowsModel" "otherMany" "I", Cond.fieldLink RX3 38 "CharRowsModel" "others" "[I", Cond.fieldLink RX3 71 "CharRowsModel" "unitMany" "I", Cond.fieldLink RX3 35 "CharRowsModel" "units" "[I", Cond.fieldLink RX3 74 "CharRowsModel" "pointMany" "I", Cond.fieldLink RX3 32 "CharRowsModel" "points" "[I", Cond.methodLink RX3 112 yX3_isText, Cond.static yX3_isText, Cond.initialized RX3, Cond.code yX3_isText cX3_isText 1 (some .boolean), Cond.methodLink RX3 44 yX3_within, Cond.static yX3_within, Cond.code yX3_within cX3_within 3 (some .boolean), Cond.methodLink RX3 88 yX3_sortOf, Cond.instanceMethod yX3_sortOf, Cond.selects RX3 yX3_sortOf yX3_sortOf, Cond.code yX3_sortOf cX3_sortOf 2 (some .int), Cond.fieldLink RX3 7 "CharRowsModel" "textRow" "[I", Cond.fieldLink RX3 16 "CharRowsModel" "rowSort" "[I", Cond.methodLink RX3 56 yX3_no, Cond.instanceMethod yX3_no, Cond.selects RX3 yX3_no yX3_no, Cond.code yX3_no cX3_no 2 (some .int)]
def wsX3_compare_r2 : List Cond := [Cond.fieldLink RX3 53 "CharRowsModel" "code" "I", Cond.methodLink RX3 91 yX3_manyOf, Cond.instanceMethod yX3_manyOf, Cond.selects RX3 yX3_manyOf yX3_manyOf, Cond.code yX3_manyOf cX3_manyOf 2 (some .int), Cond.fieldLink RX3 19 "CharRowsModel" "rowMany" "[I", Cond.methodLink RX3 94 yX3_item, Cond.instanceMethod yX3_item, Cond.selects RX3 yX3_item yX3_item, Cond.code yX3_item cX3_item 3 (some .int), Cond.fieldLink RX3 22 "CharRowsModel" "rowItem" "[I", Cond.methodLink RX3 152 yX3_against, Cond.instanceMethod yX3_against, Cond.selects RX3 yX3_against yX3_against, Cond.code yX3_against cX3_against 4 (some .int), Cond.methodLink RX3 67 yX3_yes, Cond.instanceMethod yX3_yes, Cond.selects RX3 yX3_yes yX3_yes, Cond.code yX3_yes cX3_yes 2 (some .int), Cond.methodLink RX3 122 yX3_take, Cond.instanceMethod yX3_take, Cond.selects RX3 yX3_take yX3_take, Cond.code yX3_take cX3_take 3 none, Cond.methodLink RX3 98 yX3_unitsToPoints]
def wsX3_compare_r3 : List Cond := [Cond.instanceMethod yX3_unitsToPoints, Cond.selects RX3 yX3_unitsToPoints yX3_unitsToPoints, Cond.code yX3_unitsToPoints cX3_unitsToPoints 3 none, Cond.constant RX3 70 (65536), Cond.constant RX3 49 (55296), Cond.constant RX3 51 (56320), Cond.methodLink RX3 77 yX3_isHigh, Cond.static yX3_isHigh, Cond.code yX3_isHigh cX3_isHigh 1 (some .boolean), Cond.constant RX3 50 (56319), Cond.methodLink RX3 81 yX3_isLow, Cond.static yX3_isLow, Cond.code yX3_isLow cX3_isLow 1 (some .boolean), Cond.constant RX3 52 (57343), Cond.methodLink RX3 101 yX3_pointsToUnits, Cond.instanceMethod yX3_pointsToUnits, Cond.selects RX3 yX3_pointsToUnits yX3_pointsToUnits, Cond.code yX3_pointsToUnits cX3_pointsToUnits 2 none, Cond.methodLink RX3 84 yX3_addUnits, Cond.instanceMethod yX3_addUnits, Cond.selects RX3 yX3_addUnits yX3_addUnits, Cond.code yX3_addUnits cX3_addUnits 2 none]
def wsX3_compare : List Cond := .code yX3_compare cX3_compare 5 (some .int) :: ((wsX3_compare_r1 ++ (wsX3_compare_r2 ++ wsX3_compare_r3)) ++ wsX30)
def wsX3_inCase : List Cond := .code yX3_inCase cX3_inCase 2 (some .int) :: ([.methodLink RX3 44 yX3_within, .static yX3_within, .initialized RX3, .code yX3_within cX3_within 3 (some .boolean)])
def wsX3_change_r1 : List Cond := [Cond.constant RX3 107 (-2000000001), Cond.fieldLink RX3 38 "CharRowsModel" "others" "[I", Cond.methodLink RX3 112 yX3_isText, Cond.static yX3_isText, Cond.initialized RX3, Cond.code yX3_isText cX3_isText 1 (some .boolean), Cond.methodLink RX3 44 yX3_within, Cond.static yX3_within, Cond.code yX3_within cX3_within 3 (some .boolean), Cond.methodLink RX3 119 yX3_wantsPoints, Cond.instanceMethod yX3_wantsPoints, Cond.selects RX3 yX3_wantsPoints yX3_wantsPoints, Cond.code yX3_wantsPoints cX3_wantsPoints 2 (some .int), Cond.methodLink RX3 88 yX3_sortOf, Cond.instanceMethod yX3_sortOf, Cond.selects RX3 yX3_sortOf yX3_sortOf, Cond.code yX3_sortOf cX3_sortOf 2 (some .int), Cond.fieldLink RX3 7 "CharRowsModel" "textRow" "[I", Cond.fieldLink RX3 16 "CharRowsModel" "rowSort" "[I", Cond.methodLink RX3 56 yX3_no, Cond.instanceMethod yX3_no, Cond.selects RX3 yX3_no yX3_no, Cond.code yX3_no cX3_no 2 (some .int), Cond.fieldLink RX3 53 "CharRowsModel" "code" "I"]
def wsX3_change_r2 : List Cond := [Cond.methodLink RX3 91 yX3_manyOf, Cond.instanceMethod yX3_manyOf, Cond.selects RX3 yX3_manyOf yX3_manyOf, Cond.code yX3_manyOf cX3_manyOf 2 (some .int), Cond.fieldLink RX3 19 "CharRowsModel" "rowMany" "[I", Cond.methodLink RX3 94 yX3_item, Cond.instanceMethod yX3_item, Cond.selects RX3 yX3_item yX3_item, Cond.code yX3_item cX3_item 3 (some .int), Cond.fieldLink RX3 22 "CharRowsModel" "rowItem" "[I", Cond.methodLink RX3 156 yX3_inCase, Cond.static yX3_inCase, Cond.code yX3_inCase cX3_inCase 2 (some .int), Cond.methodLink RX3 115 yX3_become, Cond.instanceMethod yX3_become, Cond.selects RX3 yX3_become yX3_become, Cond.code yX3_become cX3_become 7 (some .int), Cond.methodLink RX3 63 yX3_freeRow, Cond.instanceMethod yX3_freeRow, Cond.selects RX3 yX3_freeRow yX3_freeRow, Cond.code yX3_freeRow cX3_freeRow 4 (some .int), Cond.fieldLink RX3 60 "CharRowsModel" "kept" "I", Cond.fieldLink RX3 13 "CharRowsModel" "keptRow" "[I", Cond.methodLink RX3 67 yX3_yes]
def wsX3_change_r3 : List Cond := [Cond.instanceMethod yX3_yes, Cond.selects RX3 yX3_yes yX3_yes, Cond.code yX3_yes cX3_yes 2 (some .int)]
def wsX3_change : List Cond := .code yX3_change cX3_change 7 (some .int) :: ((wsX3_change_r1 ++ (wsX3_change_r2 ++ wsX3_change_r3)) ++ wsX30)
def wsX3_keep_r1 : List Cond := [Cond.constant RX3 107 (-2000000001), Cond.fieldLink RX3 60 "CharRowsModel" "kept" "I", Cond.fieldLink RX3 19 "CharRowsModel" "rowMany" "[I", Cond.fieldLink RX3 13 "CharRowsModel" "keptRow" "[I", Cond.fieldLink RX3 22 "CharRowsModel" "rowItem" "[I", Cond.fieldLink RX3 7 "CharRowsModel" "textRow" "[I", Cond.methodLink RX3 112 yX3_isText, Cond.static yX3_isText, Cond.initialized RX3, Cond.code yX3_isText cX3_isText 1 (some .boolean), Cond.methodLink RX3 44 yX3_within, Cond.static yX3_within, Cond.code yX3_within cX3_within 3 (some .boolean), Cond.methodLink RX3 88 yX3_sortOf, Cond.instanceMethod yX3_sortOf, Cond.selects RX3 yX3_sortOf yX3_sortOf, Cond.code yX3_sortOf cX3_sortOf 2 (some .int), Cond.fieldLink RX3 16 "CharRowsModel" "rowSort" "[I", Cond.methodLink RX3 56 yX3_no, Cond.instanceMethod yX3_no, Cond.selects RX3 yX3_no yX3_no, Cond.code yX3_no cX3_no 2 (some .int), Cond.fieldLink RX3 53 "CharRowsModel" "code" "I", Cond.methodLink RX3 91 yX3_manyOf]
def wsX3_keep_r2 : List Cond := [Cond.instanceMethod yX3_manyOf, Cond.selects RX3 yX3_manyOf yX3_manyOf, Cond.code yX3_manyOf cX3_manyOf 2 (some .int), Cond.methodLink RX3 94 yX3_item, Cond.instanceMethod yX3_item, Cond.selects RX3 yX3_item yX3_item, Cond.code yX3_item cX3_item 3 (some .int), Cond.methodLink RX3 67 yX3_yes, Cond.instanceMethod yX3_yes, Cond.selects RX3 yX3_yes yX3_yes, Cond.code yX3_yes cX3_yes 2 (some .int)]
def wsX3_keep : List Cond := .code yX3_keep cX3_keep 6 (some .int) :: ((wsX3_keep_r1 ++ wsX3_keep_r2) ++ wsX30)
def wsX3_kept : List Cond := .code yX3_kept cX3_kept 1 (some .int) :: ([.fieldLink RX3 60 "CharRowsModel" "kept" "I"] ++ wsX30)
def wsX3_same : List Cond := .code yX3_same cX3_same 3 (some .int) :: ([.constant RX3 107 (-2000000001), .fieldLink RX3 7 "CharRowsModel" "textRow" "[I", .methodLink RX3 112 yX3_isText, .static yX3_isText, .initialized RX3, .code yX3_isText cX3_isText 1 (some .boolean), .methodLink RX3 44 yX3_within, .static yX3_within, .code yX3_within cX3_within 3 (some .boolean)] ++ wsX30)
def wsX3_kind : List Cond := .code yX3_kind cX3_kind 2 (some .int) :: ([.constant RX3 107 (-2000000001), .constant RX3 111 (65535), .methodLink RX3 104 yX3_isPoint, .static yX3_isPoint, .initialized RX3, .code yX3_isPoint cX3_isPoint 1 (some .boolean), .constant RX3 48 (1114111), .methodLink RX3 44 yX3_within, .static yX3_within, .code yX3_within cX3_within 3 (some .boolean), .methodLink RX3 77 yX3_isHigh, .static yX3_isHigh, .code yX3_isHigh cX3_isHigh 1 (some .boolean), .constant RX3 49 (55296), .constant RX3 50 (56319), .methodLink RX3 81 yX3_isLow, .static yX3_isLow, .code yX3_isLow cX3_isLow 1 (some .boolean), .constant RX3 51 (56320), .constant RX3 52 (57343), .methodLink RX3 156 yX3_inCase, .static yX3_inCase, .code yX3_inCase cX3_inCase 2 (some .int)])
def wsJ9_min_7cf53 : List Cond := .code yJ9_min_7cf53 cJ9_min_7cf53 2 (some .int) :: ([])
abbrev vwCl : List vw_C := [(RX0, TX0, 2), (RX1, TX1, 2), (RX2, TX2, 8), (RX3, TX3, 18)]
end
section
theorem dX0_init_0 : decode cX0_init 0 = .ok (.aload_n 0, 1) := by decide +kernel
theorem dX0_init_1 : decode cX0_init 1 = .ok (.invokespecial 3, 3) := by decide +kernel
theorem dX0_init_4 : decode cX0_init 4 = .ok (.aload_n 0, 1) := by decide +kernel
theorem dX0_init_5 : decode cX0_init 5 = .ok (.iload_n 1, 1) := by decide +kernel
theorem dX0_init_6 : decode cX0_init 6 = .ok (.ifCond .ge 7, 3) := by decide +kernel
theorem dX0_init_9 : decode cX0_init 9 = .ok (.iconst 0, 1) := by decide +kernel
theorem dX0_init_10 : decode cX0_init 10 = .ok (.goto 4, 3) := by decide +kernel
theorem dX0_init_13 : decode cX0_init 13 = .ok (.iload_n 1, 1) := by decide +kernel
theorem dX0_init_14 : decode cX0_init 14 = .ok (.newarray .int, 2) := by decide +kernel
theorem dX0_init_16 : decode cX0_init 16 = .ok (.putfield 9, 3) := by decide +kernel
theorem dX0_init_19 : decode cX0_init 19 = .ok (.aload_n 0, 1) := by decide +kernel
theorem dX0_init_20 : decode cX0_init 20 = .ok (.iconst 0, 1) := by decide +kernel
theorem dX0_init_21 : decode cX0_init 21 = .ok (.putfield 15, 3) := by decide +kernel
theorem dX0_init_24 : decode cX0_init 24 = .ok (.return_, 1) := by decide +kernel
theorem dX0_empty_0 : decode cX0_empty 0 = .ok (.aload_n 0, 1) := by decide +kernel
theorem dX0_empty_1 : decode cX0_empty 1 = .ok (.iconst 0, 1) := by decide +kernel
theorem dX0_empty_2 : decode cX0_empty 2 = .ok (.putfield 15, 3) := by decide +kernel
theorem dX0_empty_5 : decode cX0_empty 5 = .ok (.return_, 1) := by decide +kernel
theorem dX0_add_0 : decode cX0_add 0 = .ok (.aload_n 0, 1) := by decide +kernel
theorem dX0_add_1 : decode cX0_add 1 = .ok (.getfield 15, 3) := by decide +kernel
theorem dX0_add_4 : decode cX0_add 4 = .ok (.ifCond .lt 35, 3) := by decide +kernel
theorem dX0_add_7 : decode cX0_add 7 = .ok (.aload_n 0, 1) := by decide +kernel
theorem dX0_add_8 : decode cX0_add 8 = .ok (.getfield 15, 3) := by decide +kernel
theorem dX0_add_11 : decode cX0_add 11 = .ok (.aload_n 0, 1) := by decide +kernel
theorem dX0_add_12 : decode cX0_add 12 = .ok (.getfield 9, 3) := by decide +kernel
theorem dX0_add_15 : decode cX0_add 15 = .ok (.arraylength, 1) := by decide +kernel
theorem dX0_add_16 : decode cX0_add 16 = .ok (.if_icmp .ge 23, 3) := by decide +kernel
theorem dX0_add_19 : decode cX0_add 19 = .ok (.aload_n 0, 1) := by decide +kernel
theorem dX0_add_20 : decode cX0_add 20 = .ok (.getfield 9, 3) := by decide +kernel
theorem dX0_add_23 : decode cX0_add 23 = .ok (.aload_n 0, 1) := by decide +kernel
theorem dX0_add_24 : decode cX0_add 24 = .ok (.getfield 15, 3) := by decide +kernel
theorem dX0_add_27 : decode cX0_add 27 = .ok (.iload_n 1, 1) := by decide +kernel
theorem dX0_add_28 : decode cX0_add 28 = .ok (.iastore, 1) := by decide +kernel
theorem dX0_add_29 : decode cX0_add 29 = .ok (.aload_n 0, 1) := by decide +kernel
theorem dX0_add_30 : decode cX0_add 30 = .ok (.dup, 1) := by decide +kernel
theorem dX0_add_31 : decode cX0_add 31 = .ok (.getfield 15, 3) := by decide +kernel
theorem dX0_add_34 : decode cX0_add 34 = .ok (.iconst 1, 1) := by decide +kernel
theorem dX0_add_35 : decode cX0_add 35 = .ok (.iadd, 1) := by decide +kernel
theorem dX0_add_36 : decode cX0_add 36 = .ok (.putfield 15, 3) := by decide +kernel
theorem dX0_add_39 : decode cX0_add 39 = .ok (.return_, 1) := by decide +kernel
set_option maxRecDepth 20000 in
theorem ggX0_addAll_X0_add : GoodIn wsX0_addAll wsX0_add := goodIn_r _ [5, 6, 7, 8, 9] (by decide +kernel) (by decide +kernel)
set_option maxRecDepth 20000 in
theorem gX0_addAll_X0_add : GoodIn wsX0_addAll (wsV RX0 19 RX0 yX0_add wsX0_add) := goodIn_app (goodIn_of _ (by decide +kernel)) ggX0_addAll_X0_add
theorem dX0_addAll_0 : decode cX0_addAll 0 = .ok (.iconst 0, 1) := by decide +kernel
theorem dX0_addAll_1 : decode cX0_addAll 1 = .ok (.istore_n 2, 1) := by decide +kernel
theorem dX0_addAll_2 : decode cX0_addAll 2 = .ok (.iload_n 2, 1) := by decide +kernel
theorem dX0_addAll_3 : decode cX0_addAll 3 = .ok (.aload_n 1, 1) := by decide +kernel
theorem dX0_addAll_4 : decode cX0_addAll 4 = .ok (.arraylength, 1) := by decide +kernel
theorem dX0_addAll_5 : decode cX0_addAll 5 = .ok (.if_icmp .ge 16, 3) := by decide +kernel
theorem dX0_addAll_8 : decode cX0_addAll 8 = .ok (.aload_n 0, 1) := by decide +kernel
theorem dX0_addAll_9 : decode cX0_addAll 9 = .ok (.aload_n 1, 1) := by decide +kernel
theorem dX0_addAll_10 : decode cX0_addAll 10 = .ok (.iload_n 2, 1) := by decide +kernel
theorem dX0_addAll_11 : decode cX0_addAll 11 = .ok (.iaload, 1) := by decide +kernel
theorem dX0_addAll_12 : decode cX0_addAll 12 = .ok (.invokevirtual 19, 3) := by decide +kernel
theorem dX0_addAll_15 : decode cX0_addAll 15 = .ok (.iinc 2 1, 3) := by decide +kernel
theorem dX0_addAll_18 : decode cX0_addAll 18 = .ok (.goto (-16), 3) := by decide +kernel
theorem dX0_addAll_21 : decode cX0_addAll 21 = .ok (.return_, 1) := by decide +kernel
set_option maxRecDepth 20000 in
theorem ggX0_addUnitsOf_X0_add : GoodIn wsX0_addUnitsOf wsX0_add := goodIn_r _ [8, 9, 10, 11, 12] (by decide +kernel) (by decide +kernel)
set_option maxRecDepth 20000 in
theorem gX0_addUnitsOf_X0_add : GoodIn wsX0_addUnitsOf (wsV RX0 19 RX0 yX0_add wsX0_add) := goodIn_app (goodIn_of _ (by decide +kernel)) ggX0_addUnitsOf_X0_add
theorem dX0_addUnitsOf_0 : decode cX0_addUnitsOf 0 = .ok (.iload_n 1, 1) := by decide +kernel
theorem dX0_addUnitsOf_1 : decode cX0_addUnitsOf 1 = .ok (.ldc 23, 2) := by decide +kernel
theorem dX0_addUnitsOf_3 : decode cX0_addUnitsOf 3 = .ok (.if_icmp .ge 9, 3) := by decide +kernel
theorem dX0_addUnitsOf_6 : decode cX0_addUnitsOf 6 = .ok (.aload_n 0, 1) := by decide +kernel
theorem dX0_addUnitsOf_7 : decode cX0_addUnitsOf 7 = .ok (.iload_n 1, 1) := by decide +kernel
theorem dX0_addUnitsOf_8 : decode cX0_addUnitsOf 8 = .ok (.invokevirtual 19, 3) := by decide +kernel
theorem dX0_addUnitsOf_11 : decode cX0_addUnitsOf 11 = .ok (.return_, 1) := by decide +kernel
theorem dX0_addUnitsOf_12 : decode cX0_addUnitsOf 12 = .ok (.iload_n 1, 1) := by decide +kernel
theorem dX0_addUnitsOf_13 : decode cX0_addUnitsOf 13 = .ok (.ldc 23, 2) := by decide +kernel
theorem dX0_addUnitsOf_15 : decode cX0_addUnitsOf 15 = .ok (.isub, 1) := by decide +kernel
theorem dX0_addUnitsOf_16 : decode cX0_addUnitsOf 16 = .ok (.istore_n 2, 1) := by decide +kernel
theorem dX0_addUnitsOf_17 : decode cX0_addUnitsOf 17 = .ok (.aload_n 0, 1) := by decide +kernel
theorem dX0_addUnitsOf_18 : decode cX0_addUnitsOf 18 = .ok (.ldc 24, 2) := by decide +kernel
theorem dX0_addUnitsOf_20 : decode cX0_addUnitsOf 20 = .ok (.iload_n 2, 1) := by decide +kernel
theorem dX0_addUnitsOf_21 : decode cX0_addUnitsOf 21 = .ok (.sipush 1024, 3) := by decide +kernel
theorem dX0_addUnitsOf_24 : decode cX0_addUnitsOf 24 = .ok (.idiv, 1) := by decide +kernel
theorem dX0_addUnitsOf_25 : decode cX0_addUnitsOf 25 = .ok (.iadd, 1) := by decide +kernel
theorem dX0_addUnitsOf_26 : decode cX0_addUnitsOf 26 = .ok (.invokevirtual 19, 3) := by decide +kernel
theorem dX0_addUnitsOf_29 : decode cX0_addUnitsOf 29 = .ok (.aload_n 0, 1) := by decide +kernel
theorem dX0_addUnitsOf_30 : decode cX0_addUnitsOf 30 = .ok (.ldc 25, 2) := by decide +kernel
theorem dX0_addUnitsOf_32 : decode cX0_addUnitsOf 32 = .ok (.iload_n 2, 1) := by decide +kernel
theorem dX0_addUnitsOf_33 : decode cX0_addUnitsOf 33 = .ok (.sipush 1024, 3) := by decide +kernel
theorem dX0_addUnitsOf_36 : decode cX0_addUnitsOf 36 = .ok (.irem, 1) := by decide +kernel
theorem dX0_addUnitsOf_37 : decode cX0_addUnitsOf 37 = .ok (.iadd, 1) := by decide +kernel
theorem dX0_addUnitsOf_38 : decode cX0_addUnitsOf 38 = .ok (.invokevirtual 19, 3) := by decide +kernel
theorem dX0_addUnitsOf_41 : decode cX0_addUnitsOf 41 = .ok (.return_, 1) := by decide +kernel
set_option maxRecDepth 20000 in
theorem ggX0_addPointsOf_X2_isInsidePair : GoodIn wsX0_addPointsOf wsX2_isInsidePair := goodIn_r _ [3, 4, 5, 2, 6, 7, 8, 9, 10, 11, 12] (by decide +kernel) (by decide +kernel)
set_option maxRecDepth 20000 in
theorem gX0_addPointsOf_X2_isInsidePair_n26 : GoodIn wsX0_addPointsOf (wsX2_isInsidePair) := ggX0_addPointsOf_X2_isInsidePair
set_option maxRecDepth 20000 in
theorem ggX0_addPointsOf_X2_pairedPoint : GoodIn wsX0_addPointsOf wsX2_pairedPoint := goodIn_r _ [14, 15, 7, 8] (by decide +kernel) (by decide +kernel)
set_option maxRecDepth 20000 in
theorem gX0_addPointsOf_X2_pairedPoint_n30 : GoodIn wsX0_addPointsOf (wsX2_pairedPoint) := ggX0_addPointsOf_X2_pairedPoint
set_option maxRecDepth 20000 in
theorem ggX0_addPointsOf_X0_add : GoodIn wsX0_addPointsOf wsX0_add := goodIn_r _ [20, 21, 22, 23, 24] (by decide +kernel) (by decide +kernel)
set_option maxRecDepth 20000 in
theorem gX0_addPointsOf_X0_add : GoodIn wsX0_addPointsOf (wsV RX0 19 RX0 yX0_add wsX0_add) := goodIn_app (goodIn_of _ (by decide +kernel)) ggX0_addPointsOf_X0_add
theorem dX0_addPointsOf_0 : decode cX0_addPointsOf 0 = .ok (.iconst 0, 1) := by decide +kernel
theorem dX0_addPointsOf_1 : decode cX0_addPointsOf 1 = .ok (.istore_n 3, 1) := by decide +kernel
theorem dX0_addPointsOf_2 : decode cX0_addPointsOf 2 = .ok (.iload_n 3, 1) := by decide +kernel
theorem dX0_addPointsOf_3 : decode cX0_addPointsOf 3 = .ok (.iload_n 2, 1) := by decide +kernel
theorem dX0_addPointsOf_4 : decode cX0_addPointsOf 4 = .ok (.if_icmp .ge 54, 3) := by decide +kernel
theorem dX0_addPointsOf_7 : decode cX0_addPointsOf 7 = .ok (.iload_n 3, 1) := by decide +kernel
theorem dX0_addPointsOf_8 : decode cX0_addPointsOf 8 = .ok (.aload_n 1, 1) := by decide +kernel
theorem dX0_addPointsOf_9 : decode cX0_addPointsOf 9 = .ok (.arraylength, 1) := by decide +kernel
theorem dX0_addPointsOf_10 : decode cX0_addPointsOf 10 = .ok (.if_icmp .ge 48, 3) := by decide +kernel
theorem dX0_addPointsOf_13 : decode cX0_addPointsOf 13 = .ok (.aload_n 1, 1) := by decide +kernel
theorem dX0_addPointsOf_14 : decode cX0_addPointsOf 14 = .ok (.iload_n 2, 1) := by decide +kernel
theorem dX0_addPointsOf_15 : decode cX0_addPointsOf 15 = .ok (.iload_n 3, 1) := by decide +kernel
theorem dX0_addPointsOf_16 : decode cX0_addPointsOf 16 = .ok (.iconst 1, 1) := by decide +kernel
theorem dX0_addPointsOf_17 : decode cX0_addPointsOf 17 = .ok (.iadd, 1) := by decide +kernel
theorem dX0_addPointsOf_18 : decode cX0_addPointsOf 18 = .ok (.invokestatic 26, 3) := by decide +kernel
theorem dX0_addPointsOf_21 : decode cX0_addPointsOf 21 = .ok (.ifCond .eq 15, 3) := by decide +kernel
theorem dX0_addPointsOf_24 : decode cX0_addPointsOf 24 = .ok (.aload_n 0, 1) := by decide +kernel
theorem dX0_addPointsOf_25 : decode cX0_addPointsOf 25 = .ok (.aload_n 1, 1) := by decide +kernel
theorem dX0_addPointsOf_26 : decode cX0_addPointsOf 26 = .ok (.iload_n 3, 1) := by decide +kernel
theorem dX0_addPointsOf_27 : decode cX0_addPointsOf 27 = .ok (.invokestatic 30, 3) := by decide +kernel
theorem dX0_addPointsOf_30 : decode cX0_addPointsOf 30 = .ok (.invokevirtual 19, 3) := by decide +kernel
theorem dX0_addPointsOf_33 : decode cX0_addPointsOf 33 = .ok (.goto 19, 3) := by decide +kernel
theorem dX0_addPointsOf_36 : decode cX0_addPointsOf 36 = .ok (.aload_n 1, 1) := by decide +kernel
theorem dX0_addPointsOf_37 : decode cX0_addPointsOf 37 = .ok (.iload_n 2, 1) := by decide +kernel
theorem dX0_addPointsOf_38 : decode cX0_addPointsOf 38 = .ok (.iload_n 3, 1) := by decide +kernel
theorem dX0_addPointsOf_39 : decode cX0_addPointsOf 39 = .ok (.invokestatic 26, 3) := by decide +kernel
theorem dX0_addPointsOf_42 : decode cX0_addPointsOf 42 = .ok (.ifCond .ne 10, 3) := by decide +kernel
theorem dX0_addPointsOf_45 : decode cX0_addPointsOf 45 = .ok (.aload_n 0, 1) := by decide +kernel
theorem dX0_addPointsOf_46 : decode cX0_addPointsOf 46 = .ok (.aload_n 1, 1) := by decide +kernel
theorem dX0_addPointsOf_47 : decode cX0_addPointsOf 47 = .ok (.iload_n 3, 1) := by decide +kernel
theorem dX0_addPointsOf_48 : decode cX0_addPointsOf 48 = .ok (.iaload, 1) := by decide +kernel
theorem dX0_addPointsOf_49 : decode cX0_addPointsOf 49 = .ok (.invokevirtual 19, 3) := by decide +kernel
theorem dX0_addPointsOf_52 : decode cX0_addPointsOf 52 = .ok (.iinc 3 1, 3) := by decide +kernel
theorem dX0_addPointsOf_55 : decode cX0_addPointsOf 55 = .ok (.goto (-53), 3) := by decide +kernel
theorem dX0_addPointsOf_58 : decode cX0_addPointsOf 58 = .ok (.return_, 1) := by decide +kernel
set_option maxRecDepth 20000 in
theorem ggX1_init_J7_copyOf_59c91 : GoodIn wsX1_init wsJ7_copyOf_59c91 := goodIn_r _ [11, 12, 13, 14, 15, 16, 17, 18, 19, 20, 21, 22, 23, 24, 25, 26] (by decide +kernel) (by decide +kernel)
set_option maxRecDepth 20000 in
theorem gX1_init_J7_copyOf_59c91 : GoodIn wsX1_init (va_wsS RX1 24 yJ7_copyOf_59c91 wsJ7_copyOf_59c91) := goodIn_app (goodIn_of _ (by decide +kernel)) ggX1_init_J7_copyOf_59c91
theorem dX1_init_0 : decode cX1_init 0 = .ok (.aload_n 0, 1) := by decide +kernel
theorem dX1_init_1 : decode cX1_init 1 = .ok (.invokespecial 3, 3) := by decide +kernel
theorem dX1_init_4 : decode cX1_init 4 = .ok (.aload_n 0, 1) := by decide +kernel
theorem dX1_init_5 : decode cX1_init 5 = .ok (.iload_n 1, 1) := by decide +kernel
theorem dX1_init_6 : decode cX1_init 6 = .ok (.putfield 9, 3) := by decide +kernel
theorem dX1_init_9 : decode cX1_init 9 = .ok (.aload_n 0, 1) := by decide +kernel
theorem dX1_init_10 : decode cX1_init 10 = .ok (.aload_n 2, 1) := by decide +kernel
theorem dX1_init_11 : decode cX1_init 11 = .ok (.getfield 15, 3) := by decide +kernel
theorem dX1_init_14 : decode cX1_init 14 = .ok (.aload_n 2, 1) := by decide +kernel
theorem dX1_init_15 : decode cX1_init 15 = .ok (.getfield 21, 3) := by decide +kernel
theorem dX1_init_18 : decode cX1_init 18 = .ok (.invokestatic 24, 3) := by decide +kernel
theorem dX1_init_21 : decode cX1_init 21 = .ok (.putfield 30, 3) := by decide +kernel
theorem dX1_init_24 : decode cX1_init 24 = .ok (.return_, 1) := by decide +kernel
theorem dX1_mostItems_0 : decode cX1_mostItems 0 = .ok (.aload_n 0, 1) := by decide +kernel
theorem dX1_mostItems_1 : decode cX1_mostItems 1 = .ok (.getfield 9, 3) := by decide +kernel
theorem dX1_mostItems_4 : decode cX1_mostItems 4 = .ok (.iconst 2, 1) := by decide +kernel
theorem dX1_mostItems_5 : decode cX1_mostItems 5 = .ok (.if_icmp .ne 9, 3) := by decide +kernel
theorem dX1_mostItems_8 : decode cX1_mostItems 8 = .ok (.sipush 240, 3) := by decide +kernel
theorem dX1_mostItems_11 : decode cX1_mostItems 11 = .ok (.goto 5, 3) := by decide +kernel
theorem dX1_mostItems_14 : decode cX1_mostItems 14 = .ok (.bipush 60, 2) := by decide +kernel
theorem dX1_mostItems_16 : decode cX1_mostItems 16 = .ok (.ireturn, 1) := by decide +kernel
set_option maxRecDepth 20000 in
theorem ggX2_init_X0_init : GoodIn wsX2_init wsX0_init := goodIn_r _ [18, 19, 2, 3, 20, 21, 22, 31, 32] (by decide +kernel) (by decide +kernel)
set_option maxRecDepth 20000 in
theorem gX2_init_X0_init : GoodIn wsX2_init (wsX0_init) := ggX2_init_X0_init
theorem dX2_init_0 : decode cX2_init 0 = .ok (.aload_n 0, 1) := by decide +kernel
theorem dX2_init_1 : decode cX2_init 1 = .ok (.invokespecial 1, 3) := by decide +kernel
theorem dX2_init_4 : decode cX2_init 4 = .ok (.aload_n 0, 1) := by decide +kernel
theorem dX2_init_5 : decode cX2_init 5 = .ok (.bipush 10, 2) := by decide +kernel
theorem dX2_init_7 : decode cX2_init 7 = .ok (.anewarray 9, 3) := by decide +kernel
theorem dX2_init_10 : decode cX2_init 10 = .ok (.putfield 11, 3) := by decide +kernel
theorem dX2_init_13 : decode cX2_init 13 = .ok (.aload_n 0, 1) := by decide +kernel
theorem dX2_init_14 : decode cX2_init 14 = .ok (.bipush 12, 2) := by decide +kernel
theorem dX2_init_16 : decode cX2_init 16 = .ok (.anewarray 9, 3) := by decide +kernel
theorem dX2_init_19 : decode cX2_init 19 = .ok (.putfield 15, 3) := by decide +kernel
theorem dX2_init_22 : decode cX2_init 22 = .ok (.aload_n 0, 1) := by decide +kernel
theorem dX2_init_23 : decode cX2_init 23 = .ok (.iconst 0, 1) := by decide +kernel
theorem dX2_init_24 : decode cX2_init 24 = .ok (.putfield 18, 3) := by decide +kernel
theorem dX2_init_27 : decode cX2_init 27 = .ok (.aload_n 0, 1) := by decide +kernel
theorem dX2_init_28 : decode cX2_init 28 = .ok (.new 22, 3) := by decide +kernel
theorem dX2_init_31 : decode cX2_init 31 = .ok (.dup, 1) := by decide +kernel
theorem dX2_init_32 : decode cX2_init 32 = .ok (.bipush 60, 2) := by decide +kernel
theorem dX2_init_34 : decode cX2_init 34 = .ok (.invokespecial 24, 3) := by decide +kernel
theorem dX2_init_37 : decode cX2_init 37 = .ok (.putfield 27, 3) := by decide +kernel
theorem dX2_init_40 : decode cX2_init 40 = .ok (.aload_n 0, 1) := by decide +kernel
theorem dX2_init_41 : decode cX2_init 41 = .ok (.new 22, 3) := by decide +kernel
theorem dX2_init_44 : decode cX2_init 44 = .ok (.dup, 1) := by decide +kernel
theorem dX2_init_45 : decode cX2_init 45 = .ok (.sipush 240, 3) := by decide +kernel
theorem dX2_init_48 : decode cX2_init 48 = .ok (.invokespecial 24, 3) := by decide +kernel
theorem dX2_init_51 : decode cX2_init 51 = .ok (.putfield 31, 3) := by decide +kernel
theorem dX2_init_54 : decode cX2_init 54 = .ok (.aload_n 0, 1) := by decide +kernel
theorem dX2_init_55 : decode cX2_init 55 = .ok (.new 22, 3) := by decide +kernel
theorem dX2_init_58 : decode cX2_init 58 = .ok (.dup, 1) := by decide +kernel
theorem dX2_init_59 : decode cX2_init 59 = .ok (.sipush 240, 3) := by decide +kernel
theorem dX2_init_62 : decode cX2_init 62 = .ok (.invokespecial 24, 3) := by decide +kernel
theorem dX2_init_65 : decode cX2_init 65 = .ok (.putfield 34, 3) := by decide +kernel
theorem dX2_init_68 : decode cX2_init 68 = .ok (.aload_n 0, 1) := by decide +kernel
theorem dX2_init_69 : decode cX2_init 69 = .ok (.iconst 0, 1) := by decide +kernel
theorem dX2_init_70 : decode cX2_init 70 = .ok (.putfield 37, 3) := by decide +kernel
theorem dX2_init_73 : decode cX2_init 73 = .ok (.aload_n 0, 1) := by decide +kernel
theorem dX2_init_74 : decode cX2_init 74 = .ok (.iconst (-1), 1) := by decide +kernel
theorem dX2_init_75 : decode cX2_init 75 = .ok (.putfield 40, 3) := by decide +kernel
theorem dX2_init_78 : decode cX2_init 78 = .ok (.return_, 1) := by decide +kernel
theorem dX2_code_0 : decode cX2_code 0 = .ok (.aload_n 0, 1) := by decide +kernel
theorem dX2_code_1 : decode cX2_code 1 = .ok (.getfield 37, 3) := by decide +kernel
theorem dX2_code_4 : decode cX2_code 4 = .ok (.ireturn, 1) := by decide +kernel
theorem dX2_place_0 : decode cX2_place 0 = .ok (.aload_n 0, 1) := by decide +kernel
theorem dX2_place_1 : decode cX2_place 1 = .ok (.getfield 40, 3) := by decide +kernel
theorem dX2_place_4 : decode cX2_place 4 = .ok (.ireturn, 1) := by decide +kernel
set_option maxRecDepth 20000 in
theorem ggX2_point_X2_isNoPoint : GoodIn wsX2_point wsX2_isNoPoint := goodIn_r _ [7, 8] (by decide +kernel) (by decide +kernel)
set_option maxRecDepth 20000 in
theorem gX2_point_X2_isNoPoint : GoodIn wsX2_point (va_wsS RX2 43 yX2_isNoPoint wsX2_isNoPoint) := goodIn_app (goodIn_of _ (by decide +kernel)) ggX2_point_X2_isNoPoint
set_option maxRecDepth 20000 in
theorem ggX2_point_X2_unitCount : GoodIn wsX2_point wsX2_unitCount := goodIn_r _ [11, 12] (by decide +kernel) (by decide +kernel)
set_option maxRecDepth 20000 in
theorem gX2_point_X2_unitCount : GoodIn wsX2_point (va_wsS RX2 51 yX2_unitCount wsX2_unitCount) := goodIn_app (goodIn_of _ (by decide +kernel)) ggX2_point_X2_unitCount
set_option maxRecDepth 20000 in
theorem ggX2_point_X2_refuse : GoodIn wsX2_point wsX2_refuse := goodIn_r _ [16, 17, 36, 37, 38, 39, 40, 41, 42, 43] (by decide +kernel) (by decide +kernel)
set_option maxRecDepth 20000 in
theorem gX2_point_X2_refuse : GoodIn wsX2_point (wsV RX2 55 RX2 yX2_refuse wsX2_refuse) := goodIn_app (goodIn_of _ (by decide +kernel)) ggX2_point_X2_refuse
set_option maxRecDepth 20000 in
theorem ggX2_point_X0_addUnitsOf : GoodIn wsX2_point wsX0_addUnitsOf := goodIn_r _ [22, 23, 24, 25, 26, 27, 28, 21, 29, 30, 31, 44, 45] (by decide +kernel) (by decide +kernel)
set_option maxRecDepth 20000 in
theorem gX2_point_X0_addUnitsOf : GoodIn wsX2_point (wsV RX2 58 RX0 yX0_addUnitsOf wsX0_addUnitsOf) := goodIn_app (goodIn_of _ (by decide +kernel)) ggX2_point_X0_addUnitsOf
set_option maxRecDepth 20000 in
theorem ggX2_point_X2_done : GoodIn wsX2_point wsX2_done := goodIn_r _ [35, 17, 36, 37, 38, 39, 40, 41, 42, 43] (by decide +kernel) (by decide +kernel)
set_option maxRecDepth 20000 in
theorem gX2_point_X2_done : GoodIn wsX2_point (wsV RX2 61 RX2 yX2_done wsX2_done) := goodIn_app (goodIn_of _ (by decide +kernel)) ggX2_point_X2_done
theorem dX2_point_0 : decode cX2_point 0 = .ok (.iload_n 1, 1) := by decide +kernel
theorem dX2_point_1 : decode cX2_point 1 = .ok (.invokestatic 43, 3) := by decide +kernel
theorem dX2_point_4 : decode cX2_point 4 = .ok (.ifCond .eq 6, 3) := by decide +kernel
theorem dX2_point_7 : decode cX2_point 7 = .ok (.ldc 47, 2) := by decide +kernel
theorem dX2_point_9 : decode cX2_point 9 = .ok (.ireturn, 1) := by decide +kernel
theorem dX2_point_10 : decode cX2_point 10 = .ok (.aload_n 0, 1) := by decide +kernel
theorem dX2_point_11 : decode cX2_point 11 = .ok (.getfield 27, 3) := by decide +kernel
theorem dX2_point_14 : decode cX2_point 14 = .ok (.getfield 48, 3) := by decide +kernel
theorem dX2_point_17 : decode cX2_point 17 = .ok (.iload_n 1, 1) := by decide +kernel
theorem dX2_point_18 : decode cX2_point 18 = .ok (.invokestatic 51, 3) := by decide +kernel
theorem dX2_point_21 : decode cX2_point 21 = .ok (.iadd, 1) := by decide +kernel
theorem dX2_point_22 : decode cX2_point 22 = .ok (.bipush 60, 2) := by decide +kernel
theorem dX2_point_24 : decode cX2_point 24 = .ok (.if_icmp .le 10, 3) := by decide +kernel
theorem dX2_point_27 : decode cX2_point 27 = .ok (.aload_n 0, 1) := by decide +kernel
theorem dX2_point_28 : decode cX2_point 28 = .ok (.bipush 6, 2) := by decide +kernel
theorem dX2_point_30 : decode cX2_point 30 = .ok (.invokevirtual 55, 3) := by decide +kernel
theorem dX2_point_33 : decode cX2_point 33 = .ok (.ireturn, 1) := by decide +kernel
theorem dX2_point_34 : decode cX2_point 34 = .ok (.aload_n 0, 1) := by decide +kernel
theorem dX2_point_35 : decode cX2_point 35 = .ok (.getfield 27, 3) := by decide +kernel
theorem dX2_point_38 : decode cX2_point 38 = .ok (.iload_n 1, 1) := by decide +kernel
theorem dX2_point_39 : decode cX2_point 39 = .ok (.invokevirtual 58, 3) := by decide +kernel
theorem dX2_point_42 : decode cX2_point 42 = .ok (.aload_n 0, 1) := by decide +kernel
theorem dX2_point_43 : decode cX2_point 43 = .ok (.aload_n 0, 1) := by decide +kernel
theorem dX2_point_44 : decode cX2_point 44 = .ok (.getfield 27, 3) := by decide +kernel
theorem dX2_point_47 : decode cX2_point 47 = .ok (.getfield 48, 3) := by decide +kernel
theorem dX2_point_50 : decode cX2_point 50 = .ok (.invokevirtual 61, 3) := by decide +kernel
theorem dX2_point_53 : decode cX2_point 53 = .ok (.ireturn, 1) := by decide +kernel
set_option maxRecDepth 20000 in
theorem ggX2_unit_X2_refuse : GoodIn wsX2_unit wsX2_refuse := goodIn_r _ [9, 10, 22, 23, 24, 25, 26, 27, 28, 29] (by decide +kernel) (by decide +kernel)
set_option maxRecDepth 20000 in
theorem gX2_unit_X2_refuse : GoodIn wsX2_unit (wsV RX2 55 RX2 yX2_refuse wsX2_refuse) := goodIn_app (goodIn_of _ (by decide +kernel)) ggX2_unit_X2_refuse
set_option maxRecDepth 20000 in
theorem ggX2_unit_X0_add : GoodIn wsX2_unit wsX0_add := goodIn_r _ [15, 16, 17, 30, 31] (by decide +kernel) (by decide +kernel)
set_option maxRecDepth 20000 in
theorem gX2_unit_X0_add : GoodIn wsX2_unit (wsV RX2 65 RX0 yX0_add wsX0_add) := goodIn_app (goodIn_of _ (by decide +kernel)) ggX2_unit_X0_add
set_option maxRecDepth 20000 in
theorem ggX2_unit_X2_done : GoodIn wsX2_unit wsX2_done := goodIn_r _ [21, 10, 22, 23, 24, 25, 26, 27, 28, 29] (by decide +kernel) (by decide +kernel)
set_option maxRecDepth 20000 in
theorem gX2_unit_X2_done : GoodIn wsX2_unit (wsV RX2 61 RX2 yX2_done wsX2_done) := goodIn_app (goodIn_of _ (by decide +kernel)) ggX2_unit_X2_done
theorem dX2_unit_0 : decode cX2_unit 0 = .ok (.iload_n 1, 1) := by decide +kernel
theorem dX2_unit_1 : decode cX2_unit 1 = .ok (.ifCond .lt 9, 3) := by decide +kernel
theorem dX2_unit_4 : decode cX2_unit 4 = .ok (.iload_n 1, 1) := by decide +kernel
theorem dX2_unit_5 : decode cX2_unit 5 = .ok (.ldc 64, 2) := by decide +kernel
theorem dX2_unit_7 : decode cX2_unit 7 = .ok (.if_icmp .le 6, 3) := by decide +kernel
theorem dX2_unit_10 : decode cX2_unit 10 = .ok (.ldc 47, 2) := by decide +kernel
theorem dX2_unit_12 : decode cX2_unit 12 = .ok (.ireturn, 1) := by decide +kernel
theorem dX2_unit_13 : decode cX2_unit 13 = .ok (.aload_n 0, 1) := by decide +kernel
theorem dX2_unit_14 : decode cX2_unit 14 = .ok (.getfield 27, 3) := by decide +kernel
theorem dX2_unit_17 : decode cX2_unit 17 = .ok (.getfield 48, 3) := by decide +kernel
theorem dX2_unit_20 : decode cX2_unit 20 = .ok (.bipush 60, 2) := by decide +kernel
theorem dX2_unit_22 : decode cX2_unit 22 = .ok (.if_icmp .lt 10, 3) := by decide +kernel
theorem dX2_unit_25 : decode cX2_unit 25 = .ok (.aload_n 0, 1) := by decide +kernel
theorem dX2_unit_26 : decode cX2_unit 26 = .ok (.bipush 6, 2) := by decide +kernel
theorem dX2_unit_28 : decode cX2_unit 28 = .ok (.invokevirtual 55, 3) := by decide +kernel
theorem dX2_unit_31 : decode cX2_unit 31 = .ok (.ireturn, 1) := by decide +kernel
theorem dX2_unit_32 : decode cX2_unit 32 = .ok (.aload_n 0, 1) := by decide +kernel
theorem dX2_unit_33 : decode cX2_unit 33 = .ok (.getfield 27, 3) := by decide +kernel
theorem dX2_unit_36 : decode cX2_unit 36 = .ok (.iload_n 1, 1) := by decide +kernel
theorem dX2_unit_37 : decode cX2_unit 37 = .ok (.invokevirtual 65, 3) := by decide +kernel
theorem dX2_unit_40 : decode cX2_unit 40 = .ok (.aload_n 0, 1) := by decide +kernel
theorem dX2_unit_41 : decode cX2_unit 41 = .ok (.aload_n 0, 1) := by decide +kernel
theorem dX2_unit_42 : decode cX2_unit 42 = .ok (.getfield 27, 3) := by decide +kernel
theorem dX2_unit_45 : decode cX2_unit 45 = .ok (.getfield 48, 3) := by decide +kernel
theorem dX2_unit_48 : decode cX2_unit 48 = .ok (.invokevirtual 61, 3) := by decide +kernel
theorem dX2_unit_51 : decode cX2_unit 51 = .ok (.ireturn, 1) := by decide +kernel
set_option maxRecDepth 20000 in
theorem ggX2_fresh_X0_empty : GoodIn wsX2_fresh wsX0_empty := goodIn_r _ [7, 8, 17, 18] (by decide +kernel) (by decide +kernel)
set_option maxRecDepth 20000 in
theorem gX2_fresh_X0_empty : GoodIn wsX2_fresh (wsV RX2 68 RX0 yX0_empty wsX0_empty) := goodIn_app (goodIn_of _ (by decide +kernel)) ggX2_fresh_X0_empty
theorem dX2_fresh_0 : decode cX2_fresh 0 = .ok (.aload_n 0, 1) := by decide +kernel
theorem dX2_fresh_1 : decode cX2_fresh 1 = .ok (.getfield 27, 3) := by decide +kernel
theorem dX2_fresh_4 : decode cX2_fresh 4 = .ok (.getfield 48, 3) := by decide +kernel
theorem dX2_fresh_7 : decode cX2_fresh 7 = .ok (.istore_n 1, 1) := by decide +kernel
theorem dX2_fresh_8 : decode cX2_fresh 8 = .ok (.aload_n 0, 1) := by decide +kernel
theorem dX2_fresh_9 : decode cX2_fresh 9 = .ok (.getfield 27, 3) := by decide +kernel
theorem dX2_fresh_12 : decode cX2_fresh 12 = .ok (.invokevirtual 68, 3) := by decide +kernel
theorem dX2_fresh_15 : decode cX2_fresh 15 = .ok (.iload_n 1, 1) := by decide +kernel
theorem dX2_fresh_16 : decode cX2_fresh 16 = .ok (.ireturn, 1) := by decide +kernel
set_option maxRecDepth 20000 in
theorem ggX2_lay_X2_isNoText : GoodIn wsX2_lay wsX2_isNoText := goodIn_r _ [9] (by decide +kernel) (by decide +kernel)
set_option maxRecDepth 20000 in
theorem gX2_lay_X2_isNoText : GoodIn wsX2_lay (va_wsS RX2 71 yX2_isNoText wsX2_isNoText) := goodIn_app (goodIn_of _ (by decide +kernel)) ggX2_lay_X2_isNoText
set_option maxRecDepth 20000 in
theorem ggX2_lay_X0_empty : GoodIn wsX2_lay wsX0_empty := goodIn_r _ [14, 15, 94, 95] (by decide +kernel) (by decide +kernel)
set_option maxRecDepth 20000 in
theorem gX2_lay_X0_empty : GoodIn wsX2_lay (wsV RX2 68 RX0 yX0_empty wsX0_empty) := goodIn_app (goodIn_of _ (by decide +kernel)) ggX2_lay_X0_empty
set_option maxRecDepth 20000 in
theorem ggX2_lay_X0_addPointsOf : GoodIn wsX2_lay wsX0_addPointsOf := goodIn_r _ [19, 20, 8, 21, 22, 23, 24, 25, 26, 27, 28, 29, 30, 31, 32, 33, 34, 35, 36, 13, 37, 15, 38, 94, 95] (by decide +kernel) (by decide +kernel)
set_option maxRecDepth 20000 in
theorem gX2_lay_X0_addPointsOf : GoodIn wsX2_lay (wsV RX2 78 RX0 yX0_addPointsOf wsX0_addPointsOf) := goodIn_app (goodIn_of _ (by decide +kernel)) ggX2_lay_X0_addPointsOf
set_option maxRecDepth 20000 in
theorem ggX2_lay_X2_maskOf : GoodIn wsX2_lay wsX2_maskOf := goodIn_r _ [41, 42] (by decide +kernel) (by decide +kernel)
set_option maxRecDepth 20000 in
theorem gX2_lay_X2_maskOf : GoodIn wsX2_lay (va_wsS RX2 82 yX2_maskOf wsX2_maskOf) := goodIn_app (goodIn_of _ (by decide +kernel)) ggX2_lay_X2_maskOf
set_option maxRecDepth 20000 in
theorem ggX2_lay_X0_add : GoodIn wsX2_lay wsX0_add := goodIn_r _ [37, 15, 38, 94, 95] (by decide +kernel) (by decide +kernel)
set_option maxRecDepth 20000 in
theorem gX2_lay_X0_add : GoodIn wsX2_lay (wsV RX2 65 RX0 yX0_add wsX0_add) := goodIn_app (goodIn_of _ (by decide +kernel)) ggX2_lay_X0_add
set_option maxRecDepth 20000 in
theorem ggX2_lay_X2_setText : GoodIn wsX2_lay wsX2_setText := goodIn_r _ [47, 48, 49, 50, 51, 5, 52, 53, 54, 55, 56, 57, 58, 59, 60, 61, 62, 63, 64, 65, 66, 67, 68, 69, 70, 71, 72, 73, 74, 75, 76, 77, 78, 79, 80, 81, 82, 83, 8, 84, 85, 86, 87, 88, 89, 90, 91, 92, 93, 96, 97, 94, 95] (by decide +kernel) (by decide +kernel)
set_option maxRecDepth 20000 in
theorem gX2_lay_X2_setText : GoodIn wsX2_lay (wsV RX2 85 RX2 yX2_setText wsX2_setText) := goodIn_app (goodIn_of _ (by decide +kernel)) ggX2_lay_X2_setText
theorem dX2_lay_0 : decode cX2_lay 0 = .ok (.iload_n 1, 1) := by decide +kernel
theorem dX2_lay_1 : decode cX2_lay 1 = .ok (.invokestatic 71, 3) := by decide +kernel
theorem dX2_lay_4 : decode cX2_lay 4 = .ok (.ifCond .ne 12, 3) := by decide +kernel
theorem dX2_lay_7 : decode cX2_lay 7 = .ok (.iload_n 2, 1) := by decide +kernel
theorem dX2_lay_8 : decode cX2_lay 8 = .ok (.ifCond .lt 8, 3) := by decide +kernel
theorem dX2_lay_11 : decode cX2_lay 11 = .ok (.iload_n 2, 1) := by decide +kernel
theorem dX2_lay_12 : decode cX2_lay 12 = .ok (.iconst 2, 1) := by decide +kernel
theorem dX2_lay_13 : decode cX2_lay 13 = .ok (.if_icmp .le 6, 3) := by decide +kernel
theorem dX2_lay_16 : decode cX2_lay 16 = .ok (.ldc 47, 2) := by decide +kernel
theorem dX2_lay_18 : decode cX2_lay 18 = .ok (.ireturn, 1) := by decide +kernel
theorem dX2_lay_19 : decode cX2_lay 19 = .ok (.aload_n 0, 1) := by decide +kernel
theorem dX2_lay_20 : decode cX2_lay 20 = .ok (.getfield 31, 3) := by decide +kernel
theorem dX2_lay_23 : decode cX2_lay 23 = .ok (.invokevirtual 68, 3) := by decide +kernel
theorem dX2_lay_26 : decode cX2_lay 26 = .ok (.iload_n 2, 1) := by decide +kernel
theorem dX2_lay_27 : decode cX2_lay 27 = .ok (.iconst 1, 1) := by decide +kernel
theorem dX2_lay_28 : decode cX2_lay 28 = .ok (.if_icmp .ne 27, 3) := by decide +kernel
theorem dX2_lay_31 : decode cX2_lay 31 = .ok (.aload_n 0, 1) := by decide +kernel
theorem dX2_lay_32 : decode cX2_lay 32 = .ok (.getfield 31, 3) := by decide +kernel
theorem dX2_lay_35 : decode cX2_lay 35 = .ok (.aload_n 0, 1) := by decide +kernel
theorem dX2_lay_36 : decode cX2_lay 36 = .ok (.getfield 27, 3) := by decide +kernel
theorem dX2_lay_39 : decode cX2_lay 39 = .ok (.getfield 74, 3) := by decide +kernel
theorem dX2_lay_42 : decode cX2_lay 42 = .ok (.aload_n 0, 1) := by decide +kernel
theorem dX2_lay_43 : decode cX2_lay 43 = .ok (.getfield 27, 3) := by decide +kernel
theorem dX2_lay_46 : decode cX2_lay 46 = .ok (.getfield 48, 3) := by decide +kernel
theorem dX2_lay_49 : decode cX2_lay 49 = .ok (.invokevirtual 78, 3) := by decide +kernel
theorem dX2_lay_52 : decode cX2_lay 52 = .ok (.goto 61, 3) := by decide +kernel
theorem dX2_lay_55 : decode cX2_lay 55 = .ok (.iload_n 2, 1) := by decide +kernel
theorem dX2_lay_56 : decode cX2_lay 56 = .ok (.invokestatic 82, 3) := by decide +kernel
theorem dX2_lay_59 : decode cX2_lay 59 = .ok (.istore_n 3, 1) := by decide +kernel
theorem dX2_lay_60 : decode cX2_lay 60 = .ok (.iconst 0, 1) := by decide +kernel
theorem dX2_lay_61 : decode cX2_lay 61 = .ok (.istore 4, 2) := by decide +kernel
theorem dX2_lay_63 : decode cX2_lay 63 = .ok (.iload 4, 2) := by decide +kernel
theorem dX2_lay_65 : decode cX2_lay 65 = .ok (.aload_n 0, 1) := by decide +kernel
theorem dX2_lay_66 : decode cX2_lay 66 = .ok (.getfield 27, 3) := by decide +kernel
theorem dX2_lay_69 : decode cX2_lay 69 = .ok (.getfield 48, 3) := by decide +kernel
theorem dX2_lay_72 : decode cX2_lay 72 = .ok (.if_icmp .ge 41, 3) := by decide +kernel
theorem dX2_lay_75 : decode cX2_lay 75 = .ok (.iload 4, 2) := by decide +kernel
theorem dX2_lay_77 : decode cX2_lay 77 = .ok (.aload_n 0, 1) := by decide +kernel
theorem dX2_lay_78 : decode cX2_lay 78 = .ok (.getfield 27, 3) := by decide +kernel
theorem dX2_lay_81 : decode cX2_lay 81 = .ok (.getfield 74, 3) := by decide +kernel
theorem dX2_lay_84 : decode cX2_lay 84 = .ok (.arraylength, 1) := by decide +kernel
theorem dX2_lay_85 : decode cX2_lay 85 = .ok (.if_icmp .ge 28, 3) := by decide +kernel
theorem dX2_lay_88 : decode cX2_lay 88 = .ok (.aload_n 0, 1) := by decide +kernel
theorem dX2_lay_89 : decode cX2_lay 89 = .ok (.getfield 31, 3) := by decide +kernel
theorem dX2_lay_92 : decode cX2_lay 92 = .ok (.aload_n 0, 1) := by decide +kernel
theorem dX2_lay_93 : decode cX2_lay 93 = .ok (.getfield 27, 3) := by decide +kernel
theorem dX2_lay_96 : decode cX2_lay 96 = .ok (.getfield 74, 3) := by decide +kernel
theorem dX2_lay_99 : decode cX2_lay 99 = .ok (.iload 4, 2) := by decide +kernel
theorem dX2_lay_101 : decode cX2_lay 101 = .ok (.iaload, 1) := by decide +kernel
theorem dX2_lay_102 : decode cX2_lay 102 = .ok (.iload_n 3, 1) := by decide +kernel
theorem dX2_lay_103 : decode cX2_lay 103 = .ok (.iand, 1) := by decide +kernel
theorem dX2_lay_104 : decode cX2_lay 104 = .ok (.invokevirtual 65, 3) := by decide +kernel
theorem dX2_lay_107 : decode cX2_lay 107 = .ok (.iinc 4 1, 3) := by decide +kernel
theorem dX2_lay_110 : decode cX2_lay 110 = .ok (.goto (-47), 3) := by decide +kernel
theorem dX2_lay_113 : decode cX2_lay 113 = .ok (.aload_n 0, 1) := by decide +kernel
theorem dX2_lay_114 : decode cX2_lay 114 = .ok (.iload_n 1, 1) := by decide +kernel
theorem dX2_lay_115 : decode cX2_lay 115 = .ok (.iload_n 2, 1) := by decide +kernel
theorem dX2_lay_116 : decode cX2_lay 116 = .ok (.aload_n 0, 1) := by decide +kernel
theorem dX2_lay_117 : decode cX2_lay 117 = .ok (.getfield 31, 3) := by decide +kernel
theorem dX2_lay_120 : decode cX2_lay 120 = .ok (.invokevirtual 85, 3) := by decide +kernel
theorem dX2_lay_123 : decode cX2_lay 123 = .ok (.ireturn, 1) := by decide +kernel
set_option maxRecDepth 20000 in
theorem ggX2_share_X2_isNoText : GoodIn wsX2_share wsX2_isNoText := goodIn_r _ [6] (by decide +kernel) (by decide +kernel)
set_option maxRecDepth 20000 in
theorem gX2_share_X2_isNoText : GoodIn wsX2_share (va_wsS RX2 71 yX2_isNoText wsX2_isNoText) := goodIn_app (goodIn_of _ (by decide +kernel)) ggX2_share_X2_isNoText
set_option maxRecDepth 20000 in
theorem ggX2_share_X2_sortOf : GoodIn wsX2_share wsX2_sortOf := goodIn_r _ [9, 10, 19, 20] (by decide +kernel) (by decide +kernel)
set_option maxRecDepth 20000 in
theorem gX2_share_X2_sortOf : GoodIn wsX2_share (va_wsS RX2 89 yX2_sortOf wsX2_sortOf) := goodIn_app (goodIn_of _ (by decide +kernel)) ggX2_share_X2_sortOf
theorem dX2_share_0 : decode cX2_share 0 = .ok (.iload_n 1, 1) := by decide +kernel
theorem dX2_share_1 : decode cX2_share 1 = .ok (.invokestatic 71, 3) := by decide +kernel
theorem dX2_share_4 : decode cX2_share 4 = .ok (.ifCond .ne 10, 3) := by decide +kernel
theorem dX2_share_7 : decode cX2_share 7 = .ok (.iload_n 2, 1) := by decide +kernel
theorem dX2_share_8 : decode cX2_share 8 = .ok (.invokestatic 71, 3) := by decide +kernel
theorem dX2_share_11 : decode cX2_share 11 = .ok (.ifCond .eq 6, 3) := by decide +kernel
theorem dX2_share_14 : decode cX2_share 14 = .ok (.ldc 47, 2) := by decide +kernel
theorem dX2_share_16 : decode cX2_share 16 = .ok (.ireturn, 1) := by decide +kernel
theorem dX2_share_17 : decode cX2_share 17 = .ok (.aload_n 0, 1) := by decide +kernel
theorem dX2_share_18 : decode cX2_share 18 = .ok (.getfield 11, 3) := by decide +kernel
theorem dX2_share_21 : decode cX2_share 21 = .ok (.iload_n 1, 1) := by decide +kernel
theorem dX2_share_22 : decode cX2_share 22 = .ok (.aload_n 0, 1) := by decide +kernel
theorem dX2_share_23 : decode cX2_share 23 = .ok (.getfield 11, 3) := by decide +kernel
theorem dX2_share_26 : decode cX2_share 26 = .ok (.iload_n 2, 1) := by decide +kernel
theorem dX2_share_27 : decode cX2_share 27 = .ok (.aaload, 1) := by decide +kernel
theorem dX2_share_28 : decode cX2_share 28 = .ok (.aastore, 1) := by decide +kernel
theorem dX2_share_29 : decode cX2_share 29 = .ok (.aload_n 0, 1) := by decide +kernel
theorem dX2_share_30 : decode cX2_share 30 = .ok (.getfield 11, 3) := by decide +kernel
theorem dX2_share_33 : decode cX2_share 33 = .ok (.iload_n 1, 1) := by decide +kernel
theorem dX2_share_34 : decode cX2_share 34 = .ok (.aaload, 1) := by decide +kernel
theorem dX2_share_35 : decode cX2_share 35 = .ok (.invokestatic 89, 3) := by decide +kernel
theorem dX2_share_38 : decode cX2_share 38 = .ok (.ireturn, 1) := by decide +kernel
set_option maxRecDepth 20000 in
theorem ggX2_nothing_X2_isNoText : GoodIn wsX2_nothing wsX2_isNoText := goodIn_r _ [6] (by decide +kernel) (by decide +kernel)
set_option maxRecDepth 20000 in
theorem gX2_nothing_X2_isNoText : GoodIn wsX2_nothing (va_wsS RX2 71 yX2_isNoText wsX2_isNoText) := goodIn_app (goodIn_of _ (by decide +kernel)) ggX2_nothing_X2_isNoText
set_option maxRecDepth 20000 in
theorem ggX2_nothing_X2_sortOf : GoodIn wsX2_nothing wsX2_sortOf := goodIn_r _ [9, 10, 19, 20] (by decide +kernel) (by decide +kernel)
set_option maxRecDepth 20000 in
theorem gX2_nothing_X2_sortOf : GoodIn wsX2_nothing (va_wsS RX2 89 yX2_sortOf wsX2_sortOf) := goodIn_app (goodIn_of _ (by decide +kernel)) ggX2_nothing_X2_sortOf
theorem dX2_nothing_0 : decode cX2_nothing 0 = .ok (.iload_n 1, 1) := by decide +kernel
theorem dX2_nothing_1 : decode cX2_nothing 1 = .ok (.invokestatic 71, 3) := by decide +kernel
theorem dX2_nothing_4 : decode cX2_nothing 4 = .ok (.ifCond .eq 6, 3) := by decide +kernel
theorem dX2_nothing_7 : decode cX2_nothing 7 = .ok (.ldc 47, 2) := by decide +kernel
theorem dX2_nothing_9 : decode cX2_nothing 9 = .ok (.ireturn, 1) := by decide +kernel
theorem dX2_nothing_10 : decode cX2_nothing 10 = .ok (.aload_n 0, 1) := by decide +kernel
theorem dX2_nothing_11 : decode cX2_nothing 11 = .ok (.getfield 11, 3) := by decide +kernel
theorem dX2_nothing_14 : decode cX2_nothing 14 = .ok (.iload_n 1, 1) := by decide +kernel
theorem dX2_nothing_15 : decode cX2_nothing 15 = .ok (.aaload, 1) := by decide +kernel
theorem dX2_nothing_16 : decode cX2_nothing 16 = .ok (.invokestatic 89, 3) := by decide +kernel
theorem dX2_nothing_19 : decode cX2_nothing 19 = .ok (.istore_n 2, 1) := by decide +kernel
theorem dX2_nothing_20 : decode cX2_nothing 20 = .ok (.aload_n 0, 1) := by decide +kernel
theorem dX2_nothing_21 : decode cX2_nothing 21 = .ok (.getfield 11, 3) := by decide +kernel
theorem dX2_nothing_24 : decode cX2_nothing 24 = .ok (.iload_n 1, 1) := by decide +kernel
theorem dX2_nothing_25 : decode cX2_nothing 25 = .ok (.aconst_null, 1) := by decide +kernel
theorem dX2_nothing_26 : decode cX2_nothing 26 = .ok (.aastore, 1) := by decide +kernel
theorem dX2_nothing_27 : decode cX2_nothing 27 = .ok (.iload_n 2, 1) := by decide +kernel
theorem dX2_nothing_28 : decode cX2_nothing 28 = .ok (.ireturn, 1) := by decide +kernel
set_option maxRecDepth 20000 in
theorem ggX2_sort_X2_isNoText : GoodIn wsX2_sort wsX2_isNoText := goodIn_r _ [6] (by decide +kernel) (by decide +kernel)
set_option maxRecDepth 20000 in
theorem gX2_sort_X2_isNoText : GoodIn wsX2_sort (va_wsS RX2 71 yX2_isNoText wsX2_isNoText) := goodIn_app (goodIn_of _ (by decide +kernel)) ggX2_sort_X2_isNoText
set_option maxRecDepth 20000 in
theorem ggX2_sort_X2_sortOf : GoodIn wsX2_sort wsX2_sortOf := goodIn_r _ [9, 10, 19, 20] (by decide +kernel) (by decide +kernel)
set_option maxRecDepth 20000 in
theorem gX2_sort_X2_sortOf : GoodIn wsX2_sort (va_wsS RX2 89 yX2_sortOf wsX2_sortOf) := goodIn_app (goodIn_of _ (by decide +kernel)) ggX2_sort_X2_sortOf
theorem dX2_sort_0 : decode cX2_sort 0 = .ok (.iload_n 1, 1) := by decide +kernel
theorem dX2_sort_1 : decode cX2_sort 1 = .ok (.invokestatic 71, 3) := by decide +kernel
theorem dX2_sort_4 : decode cX2_sort 4 = .ok (.ifCond .eq 6, 3) := by decide +kernel
theorem dX2_sort_7 : decode cX2_sort 7 = .ok (.ldc 47, 2) := by decide +kernel
theorem dX2_sort_9 : decode cX2_sort 9 = .ok (.ireturn, 1) := by decide +kernel
theorem dX2_sort_10 : decode cX2_sort 10 = .ok (.aload_n 0, 1) := by decide +kernel
theorem dX2_sort_11 : decode cX2_sort 11 = .ok (.getfield 11, 3) := by decide +kernel
theorem dX2_sort_14 : decode cX2_sort 14 = .ok (.iload_n 1, 1) := by decide +kernel
theorem dX2_sort_15 : decode cX2_sort 15 = .ok (.aaload, 1) := by decide +kernel
theorem dX2_sort_16 : decode cX2_sort 16 = .ok (.invokestatic 89, 3) := by decide +kernel
theorem dX2_sort_19 : decode cX2_sort 19 = .ok (.ireturn, 1) := by decide +kernel
set_option maxRecDepth 20000 in
theorem ggX2_length_X2_isNoText : GoodIn wsX2_length wsX2_isNoText := goodIn_r _ [7] (by decide +kernel) (by decide +kernel)
set_option maxRecDepth 20000 in
theorem gX2_length_X2_isNoText : GoodIn wsX2_length (va_wsS RX2 71 yX2_isNoText wsX2_isNoText) := goodIn_app (goodIn_of _ (by decide +kernel)) ggX2_length_X2_isNoText
set_option maxRecDepth 20000 in
theorem ggX2_length_X2_refuse : GoodIn wsX2_length wsX2_refuse := goodIn_r _ [11, 12, 17, 18, 19, 20, 21, 22, 23, 24] (by decide +kernel) (by decide +kernel)
set_option maxRecDepth 20000 in
theorem gX2_length_X2_refuse : GoodIn wsX2_length (wsV RX2 55 RX2 yX2_refuse wsX2_refuse) := goodIn_app (goodIn_of _ (by decide +kernel)) ggX2_length_X2_refuse
set_option maxRecDepth 20000 in
theorem ggX2_length_X2_done : GoodIn wsX2_length wsX2_done := goodIn_r _ [16, 12, 17, 18, 19, 20, 21, 22, 23, 24] (by decide +kernel) (by decide +kernel)
set_option maxRecDepth 20000 in
theorem gX2_length_X2_done : GoodIn wsX2_length (wsV RX2 61 RX2 yX2_done wsX2_done) := goodIn_app (goodIn_of _ (by decide +kernel)) ggX2_length_X2_done
theorem dX2_length_0 : decode cX2_length 0 = .ok (.iload_n 1, 1) := by decide +kernel
theorem dX2_length_1 : decode cX2_length 1 = .ok (.invokestatic 71, 3) := by decide +kernel
theorem dX2_length_4 : decode cX2_length 4 = .ok (.ifCond .eq 6, 3) := by decide +kernel
theorem dX2_length_7 : decode cX2_length 7 = .ok (.ldc 47, 2) := by decide +kernel
theorem dX2_length_9 : decode cX2_length 9 = .ok (.ireturn, 1) := by decide +kernel
theorem dX2_length_10 : decode cX2_length 10 = .ok (.aload_n 0, 1) := by decide +kernel
theorem dX2_length_11 : decode cX2_length 11 = .ok (.getfield 11, 3) := by decide +kernel
theorem dX2_length_14 : decode cX2_length 14 = .ok (.iload_n 1, 1) := by decide +kernel
theorem dX2_length_15 : decode cX2_length 15 = .ok (.aaload, 1) := by decide +kernel
theorem dX2_length_16 : decode cX2_length 16 = .ok (.astore_n 2, 1) := by decide +kernel
theorem dX2_length_17 : decode cX2_length 17 = .ok (.aload_n 2, 1) := by decide +kernel
theorem dX2_length_18 : decode cX2_length 18 = .ok (.ifnonnull 9, 3) := by decide +kernel
theorem dX2_length_21 : decode cX2_length 21 = .ok (.aload_n 0, 1) := by decide +kernel
theorem dX2_length_22 : decode cX2_length 22 = .ok (.iconst 1, 1) := by decide +kernel
theorem dX2_length_23 : decode cX2_length 23 = .ok (.invokevirtual 55, 3) := by decide +kernel
theorem dX2_length_26 : decode cX2_length 26 = .ok (.ireturn, 1) := by decide +kernel
theorem dX2_length_27 : decode cX2_length 27 = .ok (.aload_n 0, 1) := by decide +kernel
theorem dX2_length_28 : decode cX2_length 28 = .ok (.aload_n 2, 1) := by decide +kernel
theorem dX2_length_29 : decode cX2_length 29 = .ok (.getfield 93, 3) := by decide +kernel
theorem dX2_length_32 : decode cX2_length 32 = .ok (.arraylength, 1) := by decide +kernel
theorem dX2_length_33 : decode cX2_length 33 = .ok (.invokevirtual 61, 3) := by decide +kernel
theorem dX2_length_36 : decode cX2_length 36 = .ok (.ireturn, 1) := by decide +kernel
set_option maxRecDepth 20000 in
theorem ggX2_points_X2_isNoText : GoodIn wsX2_points wsX2_isNoText := goodIn_r _ [9] (by decide +kernel) (by decide +kernel)
set_option maxRecDepth 20000 in
theorem gX2_points_X2_isNoText : GoodIn wsX2_points (va_wsS RX2 71 yX2_isNoText wsX2_isNoText) := goodIn_app (goodIn_of _ (by decide +kernel)) ggX2_points_X2_isNoText
set_option maxRecDepth 20000 in
theorem ggX2_points_X2_refuse : GoodIn wsX2_points wsX2_refuse := goodIn_r _ [13, 14, 56, 57, 58, 59, 60, 61, 62, 63] (by decide +kernel) (by decide +kernel)
set_option maxRecDepth 20000 in
theorem gX2_points_X2_refuse : GoodIn wsX2_points (wsV RX2 55 RX2 yX2_refuse wsX2_refuse) := goodIn_app (goodIn_of _ (by decide +kernel)) ggX2_points_X2_refuse
set_option maxRecDepth 20000 in
theorem ggX2_points_X2_listPoints : GoodIn wsX2_points wsX2_listPoints := goodIn_r _ [17, 3, 18, 19, 20, 21, 22, 23, 24, 25, 26, 27, 28, 29, 8, 30, 31, 32, 33, 34, 35, 36, 37, 38, 39, 40, 41, 42, 43, 44, 45, 46, 47, 48, 49, 50, 51, 64, 65, 66, 67] (by decide +kernel) (by decide +kernel)
set_option maxRecDepth 20000 in
theorem gX2_points_X2_listPoints : GoodIn wsX2_points (va_wsS RX2 97 yX2_listPoints wsX2_listPoints) := goodIn_app (goodIn_of _ (by decide +kernel)) ggX2_points_X2_listPoints
set_option maxRecDepth 20000 in
theorem ggX2_points_X2_done : GoodIn wsX2_points wsX2_done := goodIn_r _ [55, 14, 56, 57, 58, 59, 60, 61, 62, 63] (by decide +kernel) (by decide +kernel)
set_option maxRecDepth 20000 in
theorem gX2_points_X2_done : GoodIn wsX2_points (wsV RX2 61 RX2 yX2_done wsX2_done) := goodIn_app (goodIn_of _ (by decide +kernel)) ggX2_points_X2_done
theorem dX2_points_0 : decode cX2_points 0 = .ok (.iload_n 1, 1) := by decide +kernel
theorem dX2_points_1 : decode cX2_points 1 = .ok (.invokestatic 71, 3) := by decide +kernel
theorem dX2_points_4 : decode cX2_points 4 = .ok (.ifCond .eq 6, 3) := by decide +kernel
theorem dX2_points_7 : decode cX2_points 7 = .ok (.ldc 47, 2) := by decide +kernel
theorem dX2_points_9 : decode cX2_points 9 = .ok (.ireturn, 1) := by decide +kernel
theorem dX2_points_10 : decode cX2_points 10 = .ok (.aload_n 0, 1) := by decide +kernel
theorem dX2_points_11 : decode cX2_points 11 = .ok (.getfield 11, 3) := by decide +kernel
theorem dX2_points_14 : decode cX2_points 14 = .ok (.iload_n 1, 1) := by decide +kernel
theorem dX2_points_15 : decode cX2_points 15 = .ok (.aaload, 1) := by decide +kernel
theorem dX2_points_16 : decode cX2_points 16 = .ok (.astore_n 2, 1) := by decide +kernel
theorem dX2_points_17 : decode cX2_points 17 = .ok (.aload_n 2, 1) := by decide +kernel
theorem dX2_points_18 : decode cX2_points 18 = .ok (.ifnonnull 9, 3) := by decide +kernel
theorem dX2_points_21 : decode cX2_points 21 = .ok (.aload_n 0, 1) := by decide +kernel
theorem dX2_points_22 : decode cX2_points 22 = .ok (.iconst 1, 1) := by decide +kernel
theorem dX2_points_23 : decode cX2_points 23 = .ok (.invokevirtual 55, 3) := by decide +kernel
theorem dX2_points_26 : decode cX2_points 26 = .ok (.ireturn, 1) := by decide +kernel
theorem dX2_points_27 : decode cX2_points 27 = .ok (.aload_n 2, 1) := by decide +kernel
theorem dX2_points_28 : decode cX2_points 28 = .ok (.getfield 94, 3) := by decide +kernel
theorem dX2_points_31 : decode cX2_points 31 = .ok (.iconst 2, 1) := by decide +kernel
theorem dX2_points_32 : decode cX2_points 32 = .ok (.if_icmp .ne 9, 3) := by decide +kernel
theorem dX2_points_35 : decode cX2_points 35 = .ok (.aload_n 0, 1) := by decide +kernel
theorem dX2_points_36 : decode cX2_points 36 = .ok (.iconst 2, 1) := by decide +kernel
theorem dX2_points_37 : decode cX2_points 37 = .ok (.invokevirtual 55, 3) := by decide +kernel
theorem dX2_points_40 : decode cX2_points 40 = .ok (.ireturn, 1) := by decide +kernel
theorem dX2_points_41 : decode cX2_points 41 = .ok (.aload_n 2, 1) := by decide +kernel
theorem dX2_points_42 : decode cX2_points 42 = .ok (.aload_n 0, 1) := by decide +kernel
theorem dX2_points_43 : decode cX2_points 43 = .ok (.getfield 31, 3) := by decide +kernel
theorem dX2_points_46 : decode cX2_points 46 = .ok (.invokestatic 97, 3) := by decide +kernel
theorem dX2_points_49 : decode cX2_points 49 = .ok (.aload_n 0, 1) := by decide +kernel
theorem dX2_points_50 : decode cX2_points 50 = .ok (.aload_n 0, 1) := by decide +kernel
theorem dX2_points_51 : decode cX2_points 51 = .ok (.getfield 31, 3) := by decide +kernel
theorem dX2_points_54 : decode cX2_points 54 = .ok (.getfield 48, 3) := by decide +kernel
theorem dX2_points_57 : decode cX2_points 57 = .ok (.invokevirtual 61, 3) := by decide +kernel
theorem dX2_points_60 : decode cX2_points 60 = .ok (.ireturn, 1) := by decide +kernel
set_option maxRecDepth 20000 in
theorem ggX2_at_X2_isNoText : GoodIn wsX2_at wsX2_isNoText := goodIn_r _ [7] (by decide +kernel) (by decide +kernel)
set_option maxRecDepth 20000 in
theorem gX2_at_X2_isNoText : GoodIn wsX2_at (va_wsS RX2 71 yX2_isNoText wsX2_isNoText) := goodIn_app (goodIn_of _ (by decide +kernel)) ggX2_at_X2_isNoText
set_option maxRecDepth 20000 in
theorem ggX2_at_X2_refuse : GoodIn wsX2_at wsX2_refuse := goodIn_r _ [11, 12, 17, 18, 19, 20, 21, 22, 23, 24] (by decide +kernel) (by decide +kernel)
set_option maxRecDepth 20000 in
theorem gX2_at_X2_refuse : GoodIn wsX2_at (wsV RX2 55 RX2 yX2_refuse wsX2_refuse) := goodIn_app (goodIn_of _ (by decide +kernel)) ggX2_at_X2_refuse
set_option maxRecDepth 20000 in
theorem ggX2_at_X2_done : GoodIn wsX2_at wsX2_done := goodIn_r _ [16, 12, 17, 18, 19, 20, 21, 22, 23, 24] (by decide +kernel) (by decide +kernel)
set_option maxRecDepth 20000 in
theorem gX2_at_X2_done : GoodIn wsX2_at (wsV RX2 61 RX2 yX2_done wsX2_done) := goodIn_app (goodIn_of _ (by decide +kernel)) ggX2_at_X2_done
theorem dX2_at_0 : decode cX2_at 0 = .ok (.iload_n 1, 1) := by decide +kernel
theorem dX2_at_1 : decode cX2_at 1 = .ok (.invokestatic 71, 3) := by decide +kernel
theorem dX2_at_4 : decode cX2_at 4 = .ok (.ifCond .eq 6, 3) := by decide +kernel
theorem dX2_at_7 : decode cX2_at 7 = .ok (.ldc 47, 2) := by decide +kernel
theorem dX2_at_9 : decode cX2_at 9 = .ok (.ireturn, 1) := by decide +kernel
theorem dX2_at_10 : decode cX2_at 10 = .ok (.aload_n 0, 1) := by decide +kernel
theorem dX2_at_11 : decode cX2_at 11 = .ok (.getfield 11, 3) := by decide +kernel
theorem dX2_at_14 : decode cX2_at 14 = .ok (.iload_n 1, 1) := by decide +kernel
theorem dX2_at_15 : decode cX2_at 15 = .ok (.aaload, 1) := by decide +kernel
theorem dX2_at_16 : decode cX2_at 16 = .ok (.astore_n 3, 1) := by decide +kernel
theorem dX2_at_17 : decode cX2_at 17 = .ok (.aload_n 3, 1) := by decide +kernel
theorem dX2_at_18 : decode cX2_at 18 = .ok (.ifnonnull 9, 3) := by decide +kernel
theorem dX2_at_21 : decode cX2_at 21 = .ok (.aload_n 0, 1) := by decide +kernel
theorem dX2_at_22 : decode cX2_at 22 = .ok (.iconst 1, 1) := by decide +kernel
theorem dX2_at_23 : decode cX2_at 23 = .ok (.invokevirtual 55, 3) := by decide +kernel
theorem dX2_at_26 : decode cX2_at 26 = .ok (.ireturn, 1) := by decide +kernel
theorem dX2_at_27 : decode cX2_at 27 = .ok (.iload_n 2, 1) := by decide +kernel
theorem dX2_at_28 : decode cX2_at 28 = .ok (.ifCond .lt 12, 3) := by decide +kernel
theorem dX2_at_31 : decode cX2_at 31 = .ok (.iload_n 2, 1) := by decide +kernel
theorem dX2_at_32 : decode cX2_at 32 = .ok (.aload_n 3, 1) := by decide +kernel
theorem dX2_at_33 : decode cX2_at 33 = .ok (.getfield 93, 3) := by decide +kernel
theorem dX2_at_36 : decode cX2_at 36 = .ok (.arraylength, 1) := by decide +kernel
theorem dX2_at_37 : decode cX2_at 37 = .ok (.if_icmp .lt 9, 3) := by decide +kernel
theorem dX2_at_40 : decode cX2_at 40 = .ok (.aload_n 0, 1) := by decide +kernel
theorem dX2_at_41 : decode cX2_at 41 = .ok (.iconst 3, 1) := by decide +kernel
theorem dX2_at_42 : decode cX2_at 42 = .ok (.invokevirtual 55, 3) := by decide +kernel
theorem dX2_at_45 : decode cX2_at 45 = .ok (.ireturn, 1) := by decide +kernel
theorem dX2_at_46 : decode cX2_at 46 = .ok (.aload_n 0, 1) := by decide +kernel
theorem dX2_at_47 : decode cX2_at 47 = .ok (.aload_n 3, 1) := by decide +kernel
theorem dX2_at_48 : decode cX2_at 48 = .ok (.getfield 93, 3) := by decide +kernel
theorem dX2_at_51 : decode cX2_at 51 = .ok (.iload_n 2, 1) := by decide +kernel
theorem dX2_at_52 : decode cX2_at 52 = .ok (.iaload, 1) := by decide +kernel
theorem dX2_at_53 : decode cX2_at 53 = .ok (.invokevirtual 61, 3) := by decide +kernel
theorem dX2_at_56 : decode cX2_at 56 = .ok (.ireturn, 1) := by decide +kernel
set_option maxRecDepth 20000 in
theorem ggX2_pointAt_X2_isNoText : GoodIn wsX2_pointAt wsX2_isNoText := goodIn_r _ [10] (by decide +kernel) (by decide +kernel)
set_option maxRecDepth 20000 in
theorem gX2_pointAt_X2_isNoText : GoodIn wsX2_pointAt (va_wsS RX2 71 yX2_isNoText wsX2_isNoText) := goodIn_app (goodIn_of _ (by decide +kernel)) ggX2_pointAt_X2_isNoText
set_option maxRecDepth 20000 in
theorem ggX2_pointAt_X2_refuse : GoodIn wsX2_pointAt wsX2_refuse := goodIn_r _ [14, 15, 57, 58, 59, 60, 61, 62, 63, 64] (by decide +kernel) (by decide +kernel)
set_option maxRecDepth 20000 in
theorem gX2_pointAt_X2_refuse : GoodIn wsX2_pointAt (wsV RX2 55 RX2 yX2_refuse wsX2_refuse) := goodIn_app (goodIn_of _ (by decide +kernel)) ggX2_pointAt_X2_refuse
set_option maxRecDepth 20000 in
theorem ggX2_pointAt_X2_listPoints : GoodIn wsX2_pointAt wsX2_listPoints := goodIn_r _ [18, 3, 19, 20, 21, 22, 23, 24, 25, 26, 27, 28, 29, 30, 9, 31, 32, 33, 34, 35, 36, 37, 38, 39, 40, 41, 42, 43, 44, 45, 46, 47, 48, 49, 50, 51, 52, 65, 66, 67, 68] (by decide +kernel) (by decide +kernel)
set_option maxRecDepth 20000 in
theorem gX2_pointAt_X2_listPoints : GoodIn wsX2_pointAt (va_wsS RX2 97 yX2_listPoints wsX2_listPoints) := goodIn_app (goodIn_of _ (by decide +kernel)) ggX2_pointAt_X2_listPoints
set_option maxRecDepth 20000 in
theorem ggX2_pointAt_X2_done : GoodIn wsX2_pointAt wsX2_done := goodIn_r _ [56, 15, 57, 58, 59, 60, 61, 62, 63, 64] (by decide +kernel) (by decide +kernel)
set_option maxRecDepth 20000 in
theorem gX2_pointAt_X2_done : GoodIn wsX2_pointAt (wsV RX2 61 RX2 yX2_done wsX2_done) := goodIn_app (goodIn_of _ (by decide +kernel)) ggX2_pointAt_X2_done
theorem dX2_pointAt_0 : decode cX2_pointAt 0 = .ok (.iload_n 1, 1) := by decide +kernel
theorem dX2_pointAt_1 : decode cX2_pointAt 1 = .ok (.invokestatic 71, 3) := by decide +kernel
theorem dX2_pointAt_4 : decode cX2_pointAt 4 = .ok (.ifCond .eq 6, 3) := by decide +kernel
theorem dX2_pointAt_7 : decode cX2_pointAt 7 = .ok (.ldc 47, 2) := by decide +kernel
theorem dX2_pointAt_9 : decode cX2_pointAt 9 = .ok (.ireturn, 1) := by decide +kernel
theorem dX2_pointAt_10 : decode cX2_pointAt 10 = .ok (.aload_n 0, 1) := by decide +kernel
theorem dX2_pointAt_11 : decode cX2_pointAt 11 = .ok (.getfield 11, 3) := by decide +kernel
theorem dX2_pointAt_14 : decode cX2_pointAt 14 = .ok (.iload_n 1, 1) := by decide +kernel
theorem dX2_pointAt_15 : decode cX2_pointAt 15 = .ok (.aaload, 1) := by decide +kernel
theorem dX2_pointAt_16 : decode cX2_pointAt 16 = .ok (.astore_n 3, 1) := by decide +kernel
theorem dX2_pointAt_17 : decode cX2_pointAt 17 = .ok (.aload_n 3, 1) := by decide +kernel
theorem dX2_pointAt_18 : decode cX2_pointAt 18 = .ok (.ifnonnull 9, 3) := by decide +kernel
theorem dX2_pointAt_21 : decode cX2_pointAt 21 = .ok (.aload_n 0, 1) := by decide +kernel
theorem dX2_pointAt_22 : decode cX2_pointAt 22 = .ok (.iconst 1, 1) := by decide +kernel
theorem dX2_pointAt_23 : decode cX2_pointAt 23 = .ok (.invokevirtual 55, 3) := by decide +kernel
theorem dX2_pointAt_26 : decode cX2_pointAt 26 = .ok (.ireturn, 1) := by decide +kernel
theorem dX2_pointAt_27 : decode cX2_pointAt 27 = .ok (.aload_n 3, 1) := by decide +kernel
theorem dX2_pointAt_28 : decode cX2_pointAt 28 = .ok (.getfield 94, 3) := by decide +kernel
theorem dX2_pointAt_31 : decode cX2_pointAt 31 = .ok (.iconst 2, 1) := by decide +kernel
theorem dX2_pointAt_32 : decode cX2_pointAt 32 = .ok (.if_icmp .ne 9, 3) := by decide +kernel
theorem dX2_pointAt_35 : decode cX2_pointAt 35 = .ok (.aload_n 0, 1) := by decide +kernel
theorem dX2_pointAt_36 : decode cX2_pointAt 36 = .ok (.iconst 2, 1) := by decide +kernel
theorem dX2_pointAt_37 : decode cX2_pointAt 37 = .ok (.invokevirtual 55, 3) := by decide +kernel
theorem dX2_pointAt_40 : decode cX2_pointAt 40 = .ok (.ireturn, 1) := by decide +kernel
theorem dX2_pointAt_41 : decode cX2_pointAt 41 = .ok (.aload_n 3, 1) := by decide +kernel
theorem dX2_pointAt_42 : decode cX2_pointAt 42 = .ok (.aload_n 0, 1) := by decide +kernel
theorem dX2_pointAt_43 : decode cX2_pointAt 43 = .ok (.getfield 31, 3) := by decide +kernel
theorem dX2_pointAt_46 : decode cX2_pointAt 46 = .ok (.invokestatic 97, 3) := by decide +kernel
theorem dX2_pointAt_49 : decode cX2_pointAt 49 = .ok (.iload_n 2, 1) := by decide +kernel
theorem dX2_pointAt_50 : decode cX2_pointAt 50 = .ok (.ifCond .lt 26, 3) := by decide +kernel
theorem dX2_pointAt_53 : decode cX2_pointAt 53 = .ok (.iload_n 2, 1) := by decide +kernel
theorem dX2_pointAt_54 : decode cX2_pointAt 54 = .ok (.aload_n 0, 1) := by decide +kernel
theorem dX2_pointAt_55 : decode cX2_pointAt 55 = .ok (.getfield 31, 3) := by decide +kernel
theorem dX2_pointAt_58 : decode cX2_pointAt 58 = .ok (.getfield 48, 3) := by decide +kernel
theorem dX2_pointAt_61 : decode cX2_pointAt 61 = .ok (.if_icmp .ge 15, 3) := by decide +kernel
theorem dX2_pointAt_64 : decode cX2_pointAt 64 = .ok (.iload_n 2, 1) := by decide +kernel
theorem dX2_pointAt_65 : decode cX2_pointAt 65 = .ok (.aload_n 0, 1) := by decide +kernel
theorem dX2_pointAt_66 : decode cX2_pointAt 66 = .ok (.getfield 31, 3) := by decide +kernel
theorem dX2_pointAt_69 : decode cX2_pointAt 69 = .ok (.getfield 74, 3) := by decide +kernel
theorem dX2_pointAt_72 : decode cX2_pointAt 72 = .ok (.arraylength, 1) := by decide +kernel
theorem dX2_pointAt_73 : decode cX2_pointAt 73 = .ok (.if_icmp .lt 9, 3) := by decide +kernel
theorem dX2_pointAt_76 : decode cX2_pointAt 76 = .ok (.aload_n 0, 1) := by decide +kernel
theorem dX2_pointAt_77 : decode cX2_pointAt 77 = .ok (.iconst 3, 1) := by decide +kernel
theorem dX2_pointAt_78 : decode cX2_pointAt 78 = .ok (.invokevirtual 55, 3) := by decide +kernel
theorem dX2_pointAt_81 : decode cX2_pointAt 81 = .ok (.ireturn, 1) := by decide +kernel
theorem dX2_pointAt_82 : decode cX2_pointAt 82 = .ok (.aload_n 0, 1) := by decide +kernel
theorem dX2_pointAt_83 : decode cX2_pointAt 83 = .ok (.aload_n 0, 1) := by decide +kernel
theorem dX2_pointAt_84 : decode cX2_pointAt 84 = .ok (.getfield 31, 3) := by decide +kernel
theorem dX2_pointAt_87 : decode cX2_pointAt 87 = .ok (.getfield 74, 3) := by decide +kernel
theorem dX2_pointAt_90 : decode cX2_pointAt 90 = .ok (.iload_n 2, 1) := by decide +kernel
theorem dX2_pointAt_91 : decode cX2_pointAt 91 = .ok (.iaload, 1) := by decide +kernel
theorem dX2_pointAt_92 : decode cX2_pointAt 92 = .ok (.invokevirtual 61, 3) := by decide +kernel
theorem dX2_pointAt_95 : decode cX2_pointAt 95 = .ok (.ireturn, 1) := by decide +kernel
set_option maxRecDepth 20000 in
theorem ggX2_put_X2_isNoText : GoodIn wsX2_put wsX2_isNoText := goodIn_r _ [8] (by decide +kernel) (by decide +kernel)
set_option maxRecDepth 20000 in
theorem gX2_put_X2_isNoText : GoodIn wsX2_put (va_wsS RX2 71 yX2_isNoText wsX2_isNoText) := goodIn_app (goodIn_of _ (by decide +kernel)) ggX2_put_X2_isNoText
set_option maxRecDepth 20000 in
theorem ggX2_put_X2_refuse : GoodIn wsX2_put wsX2_refuse := goodIn_r _ [12, 13, 22, 23, 24, 25, 26, 27, 28, 29] (by decide +kernel) (by decide +kernel)
set_option maxRecDepth 20000 in
theorem gX2_put_X2_refuse : GoodIn wsX2_put (wsV RX2 55 RX2 yX2_refuse wsX2_refuse) := goodIn_app (goodIn_of _ (by decide +kernel)) ggX2_put_X2_refuse
set_option maxRecDepth 20000 in
theorem ggX2_put_X2_maskOf : GoodIn wsX2_put wsX2_maskOf := goodIn_r _ [16, 17] (by decide +kernel) (by decide +kernel)
set_option maxRecDepth 20000 in
theorem gX2_put_X2_maskOf : GoodIn wsX2_put (va_wsS RX2 82 yX2_maskOf wsX2_maskOf) := goodIn_app (goodIn_of _ (by decide +kernel)) ggX2_put_X2_maskOf
set_option maxRecDepth 20000 in
theorem ggX2_put_X2_done : GoodIn wsX2_put wsX2_done := goodIn_r _ [21, 13, 22, 23, 24, 25, 26, 27, 28, 29] (by decide +kernel) (by decide +kernel)
set_option maxRecDepth 20000 in
theorem gX2_put_X2_done : GoodIn wsX2_put (wsV RX2 61 RX2 yX2_done wsX2_done) := goodIn_app (goodIn_of _ (by decide +kernel)) ggX2_put_X2_done
theorem dX2_put_0 : decode cX2_put 0 = .ok (.iload_n 1, 1) := by decide +kernel
theorem dX2_put_1 : decode cX2_put 1 = .ok (.invokestatic 71, 3) := by decide +kernel
theorem dX2_put_4 : decode cX2_put 4 = .ok (.ifCond .eq 6, 3) := by decide +kernel
theorem dX2_put_7 : decode cX2_put 7 = .ok (.ldc 47, 2) := by decide +kernel
theorem dX2_put_9 : decode cX2_put 9 = .ok (.ireturn, 1) := by decide +kernel
theorem dX2_put_10 : decode cX2_put 10 = .ok (.aload_n 0, 1) := by decide +kernel
theorem dX2_put_11 : decode cX2_put 11 = .ok (.getfield 11, 3) := by decide +kernel
theorem dX2_put_14 : decode cX2_put 14 = .ok (.iload_n 1, 1) := by decide +kernel
theorem dX2_put_15 : decode cX2_put 15 = .ok (.aaload, 1) := by decide +kernel
theorem dX2_put_16 : decode cX2_put 16 = .ok (.astore 4, 2) := by decide +kernel
theorem dX2_put_18 : decode cX2_put 18 = .ok (.aload 4, 2) := by decide +kernel
theorem dX2_put_20 : decode cX2_put 20 = .ok (.ifnonnull 9, 3) := by decide +kernel
theorem dX2_put_23 : decode cX2_put 23 = .ok (.aload_n 0, 1) := by decide +kernel
theorem dX2_put_24 : decode cX2_put 24 = .ok (.iconst 1, 1) := by decide +kernel
theorem dX2_put_25 : decode cX2_put 25 = .ok (.invokevirtual 55, 3) := by decide +kernel
theorem dX2_put_28 : decode cX2_put 28 = .ok (.ireturn, 1) := by decide +kernel
theorem dX2_put_29 : decode cX2_put 29 = .ok (.aload 4, 2) := by decide +kernel
theorem dX2_put_31 : decode cX2_put 31 = .ok (.getfield 94, 3) := by decide +kernel
theorem dX2_put_34 : decode cX2_put 34 = .ok (.iconst 1, 1) := by decide +kernel
theorem dX2_put_35 : decode cX2_put 35 = .ok (.if_icmp .ne 9, 3) := by decide +kernel
theorem dX2_put_38 : decode cX2_put 38 = .ok (.aload_n 0, 1) := by decide +kernel
theorem dX2_put_39 : decode cX2_put 39 = .ok (.iconst 2, 1) := by decide +kernel
theorem dX2_put_40 : decode cX2_put 40 = .ok (.invokevirtual 55, 3) := by decide +kernel
theorem dX2_put_43 : decode cX2_put 43 = .ok (.ireturn, 1) := by decide +kernel
theorem dX2_put_44 : decode cX2_put 44 = .ok (.iload_n 2, 1) := by decide +kernel
theorem dX2_put_45 : decode cX2_put 45 = .ok (.ifCond .lt 13, 3) := by decide +kernel
theorem dX2_put_48 : decode cX2_put 48 = .ok (.iload_n 2, 1) := by decide +kernel
theorem dX2_put_49 : decode cX2_put 49 = .ok (.aload 4, 2) := by decide +kernel
theorem dX2_put_51 : decode cX2_put 51 = .ok (.getfield 93, 3) := by decide +kernel
theorem dX2_put_54 : decode cX2_put 54 = .ok (.arraylength, 1) := by decide +kernel
theorem dX2_put_55 : decode cX2_put 55 = .ok (.if_icmp .lt 9, 3) := by decide +kernel
theorem dX2_put_58 : decode cX2_put 58 = .ok (.aload_n 0, 1) := by decide +kernel
theorem dX2_put_59 : decode cX2_put 59 = .ok (.iconst 3, 1) := by decide +kernel
theorem dX2_put_60 : decode cX2_put 60 = .ok (.invokevirtual 55, 3) := by decide +kernel
theorem dX2_put_63 : decode cX2_put 63 = .ok (.ireturn, 1) := by decide +kernel
theorem dX2_put_64 : decode cX2_put 64 = .ok (.aload 4, 2) := by decide +kernel
theorem dX2_put_66 : decode cX2_put 66 = .ok (.getfield 93, 3) := by decide +kernel
theorem dX2_put_69 : decode cX2_put 69 = .ok (.iload_n 2, 1) := by decide +kernel
theorem dX2_put_70 : decode cX2_put 70 = .ok (.iaload, 1) := by decide +kernel
theorem dX2_put_71 : decode cX2_put 71 = .ok (.istore 5, 2) := by decide +kernel
theorem dX2_put_73 : decode cX2_put 73 = .ok (.aload 4, 2) := by decide +kernel
theorem dX2_put_75 : decode cX2_put 75 = .ok (.getfield 93, 3) := by decide +kernel
theorem dX2_put_78 : decode cX2_put 78 = .ok (.iload_n 2, 1) := by decide +kernel
theorem dX2_put_79 : decode cX2_put 79 = .ok (.iload_n 3, 1) := by decide +kernel
theorem dX2_put_80 : decode cX2_put 80 = .ok (.aload 4, 2) := by decide +kernel
theorem dX2_put_82 : decode cX2_put 82 = .ok (.getfield 94, 3) := by decide +kernel
theorem dX2_put_85 : decode cX2_put 85 = .ok (.invokestatic 82, 3) := by decide +kernel
theorem dX2_put_88 : decode cX2_put 88 = .ok (.iand, 1) := by decide +kernel
theorem dX2_put_89 : decode cX2_put 89 = .ok (.iastore, 1) := by decide +kernel
theorem dX2_put_90 : decode cX2_put 90 = .ok (.aload_n 0, 1) := by decide +kernel
theorem dX2_put_91 : decode cX2_put 91 = .ok (.iload 5, 2) := by decide +kernel
theorem dX2_put_93 : decode cX2_put 93 = .ok (.invokevirtual 61, 3) := by decide +kernel
theorem dX2_put_96 : decode cX2_put 96 = .ok (.ireturn, 1) := by decide +kernel
set_option maxRecDepth 20000 in
theorem ggX2_turnInto_X2_isNoText : GoodIn wsX2_turnInto wsX2_isNoText := goodIn_r _ [9] (by decide +kernel) (by decide +kernel)
set_option maxRecDepth 20000 in
theorem gX2_turnInto_X2_isNoText : GoodIn wsX2_turnInto (va_wsS RX2 71 yX2_isNoText wsX2_isNoText) := goodIn_app (goodIn_of _ (by decide +kernel)) ggX2_turnInto_X2_isNoText
set_option maxRecDepth 20000 in
theorem ggX2_turnInto_X2_isNoWay : GoodIn wsX2_turnInto wsX2_isNoWay := goodIn_r _ [12] (by decide +kernel) (by decide +kernel)
set_option maxRecDepth 20000 in
theorem gX2_turnInto_X2_isNoWay : GoodIn wsX2_turnInto (va_wsS RX2 101 yX2_isNoWay wsX2_isNoWay) := goodIn_app (goodIn_of _ (by decide +kernel)) ggX2_turnInto_X2_isNoWay
set_option maxRecDepth 20000 in
theorem ggX2_turnInto_X2_refuse : GoodIn wsX2_turnInto wsX2_refuse := goodIn_r _ [16, 17, 105, 106, 107, 108, 109, 110, 111, 112] (by decide +kernel) (by decide +kernel)
set_option maxRecDepth 20000 in
theorem gX2_turnInto_X2_refuse : GoodIn wsX2_turnInto (wsV RX2 55 RX2 yX2_refuse wsX2_refuse) := goodIn_app (goodIn_of _ (by decide +kernel)) ggX2_turnInto_X2_refuse
set_option maxRecDepth 20000 in
theorem ggX2_turnInto_X2_listPoints : GoodIn wsX2_turnInto wsX2_listPoints := goodIn_r _ [20, 3, 21, 22, 23, 24, 25, 26, 27, 28, 29, 30, 31, 32, 8, 33, 34, 35, 36, 37, 38, 39, 40, 41, 42, 43, 44, 45, 46, 47, 48, 49, 50, 51, 52, 53, 54, 113, 114, 115, 116] (by decide +kernel) (by decide +kernel)
set_option maxRecDepth 20000 in
theorem gX2_turnInto_X2_listPoints : GoodIn wsX2_turnInto (va_wsS RX2 97 yX2_listPoints wsX2_listPoints) := goodIn_app (goodIn_of _ (by decide +kernel)) ggX2_turnInto_X2_listPoints
set_option maxRecDepth 20000 in
theorem ggX2_turnInto_X2_listUnits : GoodIn wsX2_turnInto wsX2_listUnits := goodIn_r _ [57, 3, 21, 22, 23, 24, 25, 26, 27, 51, 52, 53, 54, 46, 47, 48, 49, 50, 58, 59, 60, 61, 62, 63, 64, 113, 114, 115, 116] (by decide +kernel) (by decide +kernel)
set_option maxRecDepth 20000 in
theorem gX2_turnInto_X2_listUnits : GoodIn wsX2_turnInto (va_wsS RX2 104 yX2_listUnits wsX2_listUnits) := goodIn_app (goodIn_of _ (by decide +kernel)) ggX2_turnInto_X2_listUnits
set_option maxRecDepth 20000 in
theorem ggX2_turnInto_X2_setText : GoodIn wsX2_turnInto wsX2_setText := goodIn_r _ [68, 2, 69, 70, 71, 5, 72, 73, 74, 75, 76, 77, 78, 79, 80, 81, 82, 83, 84, 85, 86, 87, 88, 89, 90, 91, 92, 93, 94, 95, 96, 97, 98, 99, 100, 101, 102, 103, 8, 104, 17, 105, 106, 107, 108, 109, 110, 111, 112, 113, 114, 115, 116] (by decide +kernel) (by decide +kernel)
set_option maxRecDepth 20000 in
theorem gX2_turnInto_X2_setText : GoodIn wsX2_turnInto (wsV RX2 85 RX2 yX2_setText wsX2_setText) := goodIn_app (goodIn_of _ (by decide +kernel)) ggX2_turnInto_X2_setText
theorem dX2_turnInto_0 : decode cX2_turnInto 0 = .ok (.iload_n 1, 1) := by decide +kernel
theorem dX2_turnInto_1 : decode cX2_turnInto 1 = .ok (.invokestatic 71, 3) := by decide +kernel
theorem dX2_turnInto_4 : decode cX2_turnInto 4 = .ok (.ifCond .ne 17, 3) := by decide +kernel
theorem dX2_turnInto_7 : decode cX2_turnInto 7 = .ok (.iload_n 2, 1) := by decide +kernel
theorem dX2_turnInto_8 : decode cX2_turnInto 8 = .ok (.invokestatic 71, 3) := by decide +kernel
theorem dX2_turnInto_11 : decode cX2_turnInto 11 = .ok (.ifCond .ne 10, 3) := by decide +kernel
theorem dX2_turnInto_14 : decode cX2_turnInto 14 = .ok (.iload_n 3, 1) := by decide +kernel
theorem dX2_turnInto_15 : decode cX2_turnInto 15 = .ok (.invokestatic 101, 3) := by decide +kernel
theorem dX2_turnInto_18 : decode cX2_turnInto 18 = .ok (.ifCond .eq 6, 3) := by decide +kernel
theorem dX2_turnInto_21 : decode cX2_turnInto 21 = .ok (.ldc 47, 2) := by decide +kernel
theorem dX2_turnInto_23 : decode cX2_turnInto 23 = .ok (.ireturn, 1) := by decide +kernel
theorem dX2_turnInto_24 : decode cX2_turnInto 24 = .ok (.aload_n 0, 1) := by decide +kernel
theorem dX2_turnInto_25 : decode cX2_turnInto 25 = .ok (.getfield 11, 3) := by decide +kernel
theorem dX2_turnInto_28 : decode cX2_turnInto 28 = .ok (.iload_n 2, 1) := by decide +kernel
theorem dX2_turnInto_29 : decode cX2_turnInto 29 = .ok (.aaload, 1) := by decide +kernel
theorem dX2_turnInto_30 : decode cX2_turnInto 30 = .ok (.astore 4, 2) := by decide +kernel
theorem dX2_turnInto_32 : decode cX2_turnInto 32 = .ok (.aload 4, 2) := by decide +kernel
theorem dX2_turnInto_34 : decode cX2_turnInto 34 = .ok (.ifnonnull 9, 3) := by decide +kernel
theorem dX2_turnInto_37 : decode cX2_turnInto 37 = .ok (.aload_n 0, 1) := by decide +kernel
theorem dX2_turnInto_38 : decode cX2_turnInto 38 = .ok (.iconst 1, 1) := by decide +kernel
theorem dX2_turnInto_39 : decode cX2_turnInto 39 = .ok (.invokevirtual 55, 3) := by decide +kernel
theorem dX2_turnInto_42 : decode cX2_turnInto 42 = .ok (.ireturn, 1) := by decide +kernel
theorem dX2_turnInto_43 : decode cX2_turnInto 43 = .ok (.aload 4, 2) := by decide +kernel
theorem dX2_turnInto_45 : decode cX2_turnInto 45 = .ok (.getfield 94, 3) := by decide +kernel
theorem dX2_turnInto_48 : decode cX2_turnInto 48 = .ok (.iconst 2, 1) := by decide +kernel
theorem dX2_turnInto_49 : decode cX2_turnInto 49 = .ok (.if_icmp .ne 9, 3) := by decide +kernel
theorem dX2_turnInto_52 : decode cX2_turnInto 52 = .ok (.aload_n 0, 1) := by decide +kernel
theorem dX2_turnInto_53 : decode cX2_turnInto 53 = .ok (.iconst 2, 1) := by decide +kernel
theorem dX2_turnInto_54 : decode cX2_turnInto 54 = .ok (.invokevirtual 55, 3) := by decide +kernel
theorem dX2_turnInto_57 : decode cX2_turnInto 57 = .ok (.ireturn, 1) := by decide +kernel
theorem dX2_turnInto_58 : decode cX2_turnInto 58 = .ok (.iload_n 3, 1) := by decide +kernel
theorem dX2_turnInto_59 : decode cX2_turnInto 59 = .ok (.iconst 1, 1) := by decide +kernel
theorem dX2_turnInto_60 : decode cX2_turnInto 60 = .ok (.if_icmp .ne 15, 3) := by decide +kernel
theorem dX2_turnInto_63 : decode cX2_turnInto 63 = .ok (.aload 4, 2) := by decide +kernel
theorem dX2_turnInto_65 : decode cX2_turnInto 65 = .ok (.aload_n 0, 1) := by decide +kernel
theorem dX2_turnInto_66 : decode cX2_turnInto 66 = .ok (.getfield 31, 3) := by decide +kernel
theorem dX2_turnInto_69 : decode cX2_turnInto 69 = .ok (.invokestatic 97, 3) := by decide +kernel
theorem dX2_turnInto_72 : decode cX2_turnInto 72 = .ok (.goto 12, 3) := by decide +kernel
theorem dX2_turnInto_75 : decode cX2_turnInto 75 = .ok (.aload 4, 2) := by decide +kernel
theorem dX2_turnInto_77 : decode cX2_turnInto 77 = .ok (.aload_n 0, 1) := by decide +kernel
theorem dX2_turnInto_78 : decode cX2_turnInto 78 = .ok (.getfield 31, 3) := by decide +kernel
theorem dX2_turnInto_81 : decode cX2_turnInto 81 = .ok (.invokestatic 104, 3) := by decide +kernel
theorem dX2_turnInto_84 : decode cX2_turnInto 84 = .ok (.aload_n 0, 1) := by decide +kernel
theorem dX2_turnInto_85 : decode cX2_turnInto 85 = .ok (.getfield 31, 3) := by decide +kernel
theorem dX2_turnInto_88 : decode cX2_turnInto 88 = .ok (.getfield 48, 3) := by decide +kernel
theorem dX2_turnInto_91 : decode cX2_turnInto 91 = .ok (.bipush 60, 2) := by decide +kernel
theorem dX2_turnInto_93 : decode cX2_turnInto 93 = .ok (.if_icmp .le 10, 3) := by decide +kernel
theorem dX2_turnInto_96 : decode cX2_turnInto 96 = .ok (.aload_n 0, 1) := by decide +kernel
theorem dX2_turnInto_97 : decode cX2_turnInto 97 = .ok (.bipush 6, 2) := by decide +kernel
theorem dX2_turnInto_99 : decode cX2_turnInto 99 = .ok (.invokevirtual 55, 3) := by decide +kernel
theorem dX2_turnInto_102 : decode cX2_turnInto 102 = .ok (.ireturn, 1) := by decide +kernel
theorem dX2_turnInto_103 : decode cX2_turnInto 103 = .ok (.aload_n 0, 1) := by decide +kernel
theorem dX2_turnInto_104 : decode cX2_turnInto 104 = .ok (.iload_n 1, 1) := by decide +kernel
theorem dX2_turnInto_105 : decode cX2_turnInto 105 = .ok (.iload_n 3, 1) := by decide +kernel
theorem dX2_turnInto_106 : decode cX2_turnInto 106 = .ok (.aload_n 0, 1) := by decide +kernel
theorem dX2_turnInto_107 : decode cX2_turnInto 107 = .ok (.getfield 31, 3) := by decide +kernel
theorem dX2_turnInto_110 : decode cX2_turnInto 110 = .ok (.invokevirtual 85, 3) := by decide +kernel
theorem dX2_turnInto_113 : decode cX2_turnInto 113 = .ok (.ireturn, 1) := by decide +kernel
set_option maxRecDepth 20000 in
theorem ggX2_tell_X2_isNoText : GoodIn wsX2_tell wsX2_isNoText := goodIn_r _ [9] (by decide +kernel) (by decide +kernel)
set_option maxRecDepth 20000 in
theorem gX2_tell_X2_isNoText : GoodIn wsX2_tell (va_wsS RX2 71 yX2_isNoText wsX2_isNoText) := goodIn_app (goodIn_of _ (by decide +kernel)) ggX2_tell_X2_isNoText
set_option maxRecDepth 20000 in
theorem ggX2_tell_X2_isNoForm : GoodIn wsX2_tell wsX2_isNoForm := goodIn_r _ [12] (by decide +kernel) (by decide +kernel)
set_option maxRecDepth 20000 in
theorem gX2_tell_X2_isNoForm : GoodIn wsX2_tell (va_wsS RX2 107 yX2_isNoForm wsX2_isNoForm) := goodIn_app (goodIn_of _ (by decide +kernel)) ggX2_tell_X2_isNoForm
set_option maxRecDepth 20000 in
theorem ggX2_tell_X2_refuse : GoodIn wsX2_tell wsX2_refuse := goodIn_r _ [16, 17, 126, 127, 128, 129, 130, 131, 132, 133] (by decide +kernel) (by decide +kernel)
set_option maxRecDepth 20000 in
theorem gX2_tell_X2_refuse : GoodIn wsX2_tell (wsV RX2 55 RX2 yX2_refuse wsX2_refuse) := goodIn_app (goodIn_of _ (by decide +kernel)) ggX2_tell_X2_refuse
set_option maxRecDepth 20000 in
theorem ggX2_tell_X0_empty : GoodIn wsX2_tell wsX0_empty := goodIn_r _ [22, 23, 136, 137] (by decide +kernel) (by decide +kernel)
set_option maxRecDepth 20000 in
theorem gX2_tell_X0_empty : GoodIn wsX2_tell (wsV RX2 68 RX0 yX0_empty wsX0_empty) := goodIn_app (goodIn_of _ (by decide +kernel)) ggX2_tell_X0_empty
set_option maxRecDepth 20000 in
theorem ggX2_tell_X2_listUnits : GoodIn wsX2_tell wsX2_listUnits := goodIn_r _ [26, 3, 27, 18, 19, 20, 21, 22, 23, 28, 29, 30, 31, 32, 33, 34, 35, 36, 37, 38, 39, 40, 41, 42, 43, 134, 135, 136, 137] (by decide +kernel) (by decide +kernel)
set_option maxRecDepth 20000 in
theorem gX2_tell_X2_listUnits : GoodIn wsX2_tell (va_wsS RX2 104 yX2_listUnits wsX2_listUnits) := goodIn_app (goodIn_of _ (by decide +kernel)) ggX2_tell_X2_listUnits
set_option maxRecDepth 20000 in
theorem ggX2_tell_X2_tellUnits : GoodIn wsX2_tell wsX2_tellUnits := goodIn_r _ [46, 47, 48, 49, 33, 34, 21, 35, 23, 36, 136, 137] (by decide +kernel) (by decide +kernel)
set_option maxRecDepth 20000 in
theorem gX2_tell_X2_tellUnits : GoodIn wsX2_tell (va_wsS RX2 110 yX2_tellUnits wsX2_tellUnits) := goodIn_app (goodIn_of _ (by decide +kernel)) ggX2_tell_X2_tellUnits
set_option maxRecDepth 20000 in
theorem ggX2_tell_X2_setText : GoodIn wsX2_tell wsX2_setText := goodIn_r _ [53, 2, 54, 55, 56, 47, 57, 58, 59, 60, 61, 62, 63, 64, 65, 66, 67, 68, 69, 70, 71, 72, 73, 74, 75, 76, 77, 78, 79, 80, 81, 82, 83, 84, 85, 86, 87, 88, 8, 89, 17, 126, 127, 128, 129, 130, 131, 132, 133, 134, 135, 136, 137] (by decide +kernel) (by decide +kernel)
set_option maxRecDepth 20000 in
theorem gX2_tell_X2_setText : GoodIn wsX2_tell (wsV RX2 85 RX2 yX2_setText wsX2_setText) := goodIn_app (goodIn_of _ (by decide +kernel)) ggX2_tell_X2_setText
set_option maxRecDepth 20000 in
theorem ggX2_tell_X2_listPoints : GoodIn wsX2_tell wsX2_listPoints := goodIn_r _ [92, 3, 27, 18, 19, 20, 21, 22, 23, 93, 94, 95, 96, 97, 8, 98, 99, 100, 101, 102, 103, 104, 105, 106, 107, 108, 109, 110, 32, 33, 34, 35, 36, 28, 29, 30, 31, 134, 135, 136, 137] (by decide +kernel) (by decide +kernel)
set_option maxRecDepth 20000 in
theorem gX2_tell_X2_listPoints : GoodIn wsX2_tell (va_wsS RX2 97 yX2_listPoints wsX2_listPoints) := goodIn_app (goodIn_of _ (by decide +kernel)) ggX2_tell_X2_listPoints
set_option maxRecDepth 20000 in
theorem ggX2_tell_X2_firstUntellable : GoodIn wsX2_tell wsX2_firstUntellable := goodIn_r _ [113, 47, 48, 99, 100, 8, 101, 102, 103, 104, 105, 106, 107, 136, 137] (by decide +kernel) (by decide +kernel)
set_option maxRecDepth 20000 in
theorem gX2_tell_X2_firstUntellable : GoodIn wsX2_tell (va_wsS RX2 114 yX2_firstUntellable wsX2_firstUntellable) := goodIn_app (goodIn_of _ (by decide +kernel)) ggX2_tell_X2_firstUntellable
set_option maxRecDepth 20000 in
theorem ggX2_tell_X2_refuseAt : GoodIn wsX2_tell wsX2_refuseAt := goodIn_r _ [117, 118, 13, 14, 15, 8, 16, 17, 126, 127, 128, 129, 130, 131, 132, 133] (by decide +kernel) (by decide +kernel)
set_option maxRecDepth 20000 in
theorem gX2_tell_X2_refuseAt : GoodIn wsX2_tell (wsV RX2 118 RX2 yX2_refuseAt wsX2_refuseAt) := goodIn_app (goodIn_of _ (by decide +kernel)) ggX2_tell_X2_refuseAt
set_option maxRecDepth 20000 in
theorem ggX2_tell_X2_tellPoints : GoodIn wsX2_tell wsX2_tellPoints := goodIn_r _ [121, 47, 48, 49, 33, 34, 21, 35, 23, 36, 122, 123, 8, 124, 110, 125, 136, 137] (by decide +kernel) (by decide +kernel)
set_option maxRecDepth 20000 in
theorem gX2_tell_X2_tellPoints : GoodIn wsX2_tell (va_wsS RX2 121 yX2_tellPoints wsX2_tellPoints) := goodIn_app (goodIn_of _ (by decide +kernel)) ggX2_tell_X2_tellPoints
theorem dX2_tell_0 : decode cX2_tell 0 = .ok (.iload_n 1, 1) := by decide +kernel
theorem dX2_tell_1 : decode cX2_tell 1 = .ok (.invokestatic 71, 3) := by decide +kernel
theorem dX2_tell_4 : decode cX2_tell 4 = .ok (.ifCond .ne 17, 3) := by decide +kernel
theorem dX2_tell_7 : decode cX2_tell 7 = .ok (.iload_n 2, 1) := by decide +kernel
theorem dX2_tell_8 : decode cX2_tell 8 = .ok (.invokestatic 71, 3) := by decide +kernel
theorem dX2_tell_11 : decode cX2_tell 11 = .ok (.ifCond .ne 10, 3) := by decide +kernel
theorem dX2_tell_14 : decode cX2_tell 14 = .ok (.iload_n 3, 1) := by decide +kernel
theorem dX2_tell_15 : decode cX2_tell 15 = .ok (.invokestatic 107, 3) := by decide +kernel
theorem dX2_tell_18 : decode cX2_tell 18 = .ok (.ifCond .eq 6, 3) := by decide +kernel
theorem dX2_tell_21 : decode cX2_tell 21 = .ok (.ldc 47, 2) := by decide +kernel
theorem dX2_tell_23 : decode cX2_tell 23 = .ok (.ireturn, 1) := by decide +kernel
theorem dX2_tell_24 : decode cX2_tell 24 = .ok (.aload_n 0, 1) := by decide +kernel
theorem dX2_tell_25 : decode cX2_tell 25 = .ok (.getfield 11, 3) := by decide +kernel
theorem dX2_tell_28 : decode cX2_tell 28 = .ok (.iload_n 2, 1) := by decide +kernel
theorem dX2_tell_29 : decode cX2_tell 29 = .ok (.aaload, 1) := by decide +kernel
theorem dX2_tell_30 : decode cX2_tell 30 = .ok (.astore 4, 2) := by decide +kernel
theorem dX2_tell_32 : decode cX2_tell 32 = .ok (.aload 4, 2) := by decide +kernel
theorem dX2_tell_34 : decode cX2_tell 34 = .ok (.ifnonnull 9, 3) := by decide +kernel
theorem dX2_tell_37 : decode cX2_tell 37 = .ok (.aload_n 0, 1) := by decide +kernel
theorem dX2_tell_38 : decode cX2_tell 38 = .ok (.iconst 1, 1) := by decide +kernel
theorem dX2_tell_39 : decode cX2_tell 39 = .ok (.invokevirtual 55, 3) := by decide +kernel
theorem dX2_tell_42 : decode cX2_tell 42 = .ok (.ireturn, 1) := by decide +kernel
theorem dX2_tell_43 : decode cX2_tell 43 = .ok (.aload 4, 2) := by decide +kernel
theorem dX2_tell_45 : decode cX2_tell 45 = .ok (.getfield 94, 3) := by decide +kernel
theorem dX2_tell_48 : decode cX2_tell 48 = .ok (.iconst 2, 1) := by decide +kernel
theorem dX2_tell_49 : decode cX2_tell 49 = .ok (.if_icmp .ne 9, 3) := by decide +kernel
theorem dX2_tell_52 : decode cX2_tell 52 = .ok (.aload_n 0, 1) := by decide +kernel
theorem dX2_tell_53 : decode cX2_tell 53 = .ok (.iconst 2, 1) := by decide +kernel
theorem dX2_tell_54 : decode cX2_tell 54 = .ok (.invokevirtual 55, 3) := by decide +kernel
theorem dX2_tell_57 : decode cX2_tell 57 = .ok (.ireturn, 1) := by decide +kernel
theorem dX2_tell_58 : decode cX2_tell 58 = .ok (.aload_n 0, 1) := by decide +kernel
theorem dX2_tell_59 : decode cX2_tell 59 = .ok (.getfield 34, 3) := by decide +kernel
theorem dX2_tell_62 : decode cX2_tell 62 = .ok (.invokevirtual 68, 3) := by decide +kernel
theorem dX2_tell_65 : decode cX2_tell 65 = .ok (.iload_n 3, 1) := by decide +kernel
theorem dX2_tell_66 : decode cX2_tell 66 = .ok (.iconst 1, 1) := by decide +kernel
theorem dX2_tell_67 : decode cX2_tell 67 = .ok (.if_icmp .eq 8, 3) := by decide +kernel
theorem dX2_tell_70 : decode cX2_tell 70 = .ok (.iload_n 3, 1) := by decide +kernel
theorem dX2_tell_71 : decode cX2_tell 71 = .ok (.iconst 2, 1) := by decide +kernel
theorem dX2_tell_72 : decode cX2_tell 72 = .ok (.if_icmp .ne 35, 3) := by decide +kernel
theorem dX2_tell_75 : decode cX2_tell 75 = .ok (.aload 4, 2) := by decide +kernel
theorem dX2_tell_77 : decode cX2_tell 77 = .ok (.aload_n 0, 1) := by decide +kernel
theorem dX2_tell_78 : decode cX2_tell 78 = .ok (.getfield 31, 3) := by decide +kernel
theorem dX2_tell_81 : decode cX2_tell 81 = .ok (.invokestatic 104, 3) := by decide +kernel
theorem dX2_tell_84 : decode cX2_tell 84 = .ok (.aload_n 0, 1) := by decide +kernel
theorem dX2_tell_85 : decode cX2_tell 85 = .ok (.getfield 31, 3) := by decide +kernel
theorem dX2_tell_88 : decode cX2_tell 88 = .ok (.iload_n 3, 1) := by decide +kernel
theorem dX2_tell_89 : decode cX2_tell 89 = .ok (.aload_n 0, 1) := by decide +kernel
theorem dX2_tell_90 : decode cX2_tell 90 = .ok (.getfield 34, 3) := by decide +kernel
theorem dX2_tell_93 : decode cX2_tell 93 = .ok (.invokestatic 110, 3) := by decide +kernel
theorem dX2_tell_96 : decode cX2_tell 96 = .ok (.aload_n 0, 1) := by decide +kernel
theorem dX2_tell_97 : decode cX2_tell 97 = .ok (.iload_n 1, 1) := by decide +kernel
theorem dX2_tell_98 : decode cX2_tell 98 = .ok (.iconst 2, 1) := by decide +kernel
theorem dX2_tell_99 : decode cX2_tell 99 = .ok (.aload_n 0, 1) := by decide +kernel
theorem dX2_tell_100 : decode cX2_tell 100 = .ok (.getfield 34, 3) := by decide +kernel
theorem dX2_tell_103 : decode cX2_tell 103 = .ok (.invokevirtual 85, 3) := by decide +kernel
theorem dX2_tell_106 : decode cX2_tell 106 = .ok (.ireturn, 1) := by decide +kernel
theorem dX2_tell_107 : decode cX2_tell 107 = .ok (.aload 4, 2) := by decide +kernel
theorem dX2_tell_109 : decode cX2_tell 109 = .ok (.aload_n 0, 1) := by decide +kernel
theorem dX2_tell_110 : decode cX2_tell 110 = .ok (.getfield 31, 3) := by decide +kernel
theorem dX2_tell_113 : decode cX2_tell 113 = .ok (.invokestatic 97, 3) := by decide +kernel
theorem dX2_tell_116 : decode cX2_tell 116 = .ok (.aload_n 0, 1) := by decide +kernel
theorem dX2_tell_117 : decode cX2_tell 117 = .ok (.getfield 31, 3) := by decide +kernel
theorem dX2_tell_120 : decode cX2_tell 120 = .ok (.iload_n 3, 1) := by decide +kernel
theorem dX2_tell_121 : decode cX2_tell 121 = .ok (.invokestatic 114, 3) := by decide +kernel
theorem dX2_tell_124 : decode cX2_tell 124 = .ok (.istore 5, 2) := by decide +kernel
theorem dX2_tell_126 : decode cX2_tell 126 = .ok (.iload 5, 2) := by decide +kernel
theorem dX2_tell_128 : decode cX2_tell 128 = .ok (.iconst (-1), 1) := by decide +kernel
theorem dX2_tell_129 : decode cX2_tell 129 = .ok (.if_icmp .eq 10, 3) := by decide +kernel
theorem dX2_tell_132 : decode cX2_tell 132 = .ok (.aload_n 0, 1) := by decide +kernel
theorem dX2_tell_133 : decode cX2_tell 133 = .ok (.iload 5, 2) := by decide +kernel
theorem dX2_tell_135 : decode cX2_tell 135 = .ok (.invokevirtual 118, 3) := by decide +kernel
theorem dX2_tell_138 : decode cX2_tell 138 = .ok (.ireturn, 1) := by decide +kernel
theorem dX2_tell_139 : decode cX2_tell 139 = .ok (.aload_n 0, 1) := by decide +kernel
theorem dX2_tell_140 : decode cX2_tell 140 = .ok (.getfield 31, 3) := by decide +kernel
theorem dX2_tell_143 : decode cX2_tell 143 = .ok (.iload_n 3, 1) := by decide +kernel
theorem dX2_tell_144 : decode cX2_tell 144 = .ok (.aload_n 0, 1) := by decide +kernel
theorem dX2_tell_145 : decode cX2_tell 145 = .ok (.getfield 34, 3) := by decide +kernel
theorem dX2_tell_148 : decode cX2_tell 148 = .ok (.invokestatic 121, 3) := by decide +kernel
theorem dX2_tell_151 : decode cX2_tell 151 = .ok (.aload_n 0, 1) := by decide +kernel
theorem dX2_tell_152 : decode cX2_tell 152 = .ok (.iload_n 1, 1) := by decide +kernel
theorem dX2_tell_153 : decode cX2_tell 153 = .ok (.iconst 2, 1) := by decide +kernel
theorem dX2_tell_154 : decode cX2_tell 154 = .ok (.aload_n 0, 1) := by decide +kernel
theorem dX2_tell_155 : decode cX2_tell 155 = .ok (.getfield 34, 3) := by decide +kernel
theorem dX2_tell_158 : decode cX2_tell 158 = .ok (.invokevirtual 85, 3) := by decide +kernel
theorem dX2_tell_161 : decode cX2_tell 161 = .ok (.ireturn, 1) := by decide +kernel
set_option maxRecDepth 20000 in
theorem ggX2_read_X2_isNoText : GoodIn wsX2_read wsX2_isNoText := goodIn_r _ [10] (by decide +kernel) (by decide +kernel)
set_option maxRecDepth 20000 in
theorem gX2_read_X2_isNoText : GoodIn wsX2_read (va_wsS RX2 71 yX2_isNoText wsX2_isNoText) := goodIn_app (goodIn_of _ (by decide +kernel)) ggX2_read_X2_isNoText
set_option maxRecDepth 20000 in
theorem ggX2_read_X2_isNoForm : GoodIn wsX2_read wsX2_isNoForm := goodIn_r _ [13] (by decide +kernel) (by decide +kernel)
set_option maxRecDepth 20000 in
theorem gX2_read_X2_isNoForm : GoodIn wsX2_read (va_wsS RX2 107 yX2_isNoForm wsX2_isNoForm) := goodIn_app (goodIn_of _ (by decide +kernel)) ggX2_read_X2_isNoForm
set_option maxRecDepth 20000 in
theorem ggX2_read_X2_refuse : GoodIn wsX2_read wsX2_refuse := goodIn_r _ [17, 18, 119, 120, 121, 122, 123, 124, 125, 126] (by decide +kernel) (by decide +kernel)
set_option maxRecDepth 20000 in
theorem gX2_read_X2_refuse : GoodIn wsX2_read (wsV RX2 55 RX2 yX2_refuse wsX2_refuse) := goodIn_app (goodIn_of _ (by decide +kernel)) ggX2_read_X2_refuse
set_option maxRecDepth 20000 in
theorem ggX2_read_X2_readUnits : GoodIn wsX2_read wsX2_readUnits := goodIn_r _ [21, 22, 23, 24, 25, 26, 27, 28, 29, 9, 30, 6, 31, 32, 33, 34, 35, 36, 37, 38, 39, 40, 41, 42, 43, 44, 45, 46, 47, 48, 49, 50, 51, 52, 53, 54, 55, 56, 57, 58, 59, 60, 61, 62, 63, 64, 65, 66, 67, 68, 69, 70, 71, 72, 73, 129, 130] (by decide +kernel) (by decide +kernel)
set_option maxRecDepth 20000 in
theorem gX2_read_X2_readUnits : GoodIn wsX2_read (va_wsS RX2 124 yX2_readUnits wsX2_readUnits) := goodIn_app (goodIn_of _ (by decide +kernel)) ggX2_read_X2_readUnits
set_option maxRecDepth 20000 in
theorem ggX2_read_X2_refuseAt : GoodIn wsX2_read wsX2_refuseAt := goodIn_r _ [77, 78, 14, 15, 16, 9, 17, 18, 119, 120, 121, 122, 123, 124, 125, 126] (by decide +kernel) (by decide +kernel)
set_option maxRecDepth 20000 in
theorem gX2_read_X2_refuseAt : GoodIn wsX2_read (wsV RX2 118 RX2 yX2_refuseAt wsX2_refuseAt) := goodIn_app (goodIn_of _ (by decide +kernel)) ggX2_read_X2_refuseAt
set_option maxRecDepth 20000 in
theorem ggX2_read_X2_setText : GoodIn wsX2_read wsX2_setText := goodIn_r _ [82, 2, 83, 84, 85, 6, 86, 87, 88, 89, 90, 91, 92, 93, 94, 95, 96, 97, 98, 99, 100, 101, 102, 103, 104, 105, 106, 107, 108, 109, 110, 111, 112, 113, 114, 115, 116, 117, 9, 118, 18, 119, 120, 121, 122, 123, 124, 125, 126, 127, 128, 129, 130] (by decide +kernel) (by decide +kernel)
set_option maxRecDepth 20000 in
theorem gX2_read_X2_setText : GoodIn wsX2_read (wsV RX2 85 RX2 yX2_setText wsX2_setText) := goodIn_app (goodIn_of _ (by decide +kernel)) ggX2_read_X2_setText
theorem dX2_read_0 : decode cX2_read 0 = .ok (.iload_n 1, 1) := by decide +kernel
theorem dX2_read_1 : decode cX2_read 1 = .ok (.invokestatic 71, 3) := by decide +kernel
theorem dX2_read_4 : decode cX2_read 4 = .ok (.ifCond .ne 17, 3) := by decide +kernel
theorem dX2_read_7 : decode cX2_read 7 = .ok (.iload_n 2, 1) := by decide +kernel
theorem dX2_read_8 : decode cX2_read 8 = .ok (.invokestatic 71, 3) := by decide +kernel
theorem dX2_read_11 : decode cX2_read 11 = .ok (.ifCond .ne 10, 3) := by decide +kernel
theorem dX2_read_14 : decode cX2_read 14 = .ok (.iload_n 3, 1) := by decide +kernel
theorem dX2_read_15 : decode cX2_read 15 = .ok (.invokestatic 107, 3) := by decide +kernel
theorem dX2_read_18 : decode cX2_read 18 = .ok (.ifCond .eq 6, 3) := by decide +kernel
theorem dX2_read_21 : decode cX2_read 21 = .ok (.ldc 47, 2) := by decide +kernel
theorem dX2_read_23 : decode cX2_read 23 = .ok (.ireturn, 1) := by decide +kernel
theorem dX2_read_24 : decode cX2_read 24 = .ok (.aload_n 0, 1) := by decide +kernel
theorem dX2_read_25 : decode cX2_read 25 = .ok (.getfield 11, 3) := by decide +kernel
theorem dX2_read_28 : decode cX2_read 28 = .ok (.iload_n 2, 1) := by decide +kernel
theorem dX2_read_29 : decode cX2_read 29 = .ok (.aaload, 1) := by decide +kernel
theorem dX2_read_30 : decode cX2_read 30 = .ok (.astore 4, 2) := by decide +kernel
theorem dX2_read_32 : decode cX2_read 32 = .ok (.aload 4, 2) := by decide +kernel
theorem dX2_read_34 : decode cX2_read 34 = .ok (.ifnonnull 9, 3) := by decide +kernel
theorem dX2_read_37 : decode cX2_read 37 = .ok (.aload_n 0, 1) := by decide +kernel
theorem dX2_read_38 : decode cX2_read 38 = .ok (.iconst 1, 1) := by decide +kernel
theorem dX2_read_39 : decode cX2_read 39 = .ok (.invokevirtual 55, 3) := by decide +kernel
theorem dX2_read_42 : decode cX2_read 42 = .ok (.ireturn, 1) := by decide +kernel
theorem dX2_read_43 : decode cX2_read 43 = .ok (.aload 4, 2) := by decide +kernel
theorem dX2_read_45 : decode cX2_read 45 = .ok (.getfield 94, 3) := by decide +kernel
theorem dX2_read_48 : decode cX2_read 48 = .ok (.iconst 2, 1) := by decide +kernel
theorem dX2_read_49 : decode cX2_read 49 = .ok (.if_icmp .eq 9, 3) := by decide +kernel
theorem dX2_read_52 : decode cX2_read 52 = .ok (.aload_n 0, 1) := by decide +kernel
theorem dX2_read_53 : decode cX2_read 53 = .ok (.iconst 2, 1) := by decide +kernel
theorem dX2_read_54 : decode cX2_read 54 = .ok (.invokevirtual 55, 3) := by decide +kernel
theorem dX2_read_57 : decode cX2_read 57 = .ok (.ireturn, 1) := by decide +kernel
theorem dX2_read_58 : decode cX2_read 58 = .ok (.aload 4, 2) := by decide +kernel
theorem dX2_read_60 : decode cX2_read 60 = .ok (.getfield 93, 3) := by decide +kernel
theorem dX2_read_63 : decode cX2_read 63 = .ok (.iload_n 3, 1) := by decide +kernel
theorem dX2_read_64 : decode cX2_read 64 = .ok (.aload_n 0, 1) := by decide +kernel
theorem dX2_read_65 : decode cX2_read 65 = .ok (.getfield 31, 3) := by decide +kernel
theorem dX2_read_68 : decode cX2_read 68 = .ok (.invokestatic 124, 3) := by decide +kernel
theorem dX2_read_71 : decode cX2_read 71 = .ok (.istore 5, 2) := by decide +kernel
theorem dX2_read_73 : decode cX2_read 73 = .ok (.iload 5, 2) := by decide +kernel
theorem dX2_read_75 : decode cX2_read 75 = .ok (.iconst (-1), 1) := by decide +kernel
theorem dX2_read_76 : decode cX2_read 76 = .ok (.if_icmp .eq 10, 3) := by decide +kernel
theorem dX2_read_79 : decode cX2_read 79 = .ok (.aload_n 0, 1) := by decide +kernel
theorem dX2_read_80 : decode cX2_read 80 = .ok (.iload 5, 2) := by decide +kernel
theorem dX2_read_82 : decode cX2_read 82 = .ok (.invokevirtual 118, 3) := by decide +kernel
theorem dX2_read_85 : decode cX2_read 85 = .ok (.ireturn, 1) := by decide +kernel
theorem dX2_read_86 : decode cX2_read 86 = .ok (.aload_n 0, 1) := by decide +kernel
theorem dX2_read_87 : decode cX2_read 87 = .ok (.getfield 31, 3) := by decide +kernel
theorem dX2_read_90 : decode cX2_read 90 = .ok (.getfield 48, 3) := by decide +kernel
theorem dX2_read_93 : decode cX2_read 93 = .ok (.bipush 60, 2) := by decide +kernel
theorem dX2_read_95 : decode cX2_read 95 = .ok (.if_icmp .le 10, 3) := by decide +kernel
theorem dX2_read_98 : decode cX2_read 98 = .ok (.aload_n 0, 1) := by decide +kernel
theorem dX2_read_99 : decode cX2_read 99 = .ok (.bipush 6, 2) := by decide +kernel
theorem dX2_read_101 : decode cX2_read 101 = .ok (.invokevirtual 55, 3) := by decide +kernel
theorem dX2_read_104 : decode cX2_read 104 = .ok (.ireturn, 1) := by decide +kernel
theorem dX2_read_105 : decode cX2_read 105 = .ok (.aload_n 0, 1) := by decide +kernel
theorem dX2_read_106 : decode cX2_read 106 = .ok (.iload_n 1, 1) := by decide +kernel
theorem dX2_read_107 : decode cX2_read 107 = .ok (.iconst 0, 1) := by decide +kernel
theorem dX2_read_108 : decode cX2_read 108 = .ok (.aload_n 0, 1) := by decide +kernel
theorem dX2_read_109 : decode cX2_read 109 = .ok (.getfield 31, 3) := by decide +kernel
theorem dX2_read_112 : decode cX2_read 112 = .ok (.invokevirtual 85, 3) := by decide +kernel
theorem dX2_read_115 : decode cX2_read 115 = .ok (.ireturn, 1) := by decide +kernel
set_option maxRecDepth 20000 in
theorem ggX2_cut_X2_isNoText : GoodIn wsX2_cut wsX2_isNoText := goodIn_r _ [9] (by decide +kernel) (by decide +kernel)
set_option maxRecDepth 20000 in
theorem gX2_cut_X2_isNoText : GoodIn wsX2_cut (va_wsS RX2 71 yX2_isNoText wsX2_isNoText) := goodIn_app (goodIn_of _ (by decide +kernel)) ggX2_cut_X2_isNoText
set_option maxRecDepth 20000 in
theorem ggX2_cut_X2_refuse : GoodIn wsX2_cut wsX2_refuse := goodIn_r _ [13, 14, 85, 86, 87, 88, 89, 90, 91, 92] (by decide +kernel) (by decide +kernel)
set_option maxRecDepth 20000 in
theorem gX2_cut_X2_refuse : GoodIn wsX2_cut (wsV RX2 55 RX2 yX2_refuse wsX2_refuse) := goodIn_app (goodIn_of _ (by decide +kernel)) ggX2_cut_X2_refuse
set_option maxRecDepth 20000 in
theorem ggX2_cut_X2_isBeyond : GoodIn wsX2_cut wsX2_isBeyond := goodIn_r _ [17, 4, 93, 94] (by decide +kernel) (by decide +kernel)
set_option maxRecDepth 20000 in
theorem gX2_cut_X2_isBeyond : GoodIn wsX2_cut (va_wsS RX2 128 yX2_isBeyond wsX2_isBeyond) := goodIn_app (goodIn_of _ (by decide +kernel)) ggX2_cut_X2_isBeyond
set_option maxRecDepth 20000 in
theorem ggX2_cut_X2_partsPair : GoodIn wsX2_cut wsX2_partsPair := goodIn_r _ [20, 5, 4, 21, 22, 8, 23, 24, 25, 26, 27, 28, 29, 30, 31, 32, 93, 94] (by decide +kernel) (by decide +kernel)
set_option maxRecDepth 20000 in
theorem gX2_cut_X2_partsPair : GoodIn wsX2_cut (va_wsS RX2 132 yX2_partsPair wsX2_partsPair) := goodIn_app (goodIn_of _ (by decide +kernel)) ggX2_cut_X2_partsPair
set_option maxRecDepth 20000 in
theorem ggX2_cut_X0_empty : GoodIn wsX2_cut wsX0_empty := goodIn_r _ [37, 38, 95, 96] (by decide +kernel) (by decide +kernel)
end
section
set_option maxRecDepth 20000 in
theorem gX2_cut_X0_empty : GoodIn wsX2_cut (wsV RX2 68 RX0 yX0_empty wsX0_empty) := goodIn_app (goodIn_of _ (by decide +kernel)) ggX2_cut_X0_empty
set_option maxRecDepth 20000 in
theorem ggX2_cut_X0_add : GoodIn wsX2_cut wsX0_add := goodIn_r _ [42, 38, 43, 95, 96] (by decide +kernel) (by decide +kernel)
set_option maxRecDepth 20000 in
theorem gX2_cut_X0_add : GoodIn wsX2_cut (wsV RX2 65 RX0 yX0_add wsX0_add) := goodIn_app (goodIn_of _ (by decide +kernel)) ggX2_cut_X0_add
set_option maxRecDepth 20000 in
theorem ggX2_cut_X2_setText : GoodIn wsX2_cut wsX2_setText := goodIn_r _ [47, 2, 48, 49, 50, 51, 52, 53, 54, 55, 56, 57, 58, 59, 60, 61, 62, 63, 64, 65, 66, 67, 68, 69, 70, 71, 72, 73, 74, 75, 76, 77, 78, 79, 80, 81, 82, 83, 8, 84, 14, 85, 86, 87, 88, 89, 90, 91, 92, 93, 94, 95, 96] (by decide +kernel) (by decide +kernel)
set_option maxRecDepth 20000 in
theorem gX2_cut_X2_setText : GoodIn wsX2_cut (wsV RX2 85 RX2 yX2_setText wsX2_setText) := goodIn_app (goodIn_of _ (by decide +kernel)) ggX2_cut_X2_setText
theorem dX2_cut_0 : decode cX2_cut 0 = .ok (.iload_n 1, 1) := by decide +kernel
theorem dX2_cut_1 : decode cX2_cut 1 = .ok (.invokestatic 71, 3) := by decide +kernel
theorem dX2_cut_4 : decode cX2_cut 4 = .ok (.ifCond .ne 10, 3) := by decide +kernel
theorem dX2_cut_7 : decode cX2_cut 7 = .ok (.iload_n 2, 1) := by decide +kernel
theorem dX2_cut_8 : decode cX2_cut 8 = .ok (.invokestatic 71, 3) := by decide +kernel
theorem dX2_cut_11 : decode cX2_cut 11 = .ok (.ifCond .eq 6, 3) := by decide +kernel
theorem dX2_cut_14 : decode cX2_cut 14 = .ok (.ldc 47, 2) := by decide +kernel
theorem dX2_cut_16 : decode cX2_cut 16 = .ok (.ireturn, 1) := by decide +kernel
theorem dX2_cut_17 : decode cX2_cut 17 = .ok (.aload_n 0, 1) := by decide +kernel
theorem dX2_cut_18 : decode cX2_cut 18 = .ok (.getfield 11, 3) := by decide +kernel
theorem dX2_cut_21 : decode cX2_cut 21 = .ok (.iload_n 2, 1) := by decide +kernel
theorem dX2_cut_22 : decode cX2_cut 22 = .ok (.aaload, 1) := by decide +kernel
theorem dX2_cut_23 : decode cX2_cut 23 = .ok (.astore 5, 2) := by decide +kernel
theorem dX2_cut_25 : decode cX2_cut 25 = .ok (.aload 5, 2) := by decide +kernel
theorem dX2_cut_27 : decode cX2_cut 27 = .ok (.ifnonnull 9, 3) := by decide +kernel
theorem dX2_cut_30 : decode cX2_cut 30 = .ok (.aload_n 0, 1) := by decide +kernel
theorem dX2_cut_31 : decode cX2_cut 31 = .ok (.iconst 1, 1) := by decide +kernel
theorem dX2_cut_32 : decode cX2_cut 32 = .ok (.invokevirtual 55, 3) := by decide +kernel
theorem dX2_cut_35 : decode cX2_cut 35 = .ok (.ireturn, 1) := by decide +kernel
theorem dX2_cut_36 : decode cX2_cut 36 = .ok (.iload 4, 2) := by decide +kernel
theorem dX2_cut_38 : decode cX2_cut 38 = .ok (.ifCond .ge 9, 3) := by decide +kernel
theorem dX2_cut_41 : decode cX2_cut 41 = .ok (.aload_n 0, 1) := by decide +kernel
theorem dX2_cut_42 : decode cX2_cut 42 = .ok (.iconst 4, 1) := by decide +kernel
theorem dX2_cut_43 : decode cX2_cut 43 = .ok (.invokevirtual 55, 3) := by decide +kernel
theorem dX2_cut_46 : decode cX2_cut 46 = .ok (.ireturn, 1) := by decide +kernel
theorem dX2_cut_47 : decode cX2_cut 47 = .ok (.aload 5, 2) := by decide +kernel
theorem dX2_cut_49 : decode cX2_cut 49 = .ok (.iload_n 3, 1) := by decide +kernel
theorem dX2_cut_50 : decode cX2_cut 50 = .ok (.iload 4, 2) := by decide +kernel
theorem dX2_cut_52 : decode cX2_cut 52 = .ok (.invokestatic 128, 3) := by decide +kernel
theorem dX2_cut_55 : decode cX2_cut 55 = .ok (.ifCond .eq 9, 3) := by decide +kernel
theorem dX2_cut_58 : decode cX2_cut 58 = .ok (.aload_n 0, 1) := by decide +kernel
theorem dX2_cut_59 : decode cX2_cut 59 = .ok (.iconst 3, 1) := by decide +kernel
theorem dX2_cut_60 : decode cX2_cut 60 = .ok (.invokevirtual 55, 3) := by decide +kernel
theorem dX2_cut_63 : decode cX2_cut 63 = .ok (.ireturn, 1) := by decide +kernel
theorem dX2_cut_64 : decode cX2_cut 64 = .ok (.iload 4, 2) := by decide +kernel
theorem dX2_cut_66 : decode cX2_cut 66 = .ok (.ifCond .le 31, 3) := by decide +kernel
theorem dX2_cut_69 : decode cX2_cut 69 = .ok (.aload 5, 2) := by decide +kernel
theorem dX2_cut_71 : decode cX2_cut 71 = .ok (.iload_n 3, 1) := by decide +kernel
theorem dX2_cut_72 : decode cX2_cut 72 = .ok (.invokestatic 132, 3) := by decide +kernel
theorem dX2_cut_75 : decode cX2_cut 75 = .ok (.ifCond .ne 15, 3) := by decide +kernel
theorem dX2_cut_78 : decode cX2_cut 78 = .ok (.aload 5, 2) := by decide +kernel
theorem dX2_cut_80 : decode cX2_cut 80 = .ok (.iload_n 3, 1) := by decide +kernel
theorem dX2_cut_81 : decode cX2_cut 81 = .ok (.iload 4, 2) := by decide +kernel
theorem dX2_cut_83 : decode cX2_cut 83 = .ok (.iadd, 1) := by decide +kernel
theorem dX2_cut_84 : decode cX2_cut 84 = .ok (.invokestatic 132, 3) := by decide +kernel
theorem dX2_cut_87 : decode cX2_cut 87 = .ok (.ifCond .eq 10, 3) := by decide +kernel
theorem dX2_cut_90 : decode cX2_cut 90 = .ok (.aload_n 0, 1) := by decide +kernel
theorem dX2_cut_91 : decode cX2_cut 91 = .ok (.bipush 7, 2) := by decide +kernel
theorem dX2_cut_93 : decode cX2_cut 93 = .ok (.invokevirtual 55, 3) := by decide +kernel
theorem dX2_cut_96 : decode cX2_cut 96 = .ok (.ireturn, 1) := by decide +kernel
theorem dX2_cut_97 : decode cX2_cut 97 = .ok (.aload_n 0, 1) := by decide +kernel
theorem dX2_cut_98 : decode cX2_cut 98 = .ok (.getfield 31, 3) := by decide +kernel
theorem dX2_cut_101 : decode cX2_cut 101 = .ok (.invokevirtual 68, 3) := by decide +kernel
theorem dX2_cut_104 : decode cX2_cut 104 = .ok (.iload_n 3, 1) := by decide +kernel
theorem dX2_cut_105 : decode cX2_cut 105 = .ok (.istore 6, 2) := by decide +kernel
theorem dX2_cut_107 : decode cX2_cut 107 = .ok (.iload 6, 2) := by decide +kernel
theorem dX2_cut_109 : decode cX2_cut 109 = .ok (.iload_n 3, 1) := by decide +kernel
theorem dX2_cut_110 : decode cX2_cut 110 = .ok (.iload 4, 2) := by decide +kernel
theorem dX2_cut_112 : decode cX2_cut 112 = .ok (.iadd, 1) := by decide +kernel
theorem dX2_cut_113 : decode cX2_cut 113 = .ok (.if_icmp .ge 35, 3) := by decide +kernel
theorem dX2_cut_116 : decode cX2_cut 116 = .ok (.iload 6, 2) := by decide +kernel
theorem dX2_cut_118 : decode cX2_cut 118 = .ok (.aload 5, 2) := by decide +kernel
theorem dX2_cut_120 : decode cX2_cut 120 = .ok (.getfield 93, 3) := by decide +kernel
theorem dX2_cut_123 : decode cX2_cut 123 = .ok (.arraylength, 1) := by decide +kernel
theorem dX2_cut_124 : decode cX2_cut 124 = .ok (.if_icmp .ge 24, 3) := by decide +kernel
theorem dX2_cut_127 : decode cX2_cut 127 = .ok (.aload_n 0, 1) := by decide +kernel
theorem dX2_cut_128 : decode cX2_cut 128 = .ok (.getfield 31, 3) := by decide +kernel
theorem dX2_cut_131 : decode cX2_cut 131 = .ok (.aload 5, 2) := by decide +kernel
theorem dX2_cut_133 : decode cX2_cut 133 = .ok (.getfield 93, 3) := by decide +kernel
theorem dX2_cut_136 : decode cX2_cut 136 = .ok (.iload 6, 2) := by decide +kernel
theorem dX2_cut_138 : decode cX2_cut 138 = .ok (.iaload, 1) := by decide +kernel
theorem dX2_cut_139 : decode cX2_cut 139 = .ok (.invokevirtual 65, 3) := by decide +kernel
theorem dX2_cut_142 : decode cX2_cut 142 = .ok (.iinc 6 1, 3) := by decide +kernel
theorem dX2_cut_145 : decode cX2_cut 145 = .ok (.goto (-38), 3) := by decide +kernel
theorem dX2_cut_148 : decode cX2_cut 148 = .ok (.aload_n 0, 1) := by decide +kernel
theorem dX2_cut_149 : decode cX2_cut 149 = .ok (.iload_n 1, 1) := by decide +kernel
theorem dX2_cut_150 : decode cX2_cut 150 = .ok (.aload 5, 2) := by decide +kernel
theorem dX2_cut_152 : decode cX2_cut 152 = .ok (.getfield 94, 3) := by decide +kernel
theorem dX2_cut_155 : decode cX2_cut 155 = .ok (.aload_n 0, 1) := by decide +kernel
theorem dX2_cut_156 : decode cX2_cut 156 = .ok (.getfield 31, 3) := by decide +kernel
theorem dX2_cut_159 : decode cX2_cut 159 = .ok (.invokevirtual 85, 3) := by decide +kernel
theorem dX2_cut_162 : decode cX2_cut 162 = .ok (.ireturn, 1) := by decide +kernel
set_option maxRecDepth 20000 in
theorem ggX2_join_X2_isNoText : GoodIn wsX2_join wsX2_isNoText := goodIn_r _ [9] (by decide +kernel) (by decide +kernel)
set_option maxRecDepth 20000 in
theorem gX2_join_X2_isNoText : GoodIn wsX2_join (va_wsS RX2 71 yX2_isNoText wsX2_isNoText) := goodIn_app (goodIn_of _ (by decide +kernel)) ggX2_join_X2_isNoText
set_option maxRecDepth 20000 in
theorem ggX2_join_X2_refuse : GoodIn wsX2_join wsX2_refuse := goodIn_r _ [13, 14, 75, 76, 77, 78, 79, 80, 81, 82] (by decide +kernel) (by decide +kernel)
set_option maxRecDepth 20000 in
theorem gX2_join_X2_refuse : GoodIn wsX2_join (wsV RX2 55 RX2 yX2_refuse wsX2_refuse) := goodIn_app (goodIn_of _ (by decide +kernel)) ggX2_join_X2_refuse
set_option maxRecDepth 20000 in
theorem ggX2_join_X1_mostItems : GoodIn wsX2_join wsX1_mostItems := goodIn_r _ [19, 20, 83, 84] (by decide +kernel) (by decide +kernel)
set_option maxRecDepth 20000 in
theorem gX2_join_X1_mostItems : GoodIn wsX2_join (wsV RX2 136 RX1 yX1_mostItems wsX1_mostItems) := goodIn_app (goodIn_of _ (by decide +kernel)) ggX2_join_X1_mostItems
set_option maxRecDepth 20000 in
theorem ggX2_join_X0_empty : GoodIn wsX2_join wsX0_empty := goodIn_r _ [25, 26, 85, 86] (by decide +kernel) (by decide +kernel)
set_option maxRecDepth 20000 in
theorem gX2_join_X0_empty : GoodIn wsX2_join (wsV RX2 68 RX0 yX0_empty wsX0_empty) := goodIn_app (goodIn_of _ (by decide +kernel)) ggX2_join_X0_empty
set_option maxRecDepth 20000 in
theorem ggX2_join_X0_addAll : GoodIn wsX2_join wsX0_addAll := goodIn_r _ [30, 31, 32, 33, 24, 34, 26, 35, 85, 86] (by decide +kernel) (by decide +kernel)
set_option maxRecDepth 20000 in
theorem gX2_join_X0_addAll : GoodIn wsX2_join (wsV RX2 140 RX0 yX0_addAll wsX0_addAll) := goodIn_app (goodIn_of _ (by decide +kernel)) ggX2_join_X0_addAll
set_option maxRecDepth 20000 in
theorem ggX2_join_X2_setText : GoodIn wsX2_join wsX2_setText := goodIn_r _ [39, 2, 40, 41, 18, 42, 43, 44, 45, 46, 47, 48, 20, 49, 50, 51, 52, 53, 54, 55, 56, 57, 58, 59, 60, 61, 62, 63, 64, 65, 66, 67, 68, 69, 70, 71, 72, 73, 8, 74, 14, 75, 76, 77, 78, 79, 80, 81, 82, 83, 84, 85, 86] (by decide +kernel) (by decide +kernel)
set_option maxRecDepth 20000 in
theorem gX2_join_X2_setText : GoodIn wsX2_join (wsV RX2 85 RX2 yX2_setText wsX2_setText) := goodIn_app (goodIn_of _ (by decide +kernel)) ggX2_join_X2_setText
theorem dX2_join_0 : decode cX2_join 0 = .ok (.iload_n 1, 1) := by decide +kernel
theorem dX2_join_1 : decode cX2_join 1 = .ok (.invokestatic 71, 3) := by decide +kernel
theorem dX2_join_4 : decode cX2_join 4 = .ok (.ifCond .ne 17, 3) := by decide +kernel
theorem dX2_join_7 : decode cX2_join 7 = .ok (.iload_n 2, 1) := by decide +kernel
theorem dX2_join_8 : decode cX2_join 8 = .ok (.invokestatic 71, 3) := by decide +kernel
theorem dX2_join_11 : decode cX2_join 11 = .ok (.ifCond .ne 10, 3) := by decide +kernel
theorem dX2_join_14 : decode cX2_join 14 = .ok (.iload_n 3, 1) := by decide +kernel
theorem dX2_join_15 : decode cX2_join 15 = .ok (.invokestatic 71, 3) := by decide +kernel
theorem dX2_join_18 : decode cX2_join 18 = .ok (.ifCond .eq 6, 3) := by decide +kernel
theorem dX2_join_21 : decode cX2_join 21 = .ok (.ldc 47, 2) := by decide +kernel
theorem dX2_join_23 : decode cX2_join 23 = .ok (.ireturn, 1) := by decide +kernel
theorem dX2_join_24 : decode cX2_join 24 = .ok (.aload_n 0, 1) := by decide +kernel
theorem dX2_join_25 : decode cX2_join 25 = .ok (.getfield 11, 3) := by decide +kernel
theorem dX2_join_28 : decode cX2_join 28 = .ok (.iload_n 2, 1) := by decide +kernel
theorem dX2_join_29 : decode cX2_join 29 = .ok (.aaload, 1) := by decide +kernel
theorem dX2_join_30 : decode cX2_join 30 = .ok (.astore 4, 2) := by decide +kernel
theorem dX2_join_32 : decode cX2_join 32 = .ok (.aload_n 0, 1) := by decide +kernel
theorem dX2_join_33 : decode cX2_join 33 = .ok (.getfield 11, 3) := by decide +kernel
theorem dX2_join_36 : decode cX2_join 36 = .ok (.iload_n 3, 1) := by decide +kernel
theorem dX2_join_37 : decode cX2_join 37 = .ok (.aaload, 1) := by decide +kernel
theorem dX2_join_38 : decode cX2_join 38 = .ok (.astore 5, 2) := by decide +kernel
theorem dX2_join_40 : decode cX2_join 40 = .ok (.aload 4, 2) := by decide +kernel
theorem dX2_join_42 : decode cX2_join 42 = .ok (.ifnull 8, 3) := by decide +kernel
theorem dX2_join_45 : decode cX2_join 45 = .ok (.aload 5, 2) := by decide +kernel
theorem dX2_join_47 : decode cX2_join 47 = .ok (.ifnonnull 9, 3) := by decide +kernel
theorem dX2_join_50 : decode cX2_join 50 = .ok (.aload_n 0, 1) := by decide +kernel
theorem dX2_join_51 : decode cX2_join 51 = .ok (.iconst 1, 1) := by decide +kernel
theorem dX2_join_52 : decode cX2_join 52 = .ok (.invokevirtual 55, 3) := by decide +kernel
theorem dX2_join_55 : decode cX2_join 55 = .ok (.ireturn, 1) := by decide +kernel
theorem dX2_join_56 : decode cX2_join 56 = .ok (.aload 4, 2) := by decide +kernel
theorem dX2_join_58 : decode cX2_join 58 = .ok (.getfield 94, 3) := by decide +kernel
theorem dX2_join_61 : decode cX2_join 61 = .ok (.aload 5, 2) := by decide +kernel
theorem dX2_join_63 : decode cX2_join 63 = .ok (.getfield 94, 3) := by decide +kernel
theorem dX2_join_66 : decode cX2_join 66 = .ok (.if_icmp .eq 9, 3) := by decide +kernel
theorem dX2_join_69 : decode cX2_join 69 = .ok (.aload_n 0, 1) := by decide +kernel
theorem dX2_join_70 : decode cX2_join 70 = .ok (.iconst 2, 1) := by decide +kernel
theorem dX2_join_71 : decode cX2_join 71 = .ok (.invokevirtual 55, 3) := by decide +kernel
theorem dX2_join_74 : decode cX2_join 74 = .ok (.ireturn, 1) := by decide +kernel
theorem dX2_join_75 : decode cX2_join 75 = .ok (.aload 4, 2) := by decide +kernel
theorem dX2_join_77 : decode cX2_join 77 = .ok (.getfield 93, 3) := by decide +kernel
theorem dX2_join_80 : decode cX2_join 80 = .ok (.arraylength, 1) := by decide +kernel
theorem dX2_join_81 : decode cX2_join 81 = .ok (.aload 5, 2) := by decide +kernel
theorem dX2_join_83 : decode cX2_join 83 = .ok (.getfield 93, 3) := by decide +kernel
theorem dX2_join_86 : decode cX2_join 86 = .ok (.arraylength, 1) := by decide +kernel
theorem dX2_join_87 : decode cX2_join 87 = .ok (.iadd, 1) := by decide +kernel
theorem dX2_join_88 : decode cX2_join 88 = .ok (.aload 4, 2) := by decide +kernel
theorem dX2_join_90 : decode cX2_join 90 = .ok (.invokevirtual 136, 3) := by decide +kernel
theorem dX2_join_93 : decode cX2_join 93 = .ok (.if_icmp .le 10, 3) := by decide +kernel
theorem dX2_join_96 : decode cX2_join 96 = .ok (.aload_n 0, 1) := by decide +kernel
theorem dX2_join_97 : decode cX2_join 97 = .ok (.bipush 6, 2) := by decide +kernel
theorem dX2_join_99 : decode cX2_join 99 = .ok (.invokevirtual 55, 3) := by decide +kernel
theorem dX2_join_102 : decode cX2_join 102 = .ok (.ireturn, 1) := by decide +kernel
theorem dX2_join_103 : decode cX2_join 103 = .ok (.aload_n 0, 1) := by decide +kernel
theorem dX2_join_104 : decode cX2_join 104 = .ok (.getfield 31, 3) := by decide +kernel
theorem dX2_join_107 : decode cX2_join 107 = .ok (.invokevirtual 68, 3) := by decide +kernel
theorem dX2_join_110 : decode cX2_join 110 = .ok (.aload_n 0, 1) := by decide +kernel
theorem dX2_join_111 : decode cX2_join 111 = .ok (.getfield 31, 3) := by decide +kernel
theorem dX2_join_114 : decode cX2_join 114 = .ok (.aload 4, 2) := by decide +kernel
theorem dX2_join_116 : decode cX2_join 116 = .ok (.getfield 93, 3) := by decide +kernel
theorem dX2_join_119 : decode cX2_join 119 = .ok (.invokevirtual 140, 3) := by decide +kernel
theorem dX2_join_122 : decode cX2_join 122 = .ok (.aload_n 0, 1) := by decide +kernel
theorem dX2_join_123 : decode cX2_join 123 = .ok (.getfield 31, 3) := by decide +kernel
theorem dX2_join_126 : decode cX2_join 126 = .ok (.aload 5, 2) := by decide +kernel
theorem dX2_join_128 : decode cX2_join 128 = .ok (.getfield 93, 3) := by decide +kernel
theorem dX2_join_131 : decode cX2_join 131 = .ok (.invokevirtual 140, 3) := by decide +kernel
theorem dX2_join_134 : decode cX2_join 134 = .ok (.aload_n 0, 1) := by decide +kernel
theorem dX2_join_135 : decode cX2_join 135 = .ok (.iload_n 1, 1) := by decide +kernel
theorem dX2_join_136 : decode cX2_join 136 = .ok (.aload 4, 2) := by decide +kernel
theorem dX2_join_138 : decode cX2_join 138 = .ok (.getfield 94, 3) := by decide +kernel
theorem dX2_join_141 : decode cX2_join 141 = .ok (.aload_n 0, 1) := by decide +kernel
theorem dX2_join_142 : decode cX2_join 142 = .ok (.getfield 31, 3) := by decide +kernel
theorem dX2_join_145 : decode cX2_join 145 = .ok (.invokevirtual 85, 3) := by decide +kernel
theorem dX2_join_148 : decode cX2_join 148 = .ok (.ireturn, 1) := by decide +kernel
set_option maxRecDepth 20000 in
theorem ggX2_back_X2_isNoText : GoodIn wsX2_back wsX2_isNoText := goodIn_r _ [11] (by decide +kernel) (by decide +kernel)
set_option maxRecDepth 20000 in
theorem gX2_back_X2_isNoText : GoodIn wsX2_back (va_wsS RX2 71 yX2_isNoText wsX2_isNoText) := goodIn_app (goodIn_of _ (by decide +kernel)) ggX2_back_X2_isNoText
set_option maxRecDepth 20000 in
theorem ggX2_back_X2_refuse : GoodIn wsX2_back wsX2_refuse := goodIn_r _ [15, 16, 102, 103, 104, 105, 106, 107, 108, 109] (by decide +kernel) (by decide +kernel)
set_option maxRecDepth 20000 in
theorem gX2_back_X2_refuse : GoodIn wsX2_back (wsV RX2 55 RX2 yX2_refuse wsX2_refuse) := goodIn_app (goodIn_of _ (by decide +kernel)) ggX2_back_X2_refuse
set_option maxRecDepth 20000 in
theorem ggX2_back_X2_listPoints : GoodIn wsX2_back wsX2_listPoints := goodIn_r _ [19, 7, 20, 21, 22, 23, 24, 25, 26, 27, 28, 29, 30, 31, 10, 32, 33, 34, 35, 36, 37, 38, 39, 40, 41, 42, 43, 44, 45, 46, 47, 48, 49, 50, 51, 52, 53, 112, 113, 110, 111] (by decide +kernel) (by decide +kernel)
set_option maxRecDepth 20000 in
theorem gX2_back_X2_listPoints : GoodIn wsX2_back (va_wsS RX2 97 yX2_listPoints wsX2_listPoints) := goodIn_app (goodIn_of _ (by decide +kernel)) ggX2_back_X2_listPoints
set_option maxRecDepth 20000 in
theorem ggX2_back_X0_empty : GoodIn wsX2_back wsX0_empty := goodIn_r _ [25, 26, 110, 111] (by decide +kernel) (by decide +kernel)
set_option maxRecDepth 20000 in
theorem gX2_back_X0_empty : GoodIn wsX2_back (wsV RX2 68 RX0 yX0_empty wsX0_empty) := goodIn_app (goodIn_of _ (by decide +kernel)) ggX2_back_X0_empty
set_option maxRecDepth 20000 in
theorem ggX2_back_X0_addUnitsOf : GoodIn wsX2_back wsX0_addUnitsOf := goodIn_r _ [57, 58, 59, 60, 45, 46, 47, 24, 48, 26, 49, 110, 111] (by decide +kernel) (by decide +kernel)
set_option maxRecDepth 20000 in
theorem gX2_back_X0_addUnitsOf : GoodIn wsX2_back (wsV RX2 58 RX0 yX0_addUnitsOf wsX0_addUnitsOf) := goodIn_app (goodIn_of _ (by decide +kernel)) ggX2_back_X0_addUnitsOf
set_option maxRecDepth 20000 in
theorem ggX2_back_X0_add : GoodIn wsX2_back wsX0_add := goodIn_r _ [48, 26, 49, 110, 111] (by decide +kernel) (by decide +kernel)
set_option maxRecDepth 20000 in
theorem gX2_back_X0_add : GoodIn wsX2_back (wsV RX2 65 RX0 yX0_add wsX0_add) := goodIn_app (goodIn_of _ (by decide +kernel)) ggX2_back_X0_add
set_option maxRecDepth 20000 in
theorem ggX2_back_X2_setText : GoodIn wsX2_back wsX2_setText := goodIn_r _ [65, 2, 66, 67, 68, 5, 69, 70, 71, 72, 73, 74, 75, 76, 77, 78, 79, 80, 81, 82, 83, 84, 85, 86, 87, 88, 89, 90, 91, 92, 93, 94, 95, 96, 97, 98, 99, 100, 10, 101, 16, 102, 103, 104, 105, 106, 107, 108, 109, 112, 113, 110, 111] (by decide +kernel) (by decide +kernel)
set_option maxRecDepth 20000 in
theorem gX2_back_X2_setText : GoodIn wsX2_back (wsV RX2 85 RX2 yX2_setText wsX2_setText) := goodIn_app (goodIn_of _ (by decide +kernel)) ggX2_back_X2_setText
theorem dX2_back_0 : decode cX2_back 0 = .ok (.iload_n 1, 1) := by decide +kernel
theorem dX2_back_1 : decode cX2_back 1 = .ok (.invokestatic 71, 3) := by decide +kernel
theorem dX2_back_4 : decode cX2_back 4 = .ok (.ifCond .ne 10, 3) := by decide +kernel
theorem dX2_back_7 : decode cX2_back 7 = .ok (.iload_n 2, 1) := by decide +kernel
theorem dX2_back_8 : decode cX2_back 8 = .ok (.invokestatic 71, 3) := by decide +kernel
theorem dX2_back_11 : decode cX2_back 11 = .ok (.ifCond .eq 6, 3) := by decide +kernel
theorem dX2_back_14 : decode cX2_back 14 = .ok (.ldc 47, 2) := by decide +kernel
theorem dX2_back_16 : decode cX2_back 16 = .ok (.ireturn, 1) := by decide +kernel
theorem dX2_back_17 : decode cX2_back 17 = .ok (.aload_n 0, 1) := by decide +kernel
theorem dX2_back_18 : decode cX2_back 18 = .ok (.getfield 11, 3) := by decide +kernel
theorem dX2_back_21 : decode cX2_back 21 = .ok (.iload_n 2, 1) := by decide +kernel
theorem dX2_back_22 : decode cX2_back 22 = .ok (.aaload, 1) := by decide +kernel
theorem dX2_back_23 : decode cX2_back 23 = .ok (.astore_n 3, 1) := by decide +kernel
theorem dX2_back_24 : decode cX2_back 24 = .ok (.aload_n 3, 1) := by decide +kernel
theorem dX2_back_25 : decode cX2_back 25 = .ok (.ifnonnull 9, 3) := by decide +kernel
theorem dX2_back_28 : decode cX2_back 28 = .ok (.aload_n 0, 1) := by decide +kernel
theorem dX2_back_29 : decode cX2_back 29 = .ok (.iconst 1, 1) := by decide +kernel
theorem dX2_back_30 : decode cX2_back 30 = .ok (.invokevirtual 55, 3) := by decide +kernel
theorem dX2_back_33 : decode cX2_back 33 = .ok (.ireturn, 1) := by decide +kernel
theorem dX2_back_34 : decode cX2_back 34 = .ok (.aload_n 3, 1) := by decide +kernel
theorem dX2_back_35 : decode cX2_back 35 = .ok (.aload_n 0, 1) := by decide +kernel
theorem dX2_back_36 : decode cX2_back 36 = .ok (.getfield 31, 3) := by decide +kernel
theorem dX2_back_39 : decode cX2_back 39 = .ok (.invokestatic 97, 3) := by decide +kernel
theorem dX2_back_42 : decode cX2_back 42 = .ok (.aload_n 0, 1) := by decide +kernel
theorem dX2_back_43 : decode cX2_back 43 = .ok (.getfield 34, 3) := by decide +kernel
theorem dX2_back_46 : decode cX2_back 46 = .ok (.invokevirtual 68, 3) := by decide +kernel
theorem dX2_back_49 : decode cX2_back 49 = .ok (.aload_n 0, 1) := by decide +kernel
theorem dX2_back_50 : decode cX2_back 50 = .ok (.getfield 31, 3) := by decide +kernel
theorem dX2_back_53 : decode cX2_back 53 = .ok (.getfield 48, 3) := by decide +kernel
theorem dX2_back_56 : decode cX2_back 56 = .ok (.iconst 1, 1) := by decide +kernel
theorem dX2_back_57 : decode cX2_back 57 = .ok (.isub, 1) := by decide +kernel
theorem dX2_back_58 : decode cX2_back 58 = .ok (.istore 4, 2) := by decide +kernel
theorem dX2_back_60 : decode cX2_back 60 = .ok (.iload 4, 2) := by decide +kernel
theorem dX2_back_62 : decode cX2_back 62 = .ok (.ifCond .lt 66, 3) := by decide +kernel
theorem dX2_back_65 : decode cX2_back 65 = .ok (.iload 4, 2) := by decide +kernel
theorem dX2_back_67 : decode cX2_back 67 = .ok (.aload_n 0, 1) := by decide +kernel
theorem dX2_back_68 : decode cX2_back 68 = .ok (.getfield 31, 3) := by decide +kernel
theorem dX2_back_71 : decode cX2_back 71 = .ok (.getfield 74, 3) := by decide +kernel
theorem dX2_back_74 : decode cX2_back 74 = .ok (.arraylength, 1) := by decide +kernel
theorem dX2_back_75 : decode cX2_back 75 = .ok (.if_icmp .ge 53, 3) := by decide +kernel
theorem dX2_back_78 : decode cX2_back 78 = .ok (.aload_n 3, 1) := by decide +kernel
theorem dX2_back_79 : decode cX2_back 79 = .ok (.getfield 94, 3) := by decide +kernel
theorem dX2_back_82 : decode cX2_back 82 = .ok (.ifCond .ne 23, 3) := by decide +kernel
theorem dX2_back_85 : decode cX2_back 85 = .ok (.aload_n 0, 1) := by decide +kernel
theorem dX2_back_86 : decode cX2_back 86 = .ok (.getfield 34, 3) := by decide +kernel
theorem dX2_back_89 : decode cX2_back 89 = .ok (.aload_n 0, 1) := by decide +kernel
theorem dX2_back_90 : decode cX2_back 90 = .ok (.getfield 31, 3) := by decide +kernel
theorem dX2_back_93 : decode cX2_back 93 = .ok (.getfield 74, 3) := by decide +kernel
theorem dX2_back_96 : decode cX2_back 96 = .ok (.iload 4, 2) := by decide +kernel
theorem dX2_back_98 : decode cX2_back 98 = .ok (.iaload, 1) := by decide +kernel
theorem dX2_back_99 : decode cX2_back 99 = .ok (.invokevirtual 58, 3) := by decide +kernel
theorem dX2_back_102 : decode cX2_back 102 = .ok (.goto 20, 3) := by decide +kernel
theorem dX2_back_105 : decode cX2_back 105 = .ok (.aload_n 0, 1) := by decide +kernel
theorem dX2_back_106 : decode cX2_back 106 = .ok (.getfield 34, 3) := by decide +kernel
theorem dX2_back_109 : decode cX2_back 109 = .ok (.aload_n 0, 1) := by decide +kernel
theorem dX2_back_110 : decode cX2_back 110 = .ok (.getfield 31, 3) := by decide +kernel
theorem dX2_back_113 : decode cX2_back 113 = .ok (.getfield 74, 3) := by decide +kernel
theorem dX2_back_116 : decode cX2_back 116 = .ok (.iload 4, 2) := by decide +kernel
theorem dX2_back_118 : decode cX2_back 118 = .ok (.iaload, 1) := by decide +kernel
theorem dX2_back_119 : decode cX2_back 119 = .ok (.invokevirtual 65, 3) := by decide +kernel
theorem dX2_back_122 : decode cX2_back 122 = .ok (.iinc 4 (-1), 3) := by decide +kernel
theorem dX2_back_125 : decode cX2_back 125 = .ok (.goto (-65), 3) := by decide +kernel
theorem dX2_back_128 : decode cX2_back 128 = .ok (.aload_n 0, 1) := by decide +kernel
theorem dX2_back_129 : decode cX2_back 129 = .ok (.iload_n 1, 1) := by decide +kernel
theorem dX2_back_130 : decode cX2_back 130 = .ok (.aload_n 3, 1) := by decide +kernel
theorem dX2_back_131 : decode cX2_back 131 = .ok (.getfield 94, 3) := by decide +kernel
theorem dX2_back_134 : decode cX2_back 134 = .ok (.aload_n 0, 1) := by decide +kernel
theorem dX2_back_135 : decode cX2_back 135 = .ok (.getfield 34, 3) := by decide +kernel
theorem dX2_back_138 : decode cX2_back 138 = .ok (.invokevirtual 85, 3) := by decide +kernel
theorem dX2_back_141 : decode cX2_back 141 = .ok (.ireturn, 1) := by decide +kernel
set_option maxRecDepth 20000 in
theorem ggX2_copy_X2_isNoText : GoodIn wsX2_copy wsX2_isNoText := goodIn_r _ [12] (by decide +kernel) (by decide +kernel)
set_option maxRecDepth 20000 in
theorem gX2_copy_X2_isNoText : GoodIn wsX2_copy (va_wsS RX2 71 yX2_isNoText wsX2_isNoText) := goodIn_app (goodIn_of _ (by decide +kernel)) ggX2_copy_X2_isNoText
set_option maxRecDepth 20000 in
theorem ggX2_copy_X2_refuse : GoodIn wsX2_copy wsX2_refuse := goodIn_r _ [16, 17, 25, 26, 27, 28, 29, 30, 31, 32] (by decide +kernel) (by decide +kernel)
set_option maxRecDepth 20000 in
theorem gX2_copy_X2_refuse : GoodIn wsX2_copy (wsV RX2 55 RX2 yX2_refuse wsX2_refuse) := goodIn_app (goodIn_of _ (by decide +kernel)) ggX2_copy_X2_refuse
set_option maxRecDepth 20000 in
theorem ggX2_copy_X2_isBeyond : GoodIn wsX2_copy wsX2_isBeyond := goodIn_r _ [20, 4, 33, 34] (by decide +kernel) (by decide +kernel)
set_option maxRecDepth 20000 in
theorem gX2_copy_X2_isBeyond : GoodIn wsX2_copy (va_wsS RX2 128 yX2_isBeyond wsX2_isBeyond) := goodIn_app (goodIn_of _ (by decide +kernel)) ggX2_copy_X2_isBeyond
set_option maxRecDepth 20000 in
theorem ggX2_copy_X2_done : GoodIn wsX2_copy wsX2_done := goodIn_r _ [24, 17, 25, 26, 27, 28, 29, 30, 31, 32] (by decide +kernel) (by decide +kernel)
set_option maxRecDepth 20000 in
theorem gX2_copy_X2_done : GoodIn wsX2_copy (wsV RX2 61 RX2 yX2_done wsX2_done) := goodIn_app (goodIn_of _ (by decide +kernel)) ggX2_copy_X2_done
theorem dX2_copy_0 : decode cX2_copy 0 = .ok (.iload_n 1, 1) := by decide +kernel
theorem dX2_copy_1 : decode cX2_copy 1 = .ok (.invokestatic 71, 3) := by decide +kernel
theorem dX2_copy_4 : decode cX2_copy 4 = .ok (.ifCond .ne 10, 3) := by decide +kernel
theorem dX2_copy_7 : decode cX2_copy 7 = .ok (.iload_n 3, 1) := by decide +kernel
theorem dX2_copy_8 : decode cX2_copy 8 = .ok (.invokestatic 71, 3) := by decide +kernel
theorem dX2_copy_11 : decode cX2_copy 11 = .ok (.ifCond .eq 6, 3) := by decide +kernel
theorem dX2_copy_14 : decode cX2_copy 14 = .ok (.ldc 47, 2) := by decide +kernel
theorem dX2_copy_16 : decode cX2_copy 16 = .ok (.ireturn, 1) := by decide +kernel
theorem dX2_copy_17 : decode cX2_copy 17 = .ok (.aload_n 0, 1) := by decide +kernel
theorem dX2_copy_18 : decode cX2_copy 18 = .ok (.getfield 11, 3) := by decide +kernel
theorem dX2_copy_21 : decode cX2_copy 21 = .ok (.iload_n 1, 1) := by decide +kernel
theorem dX2_copy_22 : decode cX2_copy 22 = .ok (.aaload, 1) := by decide +kernel
theorem dX2_copy_23 : decode cX2_copy 23 = .ok (.astore 6, 2) := by decide +kernel
theorem dX2_copy_25 : decode cX2_copy 25 = .ok (.aload_n 0, 1) := by decide +kernel
theorem dX2_copy_26 : decode cX2_copy 26 = .ok (.getfield 11, 3) := by decide +kernel
theorem dX2_copy_29 : decode cX2_copy 29 = .ok (.iload_n 3, 1) := by decide +kernel
theorem dX2_copy_30 : decode cX2_copy 30 = .ok (.aaload, 1) := by decide +kernel
theorem dX2_copy_31 : decode cX2_copy 31 = .ok (.astore 7, 2) := by decide +kernel
theorem dX2_copy_33 : decode cX2_copy 33 = .ok (.aload 6, 2) := by decide +kernel
theorem dX2_copy_35 : decode cX2_copy 35 = .ok (.ifnull 8, 3) := by decide +kernel
theorem dX2_copy_38 : decode cX2_copy 38 = .ok (.aload 7, 2) := by decide +kernel
theorem dX2_copy_40 : decode cX2_copy 40 = .ok (.ifnonnull 9, 3) := by decide +kernel
theorem dX2_copy_43 : decode cX2_copy 43 = .ok (.aload_n 0, 1) := by decide +kernel
theorem dX2_copy_44 : decode cX2_copy 44 = .ok (.iconst 1, 1) := by decide +kernel
theorem dX2_copy_45 : decode cX2_copy 45 = .ok (.invokevirtual 55, 3) := by decide +kernel
theorem dX2_copy_48 : decode cX2_copy 48 = .ok (.ireturn, 1) := by decide +kernel
theorem dX2_copy_49 : decode cX2_copy 49 = .ok (.aload 6, 2) := by decide +kernel
theorem dX2_copy_51 : decode cX2_copy 51 = .ok (.getfield 94, 3) := by decide +kernel
theorem dX2_copy_54 : decode cX2_copy 54 = .ok (.iconst 1, 1) := by decide +kernel
theorem dX2_copy_55 : decode cX2_copy 55 = .ok (.if_icmp .eq 16, 3) := by decide +kernel
theorem dX2_copy_58 : decode cX2_copy 58 = .ok (.aload 6, 2) := by decide +kernel
theorem dX2_copy_60 : decode cX2_copy 60 = .ok (.getfield 94, 3) := by decide +kernel
theorem dX2_copy_63 : decode cX2_copy 63 = .ok (.aload 7, 2) := by decide +kernel
theorem dX2_copy_65 : decode cX2_copy 65 = .ok (.getfield 94, 3) := by decide +kernel
theorem dX2_copy_68 : decode cX2_copy 68 = .ok (.if_icmp .eq 9, 3) := by decide +kernel
theorem dX2_copy_71 : decode cX2_copy 71 = .ok (.aload_n 0, 1) := by decide +kernel
theorem dX2_copy_72 : decode cX2_copy 72 = .ok (.iconst 2, 1) := by decide +kernel
theorem dX2_copy_73 : decode cX2_copy 73 = .ok (.invokevirtual 55, 3) := by decide +kernel
theorem dX2_copy_76 : decode cX2_copy 76 = .ok (.ireturn, 1) := by decide +kernel
theorem dX2_copy_77 : decode cX2_copy 77 = .ok (.aload 6, 2) := by decide +kernel
theorem dX2_copy_79 : decode cX2_copy 79 = .ok (.iload_n 2, 1) := by decide +kernel
theorem dX2_copy_80 : decode cX2_copy 80 = .ok (.iload 5, 2) := by decide +kernel
theorem dX2_copy_82 : decode cX2_copy 82 = .ok (.invokestatic 128, 3) := by decide +kernel
theorem dX2_copy_85 : decode cX2_copy 85 = .ok (.ifCond .ne 15, 3) := by decide +kernel
theorem dX2_copy_88 : decode cX2_copy 88 = .ok (.aload 7, 2) := by decide +kernel
theorem dX2_copy_90 : decode cX2_copy 90 = .ok (.iload 4, 2) := by decide +kernel
theorem dX2_copy_92 : decode cX2_copy 92 = .ok (.iload 5, 2) := by decide +kernel
theorem dX2_copy_94 : decode cX2_copy 94 = .ok (.invokestatic 128, 3) := by decide +kernel
theorem dX2_copy_97 : decode cX2_copy 97 = .ok (.ifCond .eq 9, 3) := by decide +kernel
theorem dX2_copy_100 : decode cX2_copy 100 = .ok (.aload_n 0, 1) := by decide +kernel
theorem dX2_copy_101 : decode cX2_copy 101 = .ok (.iconst 3, 1) := by decide +kernel
theorem dX2_copy_102 : decode cX2_copy 102 = .ok (.invokevirtual 55, 3) := by decide +kernel
theorem dX2_copy_105 : decode cX2_copy 105 = .ok (.ireturn, 1) := by decide +kernel
theorem dX2_copy_106 : decode cX2_copy 106 = .ok (.aload 6, 2) := by decide +kernel
theorem dX2_copy_108 : decode cX2_copy 108 = .ok (.getfield 93, 3) := by decide +kernel
theorem dX2_copy_111 : decode cX2_copy 111 = .ok (.iload_n 2, 1) := by decide +kernel
theorem dX2_copy_112 : decode cX2_copy 112 = .ok (.aload 7, 2) := by decide +kernel
theorem dX2_copy_114 : decode cX2_copy 114 = .ok (.getfield 93, 3) := by decide +kernel
theorem dX2_copy_117 : decode cX2_copy 117 = .ok (.iload 4, 2) := by decide +kernel
theorem dX2_copy_119 : decode cX2_copy 119 = .ok (.iload 5, 2) := by decide +kernel
theorem dX2_copy_121 : decode cX2_copy 121 = .ok (.invokestatic 144, 3) := by decide +kernel
theorem dX2_copy_124 : decode cX2_copy 124 = .ok (.aload_n 0, 1) := by decide +kernel
theorem dX2_copy_125 : decode cX2_copy 125 = .ok (.iload 5, 2) := by decide +kernel
theorem dX2_copy_127 : decode cX2_copy 127 = .ok (.invokevirtual 61, 3) := by decide +kernel
theorem dX2_copy_130 : decode cX2_copy 130 = .ok (.ireturn, 1) := by decide +kernel
set_option maxRecDepth 20000 in
theorem ggX2_find_X2_isNoText : GoodIn wsX2_find wsX2_isNoText := goodIn_r _ [8] (by decide +kernel) (by decide +kernel)
set_option maxRecDepth 20000 in
theorem gX2_find_X2_isNoText : GoodIn wsX2_find (va_wsS RX2 71 yX2_isNoText wsX2_isNoText) := goodIn_app (goodIn_of _ (by decide +kernel)) ggX2_find_X2_isNoText
set_option maxRecDepth 20000 in
theorem ggX2_find_X2_refuse : GoodIn wsX2_find wsX2_refuse := goodIn_r _ [12, 13, 39, 40, 41, 42, 43, 44, 45, 46] (by decide +kernel) (by decide +kernel)
set_option maxRecDepth 20000 in
theorem gX2_find_X2_refuse : GoodIn wsX2_find (wsV RX2 55 RX2 yX2_refuse wsX2_refuse) := goodIn_app (goodIn_of _ (by decide +kernel)) ggX2_find_X2_refuse
set_option maxRecDepth 20000 in
theorem ggX2_find_X2_standsAt : GoodIn wsX2_find wsX2_standsAt := goodIn_r _ [16, 4, 17, 18, 7, 19, 20, 21, 22, 3, 23, 24, 25, 26, 27, 28, 29, 30, 31, 32, 33, 34, 47, 48] (by decide +kernel) (by decide +kernel)
set_option maxRecDepth 20000 in
theorem gX2_find_X2_standsAt : GoodIn wsX2_find (va_wsS RX2 150 yX2_standsAt wsX2_standsAt) := goodIn_app (goodIn_of _ (by decide +kernel)) ggX2_find_X2_standsAt
set_option maxRecDepth 20000 in
theorem ggX2_find_X2_done : GoodIn wsX2_find wsX2_done := goodIn_r _ [38, 13, 39, 40, 41, 42, 43, 44, 45, 46] (by decide +kernel) (by decide +kernel)
set_option maxRecDepth 20000 in
theorem gX2_find_X2_done : GoodIn wsX2_find (wsV RX2 61 RX2 yX2_done wsX2_done) := goodIn_app (goodIn_of _ (by decide +kernel)) ggX2_find_X2_done
theorem dX2_find_0 : decode cX2_find 0 = .ok (.iload_n 1, 1) := by decide +kernel
theorem dX2_find_1 : decode cX2_find 1 = .ok (.invokestatic 71, 3) := by decide +kernel
theorem dX2_find_4 : decode cX2_find 4 = .ok (.ifCond .ne 10, 3) := by decide +kernel
theorem dX2_find_7 : decode cX2_find 7 = .ok (.iload_n 2, 1) := by decide +kernel
theorem dX2_find_8 : decode cX2_find 8 = .ok (.invokestatic 71, 3) := by decide +kernel
theorem dX2_find_11 : decode cX2_find 11 = .ok (.ifCond .eq 6, 3) := by decide +kernel
theorem dX2_find_14 : decode cX2_find 14 = .ok (.ldc 47, 2) := by decide +kernel
theorem dX2_find_16 : decode cX2_find 16 = .ok (.ireturn, 1) := by decide +kernel
theorem dX2_find_17 : decode cX2_find 17 = .ok (.aload_n 0, 1) := by decide +kernel
theorem dX2_find_18 : decode cX2_find 18 = .ok (.getfield 11, 3) := by decide +kernel
theorem dX2_find_21 : decode cX2_find 21 = .ok (.iload_n 1, 1) := by decide +kernel
theorem dX2_find_22 : decode cX2_find 22 = .ok (.aaload, 1) := by decide +kernel
theorem dX2_find_23 : decode cX2_find 23 = .ok (.astore 4, 2) := by decide +kernel
theorem dX2_find_25 : decode cX2_find 25 = .ok (.aload_n 0, 1) := by decide +kernel
theorem dX2_find_26 : decode cX2_find 26 = .ok (.getfield 11, 3) := by decide +kernel
theorem dX2_find_29 : decode cX2_find 29 = .ok (.iload_n 2, 1) := by decide +kernel
theorem dX2_find_30 : decode cX2_find 30 = .ok (.aaload, 1) := by decide +kernel
theorem dX2_find_31 : decode cX2_find 31 = .ok (.astore 5, 2) := by decide +kernel
theorem dX2_find_33 : decode cX2_find 33 = .ok (.aload 4, 2) := by decide +kernel
theorem dX2_find_35 : decode cX2_find 35 = .ok (.ifnull 8, 3) := by decide +kernel
theorem dX2_find_38 : decode cX2_find 38 = .ok (.aload 5, 2) := by decide +kernel
theorem dX2_find_40 : decode cX2_find 40 = .ok (.ifnonnull 11, 3) := by decide +kernel
theorem dX2_find_43 : decode cX2_find 43 = .ok (.aload_n 0, 1) := by decide +kernel
theorem dX2_find_44 : decode cX2_find 44 = .ok (.iconst 1, 1) := by decide +kernel
theorem dX2_find_45 : decode cX2_find 45 = .ok (.invokevirtual 55, 3) := by decide +kernel
theorem dX2_find_48 : decode cX2_find 48 = .ok (.pop, 1) := by decide +kernel
theorem dX2_find_49 : decode cX2_find 49 = .ok (.iconst (-1), 1) := by decide +kernel
theorem dX2_find_50 : decode cX2_find 50 = .ok (.ireturn, 1) := by decide +kernel
theorem dX2_find_51 : decode cX2_find 51 = .ok (.aload 4, 2) := by decide +kernel
theorem dX2_find_53 : decode cX2_find 53 = .ok (.getfield 94, 3) := by decide +kernel
theorem dX2_find_56 : decode cX2_find 56 = .ok (.aload 5, 2) := by decide +kernel
theorem dX2_find_58 : decode cX2_find 58 = .ok (.getfield 94, 3) := by decide +kernel
theorem dX2_find_61 : decode cX2_find 61 = .ok (.if_icmp .eq 11, 3) := by decide +kernel
theorem dX2_find_64 : decode cX2_find 64 = .ok (.aload_n 0, 1) := by decide +kernel
theorem dX2_find_65 : decode cX2_find 65 = .ok (.iconst 2, 1) := by decide +kernel
theorem dX2_find_66 : decode cX2_find 66 = .ok (.invokevirtual 55, 3) := by decide +kernel
theorem dX2_find_69 : decode cX2_find 69 = .ok (.pop, 1) := by decide +kernel
theorem dX2_find_70 : decode cX2_find 70 = .ok (.iconst (-1), 1) := by decide +kernel
theorem dX2_find_71 : decode cX2_find 71 = .ok (.ireturn, 1) := by decide +kernel
theorem dX2_find_72 : decode cX2_find 72 = .ok (.aload 4, 2) := by decide +kernel
theorem dX2_find_74 : decode cX2_find 74 = .ok (.getfield 93, 3) := by decide +kernel
theorem dX2_find_77 : decode cX2_find 77 = .ok (.arraylength, 1) := by decide +kernel
theorem dX2_find_78 : decode cX2_find 78 = .ok (.aload 5, 2) := by decide +kernel
theorem dX2_find_80 : decode cX2_find 80 = .ok (.getfield 93, 3) := by decide +kernel
theorem dX2_find_83 : decode cX2_find 83 = .ok (.arraylength, 1) := by decide +kernel
theorem dX2_find_84 : decode cX2_find 84 = .ok (.isub, 1) := by decide +kernel
theorem dX2_find_85 : decode cX2_find 85 = .ok (.istore 6, 2) := by decide +kernel
theorem dX2_find_87 : decode cX2_find 87 = .ok (.iload_n 3, 1) := by decide +kernel
theorem dX2_find_88 : decode cX2_find 88 = .ok (.ifCond .ge 7, 3) := by decide +kernel
theorem dX2_find_91 : decode cX2_find 91 = .ok (.iconst 0, 1) := by decide +kernel
theorem dX2_find_92 : decode cX2_find 92 = .ok (.goto 4, 3) := by decide +kernel
theorem dX2_find_95 : decode cX2_find 95 = .ok (.iload_n 3, 1) := by decide +kernel
theorem dX2_find_96 : decode cX2_find 96 = .ok (.istore 7, 2) := by decide +kernel
theorem dX2_find_98 : decode cX2_find 98 = .ok (.iload 7, 2) := by decide +kernel
theorem dX2_find_100 : decode cX2_find 100 = .ok (.iload 6, 2) := by decide +kernel
theorem dX2_find_102 : decode cX2_find 102 = .ok (.if_icmp .gt 28, 3) := by decide +kernel
theorem dX2_find_105 : decode cX2_find 105 = .ok (.aload 4, 2) := by decide +kernel
theorem dX2_find_107 : decode cX2_find 107 = .ok (.aload 5, 2) := by decide +kernel
theorem dX2_find_109 : decode cX2_find 109 = .ok (.iload 7, 2) := by decide +kernel
theorem dX2_find_111 : decode cX2_find 111 = .ok (.invokestatic 150, 3) := by decide +kernel
theorem dX2_find_114 : decode cX2_find 114 = .ok (.ifCond .eq 10, 3) := by decide +kernel
theorem dX2_find_117 : decode cX2_find 117 = .ok (.aload_n 0, 1) := by decide +kernel
theorem dX2_find_118 : decode cX2_find 118 = .ok (.iload 7, 2) := by decide +kernel
theorem dX2_find_120 : decode cX2_find 120 = .ok (.invokevirtual 61, 3) := by decide +kernel
theorem dX2_find_123 : decode cX2_find 123 = .ok (.ireturn, 1) := by decide +kernel
theorem dX2_find_124 : decode cX2_find 124 = .ok (.iinc 7 1, 3) := by decide +kernel
theorem dX2_find_127 : decode cX2_find 127 = .ok (.goto (-29), 3) := by decide +kernel
theorem dX2_find_130 : decode cX2_find 130 = .ok (.aload_n 0, 1) := by decide +kernel
theorem dX2_find_131 : decode cX2_find 131 = .ok (.iconst (-1), 1) := by decide +kernel
theorem dX2_find_132 : decode cX2_find 132 = .ok (.invokevirtual 61, 3) := by decide +kernel
theorem dX2_find_135 : decode cX2_find 135 = .ok (.ireturn, 1) := by decide +kernel
set_option maxRecDepth 20000 in
theorem ggX2_compare_X2_isNoText : GoodIn wsX2_compare wsX2_isNoText := goodIn_r _ [9] (by decide +kernel) (by decide +kernel)
set_option maxRecDepth 20000 in
theorem gX2_compare_X2_isNoText : GoodIn wsX2_compare (va_wsS RX2 71 yX2_isNoText wsX2_isNoText) := goodIn_app (goodIn_of _ (by decide +kernel)) ggX2_compare_X2_isNoText
set_option maxRecDepth 20000 in
theorem ggX2_compare_X2_isNoWay : GoodIn wsX2_compare wsX2_isNoWay := goodIn_r _ [12] (by decide +kernel) (by decide +kernel)
set_option maxRecDepth 20000 in
theorem gX2_compare_X2_isNoWay : GoodIn wsX2_compare (va_wsS RX2 101 yX2_isNoWay wsX2_isNoWay) := goodIn_app (goodIn_of _ (by decide +kernel)) ggX2_compare_X2_isNoWay
set_option maxRecDepth 20000 in
theorem ggX2_compare_X2_refuse : GoodIn wsX2_compare wsX2_refuse := goodIn_r _ [16, 17, 78, 79, 80, 81, 82, 83, 84, 85] (by decide +kernel) (by decide +kernel)
set_option maxRecDepth 20000 in
theorem gX2_compare_X2_refuse : GoodIn wsX2_compare (wsV RX2 55 RX2 yX2_refuse wsX2_refuse) := goodIn_app (goodIn_of _ (by decide +kernel)) ggX2_compare_X2_refuse
set_option maxRecDepth 20000 in
theorem ggX2_compare_X2_listUnits : GoodIn wsX2_compare wsX2_listUnits := goodIn_r _ [20, 3, 21, 22, 23, 24, 25, 26, 27, 28, 29, 30, 31, 32, 33, 34, 35, 36, 37, 38, 39, 40, 41, 42, 43, 86, 87, 88, 89] (by decide +kernel) (by decide +kernel)
set_option maxRecDepth 20000 in
theorem gX2_compare_X2_listUnits : GoodIn wsX2_compare (va_wsS RX2 104 yX2_listUnits wsX2_listUnits) := goodIn_app (goodIn_of _ (by decide +kernel)) ggX2_compare_X2_listUnits
set_option maxRecDepth 20000 in
theorem ggX2_compare_X2_listPoints : GoodIn wsX2_compare wsX2_listPoints := goodIn_r _ [46, 3, 21, 22, 23, 24, 25, 26, 27, 47, 48, 49, 50, 51, 8, 52, 53, 54, 55, 56, 57, 58, 59, 60, 61, 62, 63, 64, 32, 33, 34, 35, 36, 28, 29, 30, 31, 86, 87, 88, 89] (by decide +kernel) (by decide +kernel)
set_option maxRecDepth 20000 in
theorem gX2_compare_X2_listPoints : GoodIn wsX2_compare (va_wsS RX2 97 yX2_listPoints wsX2_listPoints) := goodIn_app (goodIn_of _ (by decide +kernel)) ggX2_compare_X2_listPoints
set_option maxRecDepth 20000 in
theorem ggX2_compare_X2_order : GoodIn wsX2_compare wsX2_order := goodIn_r _ [67, 68, 69, 70, 71, 72, 73, 88, 89] (by decide +kernel) (by decide +kernel)
set_option maxRecDepth 20000 in
theorem gX2_compare_X2_order : GoodIn wsX2_compare (va_wsS RX2 154 yX2_order wsX2_order) := goodIn_app (goodIn_of _ (by decide +kernel)) ggX2_compare_X2_order
set_option maxRecDepth 20000 in
theorem ggX2_compare_X2_done : GoodIn wsX2_compare wsX2_done := goodIn_r _ [77, 17, 78, 79, 80, 81, 82, 83, 84, 85] (by decide +kernel) (by decide +kernel)
set_option maxRecDepth 20000 in
theorem gX2_compare_X2_done : GoodIn wsX2_compare (wsV RX2 61 RX2 yX2_done wsX2_done) := goodIn_app (goodIn_of _ (by decide +kernel)) ggX2_compare_X2_done
theorem dX2_compare_0 : decode cX2_compare 0 = .ok (.iload_n 1, 1) := by decide +kernel
theorem dX2_compare_1 : decode cX2_compare 1 = .ok (.invokestatic 71, 3) := by decide +kernel
theorem dX2_compare_4 : decode cX2_compare 4 = .ok (.ifCond .ne 17, 3) := by decide +kernel
theorem dX2_compare_7 : decode cX2_compare 7 = .ok (.iload_n 2, 1) := by decide +kernel
theorem dX2_compare_8 : decode cX2_compare 8 = .ok (.invokestatic 71, 3) := by decide +kernel
theorem dX2_compare_11 : decode cX2_compare 11 = .ok (.ifCond .ne 10, 3) := by decide +kernel
theorem dX2_compare_14 : decode cX2_compare 14 = .ok (.iload_n 3, 1) := by decide +kernel
theorem dX2_compare_15 : decode cX2_compare 15 = .ok (.invokestatic 101, 3) := by decide +kernel
theorem dX2_compare_18 : decode cX2_compare 18 = .ok (.ifCond .eq 6, 3) := by decide +kernel
theorem dX2_compare_21 : decode cX2_compare 21 = .ok (.ldc 47, 2) := by decide +kernel
theorem dX2_compare_23 : decode cX2_compare 23 = .ok (.ireturn, 1) := by decide +kernel
theorem dX2_compare_24 : decode cX2_compare 24 = .ok (.aload_n 0, 1) := by decide +kernel
theorem dX2_compare_25 : decode cX2_compare 25 = .ok (.getfield 11, 3) := by decide +kernel
theorem dX2_compare_28 : decode cX2_compare 28 = .ok (.iload_n 1, 1) := by decide +kernel
theorem dX2_compare_29 : decode cX2_compare 29 = .ok (.aaload, 1) := by decide +kernel
theorem dX2_compare_30 : decode cX2_compare 30 = .ok (.astore 4, 2) := by decide +kernel
theorem dX2_compare_32 : decode cX2_compare 32 = .ok (.aload_n 0, 1) := by decide +kernel
theorem dX2_compare_33 : decode cX2_compare 33 = .ok (.getfield 11, 3) := by decide +kernel
theorem dX2_compare_36 : decode cX2_compare 36 = .ok (.iload_n 2, 1) := by decide +kernel
theorem dX2_compare_37 : decode cX2_compare 37 = .ok (.aaload, 1) := by decide +kernel
theorem dX2_compare_38 : decode cX2_compare 38 = .ok (.astore 5, 2) := by decide +kernel
theorem dX2_compare_40 : decode cX2_compare 40 = .ok (.aload 4, 2) := by decide +kernel
theorem dX2_compare_42 : decode cX2_compare 42 = .ok (.ifnull 8, 3) := by decide +kernel
theorem dX2_compare_45 : decode cX2_compare 45 = .ok (.aload 5, 2) := by decide +kernel
theorem dX2_compare_47 : decode cX2_compare 47 = .ok (.ifnonnull 9, 3) := by decide +kernel
theorem dX2_compare_50 : decode cX2_compare 50 = .ok (.aload_n 0, 1) := by decide +kernel
theorem dX2_compare_51 : decode cX2_compare 51 = .ok (.iconst 1, 1) := by decide +kernel
theorem dX2_compare_52 : decode cX2_compare 52 = .ok (.invokevirtual 55, 3) := by decide +kernel
theorem dX2_compare_55 : decode cX2_compare 55 = .ok (.ireturn, 1) := by decide +kernel
theorem dX2_compare_56 : decode cX2_compare 56 = .ok (.aload 4, 2) := by decide +kernel
theorem dX2_compare_58 : decode cX2_compare 58 = .ok (.getfield 94, 3) := by decide +kernel
theorem dX2_compare_61 : decode cX2_compare 61 = .ok (.iconst 2, 1) := by decide +kernel
theorem dX2_compare_62 : decode cX2_compare 62 = .ok (.if_icmp .ne 7, 3) := by decide +kernel
theorem dX2_compare_65 : decode cX2_compare 65 = .ok (.iconst 1, 1) := by decide +kernel
theorem dX2_compare_66 : decode cX2_compare 66 = .ok (.goto 4, 3) := by decide +kernel
theorem dX2_compare_69 : decode cX2_compare 69 = .ok (.iconst 0, 1) := by decide +kernel
theorem dX2_compare_70 : decode cX2_compare 70 = .ok (.aload 5, 2) := by decide +kernel
theorem dX2_compare_72 : decode cX2_compare 72 = .ok (.getfield 94, 3) := by decide +kernel
theorem dX2_compare_75 : decode cX2_compare 75 = .ok (.iconst 2, 1) := by decide +kernel
theorem dX2_compare_76 : decode cX2_compare 76 = .ok (.if_icmp .ne 7, 3) := by decide +kernel
theorem dX2_compare_79 : decode cX2_compare 79 = .ok (.iconst 1, 1) := by decide +kernel
theorem dX2_compare_80 : decode cX2_compare 80 = .ok (.goto 4, 3) := by decide +kernel
theorem dX2_compare_83 : decode cX2_compare 83 = .ok (.iconst 0, 1) := by decide +kernel
theorem dX2_compare_84 : decode cX2_compare 84 = .ok (.if_icmp .eq 9, 3) := by decide +kernel
theorem dX2_compare_87 : decode cX2_compare 87 = .ok (.aload_n 0, 1) := by decide +kernel
theorem dX2_compare_88 : decode cX2_compare 88 = .ok (.iconst 2, 1) := by decide +kernel
theorem dX2_compare_89 : decode cX2_compare 89 = .ok (.invokevirtual 55, 3) := by decide +kernel
theorem dX2_compare_92 : decode cX2_compare 92 = .ok (.ireturn, 1) := by decide +kernel
theorem dX2_compare_93 : decode cX2_compare 93 = .ok (.iload_n 3, 1) := by decide +kernel
theorem dX2_compare_94 : decode cX2_compare 94 = .ok (.ifCond .ne 24, 3) := by decide +kernel
theorem dX2_compare_97 : decode cX2_compare 97 = .ok (.aload 4, 2) := by decide +kernel
theorem dX2_compare_99 : decode cX2_compare 99 = .ok (.aload_n 0, 1) := by decide +kernel
theorem dX2_compare_100 : decode cX2_compare 100 = .ok (.getfield 31, 3) := by decide +kernel
theorem dX2_compare_103 : decode cX2_compare 103 = .ok (.invokestatic 104, 3) := by decide +kernel
theorem dX2_compare_106 : decode cX2_compare 106 = .ok (.aload 5, 2) := by decide +kernel
theorem dX2_compare_108 : decode cX2_compare 108 = .ok (.aload_n 0, 1) := by decide +kernel
theorem dX2_compare_109 : decode cX2_compare 109 = .ok (.getfield 34, 3) := by decide +kernel
theorem dX2_compare_112 : decode cX2_compare 112 = .ok (.invokestatic 104, 3) := by decide +kernel
theorem dX2_compare_115 : decode cX2_compare 115 = .ok (.goto 21, 3) := by decide +kernel
theorem dX2_compare_118 : decode cX2_compare 118 = .ok (.aload 4, 2) := by decide +kernel
theorem dX2_compare_120 : decode cX2_compare 120 = .ok (.aload_n 0, 1) := by decide +kernel
theorem dX2_compare_121 : decode cX2_compare 121 = .ok (.getfield 31, 3) := by decide +kernel
theorem dX2_compare_124 : decode cX2_compare 124 = .ok (.invokestatic 97, 3) := by decide +kernel
theorem dX2_compare_127 : decode cX2_compare 127 = .ok (.aload 5, 2) := by decide +kernel
theorem dX2_compare_129 : decode cX2_compare 129 = .ok (.aload_n 0, 1) := by decide +kernel
theorem dX2_compare_130 : decode cX2_compare 130 = .ok (.getfield 34, 3) := by decide +kernel
theorem dX2_compare_133 : decode cX2_compare 133 = .ok (.invokestatic 97, 3) := by decide +kernel
theorem dX2_compare_136 : decode cX2_compare 136 = .ok (.aload_n 0, 1) := by decide +kernel
theorem dX2_compare_137 : decode cX2_compare 137 = .ok (.aload_n 0, 1) := by decide +kernel
theorem dX2_compare_138 : decode cX2_compare 138 = .ok (.getfield 31, 3) := by decide +kernel
theorem dX2_compare_141 : decode cX2_compare 141 = .ok (.aload_n 0, 1) := by decide +kernel
theorem dX2_compare_142 : decode cX2_compare 142 = .ok (.getfield 34, 3) := by decide +kernel
theorem dX2_compare_145 : decode cX2_compare 145 = .ok (.invokestatic 154, 3) := by decide +kernel
theorem dX2_compare_148 : decode cX2_compare 148 = .ok (.invokevirtual 61, 3) := by decide +kernel
theorem dX2_compare_151 : decode cX2_compare 151 = .ok (.ireturn, 1) := by decide +kernel
set_option maxRecDepth 20000 in
theorem ggX2_change_X2_isNoText : GoodIn wsX2_change wsX2_isNoText := goodIn_r _ [9] (by decide +kernel) (by decide +kernel)
set_option maxRecDepth 20000 in
theorem gX2_change_X2_isNoText : GoodIn wsX2_change (va_wsS RX2 71 yX2_isNoText wsX2_isNoText) := goodIn_app (goodIn_of _ (by decide +kernel)) ggX2_change_X2_isNoText
set_option maxRecDepth 20000 in
theorem ggX2_change_X2_isNoWay : GoodIn wsX2_change wsX2_isNoWay := goodIn_r _ [12] (by decide +kernel) (by decide +kernel)
set_option maxRecDepth 20000 in
theorem gX2_change_X2_isNoWay : GoodIn wsX2_change (va_wsS RX2 101 yX2_isNoWay wsX2_isNoWay) := goodIn_app (goodIn_of _ (by decide +kernel)) ggX2_change_X2_isNoWay
set_option maxRecDepth 20000 in
theorem ggX2_change_X2_refuse : GoodIn wsX2_change wsX2_refuse := goodIn_r _ [16, 17, 76, 77, 78, 79, 80, 81, 82, 83] (by decide +kernel) (by decide +kernel)
set_option maxRecDepth 20000 in
theorem gX2_change_X2_refuse : GoodIn wsX2_change (wsV RX2 55 RX2 yX2_refuse wsX2_refuse) := goodIn_app (goodIn_of _ (by decide +kernel)) ggX2_change_X2_refuse
set_option maxRecDepth 20000 in
theorem ggX2_change_X0_empty : GoodIn wsX2_change wsX0_empty := goodIn_r _ [22, 23, 86, 87] (by decide +kernel) (by decide +kernel)
set_option maxRecDepth 20000 in
theorem gX2_change_X0_empty : GoodIn wsX2_change (wsV RX2 68 RX0 yX0_empty wsX0_empty) := goodIn_app (goodIn_of _ (by decide +kernel)) ggX2_change_X0_empty
set_option maxRecDepth 20000 in
theorem ggX2_change_X2_greater : GoodIn wsX2_change wsX2_greater := goodIn_r _ [26] (by decide +kernel) (by decide +kernel)
set_option maxRecDepth 20000 in
theorem gX2_change_X2_greater : GoodIn wsX2_change (va_wsS RX2 158 yX2_greater wsX2_greater) := goodIn_app (goodIn_of _ (by decide +kernel)) ggX2_change_X2_greater
set_option maxRecDepth 20000 in
theorem ggX2_change_X2_lesser : GoodIn wsX2_change wsX2_lesser := goodIn_r _ [29] (by decide +kernel) (by decide +kernel)
set_option maxRecDepth 20000 in
theorem gX2_change_X2_lesser : GoodIn wsX2_change (va_wsS RX2 161 yX2_lesser wsX2_lesser) := goodIn_app (goodIn_of _ (by decide +kernel)) ggX2_change_X2_lesser
set_option maxRecDepth 20000 in
theorem ggX2_change_X0_add : GoodIn wsX2_change wsX0_add := goodIn_r _ [33, 23, 34, 86, 87] (by decide +kernel) (by decide +kernel)
set_option maxRecDepth 20000 in
theorem gX2_change_X0_add : GoodIn wsX2_change (wsV RX2 65 RX0 yX0_add wsX0_add) := goodIn_app (goodIn_of _ (by decide +kernel)) ggX2_change_X0_add
set_option maxRecDepth 20000 in
theorem ggX2_change_X2_setText : GoodIn wsX2_change wsX2_setText := goodIn_r _ [38, 2, 39, 40, 41, 42, 43, 44, 45, 46, 47, 48, 49, 50, 51, 52, 53, 54, 55, 56, 57, 58, 59, 60, 61, 62, 63, 64, 65, 66, 67, 68, 69, 70, 71, 72, 73, 74, 8, 75, 17, 76, 77, 78, 79, 80, 81, 82, 83, 84, 85, 86, 87] (by decide +kernel) (by decide +kernel)
set_option maxRecDepth 20000 in
theorem gX2_change_X2_setText : GoodIn wsX2_change (wsV RX2 85 RX2 yX2_setText wsX2_setText) := goodIn_app (goodIn_of _ (by decide +kernel)) ggX2_change_X2_setText
theorem dX2_change_0 : decode cX2_change 0 = .ok (.iload_n 1, 1) := by decide +kernel
theorem dX2_change_1 : decode cX2_change 1 = .ok (.invokestatic 71, 3) := by decide +kernel
theorem dX2_change_4 : decode cX2_change 4 = .ok (.ifCond .ne 17, 3) := by decide +kernel
theorem dX2_change_7 : decode cX2_change 7 = .ok (.iload_n 2, 1) := by decide +kernel
theorem dX2_change_8 : decode cX2_change 8 = .ok (.invokestatic 71, 3) := by decide +kernel
theorem dX2_change_11 : decode cX2_change 11 = .ok (.ifCond .ne 10, 3) := by decide +kernel
theorem dX2_change_14 : decode cX2_change 14 = .ok (.iload_n 3, 1) := by decide +kernel
theorem dX2_change_15 : decode cX2_change 15 = .ok (.invokestatic 101, 3) := by decide +kernel
theorem dX2_change_18 : decode cX2_change 18 = .ok (.ifCond .eq 6, 3) := by decide +kernel
theorem dX2_change_21 : decode cX2_change 21 = .ok (.ldc 47, 2) := by decide +kernel
theorem dX2_change_23 : decode cX2_change 23 = .ok (.ireturn, 1) := by decide +kernel
theorem dX2_change_24 : decode cX2_change 24 = .ok (.aload_n 0, 1) := by decide +kernel
theorem dX2_change_25 : decode cX2_change 25 = .ok (.getfield 11, 3) := by decide +kernel
theorem dX2_change_28 : decode cX2_change 28 = .ok (.iload_n 2, 1) := by decide +kernel
theorem dX2_change_29 : decode cX2_change 29 = .ok (.aaload, 1) := by decide +kernel
theorem dX2_change_30 : decode cX2_change 30 = .ok (.astore 4, 2) := by decide +kernel
theorem dX2_change_32 : decode cX2_change 32 = .ok (.aload 4, 2) := by decide +kernel
theorem dX2_change_34 : decode cX2_change 34 = .ok (.ifnonnull 9, 3) := by decide +kernel
theorem dX2_change_37 : decode cX2_change 37 = .ok (.aload_n 0, 1) := by decide +kernel
theorem dX2_change_38 : decode cX2_change 38 = .ok (.iconst 1, 1) := by decide +kernel
theorem dX2_change_39 : decode cX2_change 39 = .ok (.invokevirtual 55, 3) := by decide +kernel
theorem dX2_change_42 : decode cX2_change 42 = .ok (.ireturn, 1) := by decide +kernel
theorem dX2_change_43 : decode cX2_change 43 = .ok (.aload 4, 2) := by decide +kernel
theorem dX2_change_45 : decode cX2_change 45 = .ok (.getfield 94, 3) := by decide +kernel
theorem dX2_change_48 : decode cX2_change 48 = .ok (.iconst 2, 1) := by decide +kernel
theorem dX2_change_49 : decode cX2_change 49 = .ok (.if_icmp .ne 9, 3) := by decide +kernel
theorem dX2_change_52 : decode cX2_change 52 = .ok (.aload_n 0, 1) := by decide +kernel
theorem dX2_change_53 : decode cX2_change 53 = .ok (.iconst 2, 1) := by decide +kernel
theorem dX2_change_54 : decode cX2_change 54 = .ok (.invokevirtual 55, 3) := by decide +kernel
theorem dX2_change_57 : decode cX2_change 57 = .ok (.ireturn, 1) := by decide +kernel
theorem dX2_change_58 : decode cX2_change 58 = .ok (.aload_n 0, 1) := by decide +kernel
theorem dX2_change_59 : decode cX2_change 59 = .ok (.getfield 31, 3) := by decide +kernel
theorem dX2_change_62 : decode cX2_change 62 = .ok (.invokevirtual 68, 3) := by decide +kernel
theorem dX2_change_65 : decode cX2_change 65 = .ok (.iconst 0, 1) := by decide +kernel
theorem dX2_change_66 : decode cX2_change 66 = .ok (.istore 5, 2) := by decide +kernel
theorem dX2_change_68 : decode cX2_change 68 = .ok (.iload 5, 2) := by decide +kernel
theorem dX2_change_70 : decode cX2_change 70 = .ok (.aload 4, 2) := by decide +kernel
theorem dX2_change_72 : decode cX2_change 72 = .ok (.getfield 93, 3) := by decide +kernel
theorem dX2_change_75 : decode cX2_change 75 = .ok (.arraylength, 1) := by decide +kernel
theorem dX2_change_76 : decode cX2_change 76 = .ok (.if_icmp .ge 45, 3) := by decide +kernel
theorem dX2_change_79 : decode cX2_change 79 = .ok (.aload_n 0, 1) := by decide +kernel
theorem dX2_change_80 : decode cX2_change 80 = .ok (.getfield 31, 3) := by decide +kernel
theorem dX2_change_83 : decode cX2_change 83 = .ok (.iload_n 3, 1) := by decide +kernel
theorem dX2_change_84 : decode cX2_change 84 = .ok (.ifCond .ne 17, 3) := by decide +kernel
theorem dX2_change_87 : decode cX2_change 87 = .ok (.aload 4, 2) := by decide +kernel
theorem dX2_change_89 : decode cX2_change 89 = .ok (.getfield 93, 3) := by decide +kernel
theorem dX2_change_92 : decode cX2_change 92 = .ok (.iload 5, 2) := by decide +kernel
theorem dX2_change_94 : decode cX2_change 94 = .ok (.iaload, 1) := by decide +kernel
theorem dX2_change_95 : decode cX2_change 95 = .ok (.invokestatic 158, 3) := by decide +kernel
theorem dX2_change_98 : decode cX2_change 98 = .ok (.goto 14, 3) := by decide +kernel
theorem dX2_change_101 : decode cX2_change 101 = .ok (.aload 4, 2) := by decide +kernel
theorem dX2_change_103 : decode cX2_change 103 = .ok (.getfield 93, 3) := by decide +kernel
theorem dX2_change_106 : decode cX2_change 106 = .ok (.iload 5, 2) := by decide +kernel
theorem dX2_change_108 : decode cX2_change 108 = .ok (.iaload, 1) := by decide +kernel
theorem dX2_change_109 : decode cX2_change 109 = .ok (.invokestatic 161, 3) := by decide +kernel
theorem dX2_change_112 : decode cX2_change 112 = .ok (.invokevirtual 65, 3) := by decide +kernel
theorem dX2_change_115 : decode cX2_change 115 = .ok (.iinc 5 1, 3) := by decide +kernel
theorem dX2_change_118 : decode cX2_change 118 = .ok (.goto (-50), 3) := by decide +kernel
theorem dX2_change_121 : decode cX2_change 121 = .ok (.aload_n 0, 1) := by decide +kernel
theorem dX2_change_122 : decode cX2_change 122 = .ok (.iload_n 1, 1) := by decide +kernel
theorem dX2_change_123 : decode cX2_change 123 = .ok (.aload 4, 2) := by decide +kernel
theorem dX2_change_125 : decode cX2_change 125 = .ok (.getfield 94, 3) := by decide +kernel
theorem dX2_change_128 : decode cX2_change 128 = .ok (.aload_n 0, 1) := by decide +kernel
theorem dX2_change_129 : decode cX2_change 129 = .ok (.getfield 31, 3) := by decide +kernel
theorem dX2_change_132 : decode cX2_change 132 = .ok (.invokevirtual 85, 3) := by decide +kernel
theorem dX2_change_135 : decode cX2_change 135 = .ok (.ireturn, 1) := by decide +kernel
set_option maxRecDepth 20000 in
theorem ggX2_keep_X2_isNoText : GoodIn wsX2_keep wsX2_isNoText := goodIn_r _ [9] (by decide +kernel) (by decide +kernel)
set_option maxRecDepth 20000 in
theorem gX2_keep_X2_isNoText : GoodIn wsX2_keep (va_wsS RX2 71 yX2_isNoText wsX2_isNoText) := goodIn_app (goodIn_of _ (by decide +kernel)) ggX2_keep_X2_isNoText
set_option maxRecDepth 20000 in
theorem ggX2_keep_X2_refuse : GoodIn wsX2_keep wsX2_refuse := goodIn_r _ [13, 14, 27, 28, 29, 30, 31, 32, 33, 34] (by decide +kernel) (by decide +kernel)
set_option maxRecDepth 20000 in
theorem gX2_keep_X2_refuse : GoodIn wsX2_keep (wsV RX2 55 RX2 yX2_refuse wsX2_refuse) := goodIn_app (goodIn_of _ (by decide +kernel)) ggX2_keep_X2_refuse
set_option maxRecDepth 20000 in
theorem ggX2_keep_X2_keptLike : GoodIn wsX2_keep wsX2_keptLike := goodIn_r _ [18, 5, 4, 19, 20, 8, 21, 22, 27, 28, 29, 30, 31, 32, 33, 34, 35, 36] (by decide +kernel) (by decide +kernel)
set_option maxRecDepth 20000 in
theorem gX2_keep_X2_keptLike : GoodIn wsX2_keep (wsV RX2 164 RX2 yX2_keptLike wsX2_keptLike) := goodIn_app (goodIn_of _ (by decide +kernel)) ggX2_keep_X2_keptLike
set_option maxRecDepth 20000 in
theorem ggX2_keep_X2_done : GoodIn wsX2_keep wsX2_done := goodIn_r _ [26, 14, 27, 28, 29, 30, 31, 32, 33, 34] (by decide +kernel) (by decide +kernel)
set_option maxRecDepth 20000 in
theorem gX2_keep_X2_done : GoodIn wsX2_keep (wsV RX2 61 RX2 yX2_done wsX2_done) := goodIn_app (goodIn_of _ (by decide +kernel)) ggX2_keep_X2_done
theorem dX2_keep_0 : decode cX2_keep 0 = .ok (.iload_n 1, 1) := by decide +kernel
theorem dX2_keep_1 : decode cX2_keep 1 = .ok (.invokestatic 71, 3) := by decide +kernel
theorem dX2_keep_4 : decode cX2_keep 4 = .ok (.ifCond .eq 6, 3) := by decide +kernel
theorem dX2_keep_7 : decode cX2_keep 7 = .ok (.ldc 47, 2) := by decide +kernel
theorem dX2_keep_9 : decode cX2_keep 9 = .ok (.ireturn, 1) := by decide +kernel
theorem dX2_keep_10 : decode cX2_keep 10 = .ok (.aload_n 0, 1) := by decide +kernel
theorem dX2_keep_11 : decode cX2_keep 11 = .ok (.getfield 11, 3) := by decide +kernel
theorem dX2_keep_14 : decode cX2_keep 14 = .ok (.iload_n 1, 1) := by decide +kernel
theorem dX2_keep_15 : decode cX2_keep 15 = .ok (.aaload, 1) := by decide +kernel
theorem dX2_keep_16 : decode cX2_keep 16 = .ok (.astore_n 2, 1) := by decide +kernel
theorem dX2_keep_17 : decode cX2_keep 17 = .ok (.aload_n 2, 1) := by decide +kernel
theorem dX2_keep_18 : decode cX2_keep 18 = .ok (.ifnonnull 9, 3) := by decide +kernel
theorem dX2_keep_21 : decode cX2_keep 21 = .ok (.aload_n 0, 1) := by decide +kernel
theorem dX2_keep_22 : decode cX2_keep 22 = .ok (.iconst 1, 1) := by decide +kernel
theorem dX2_keep_23 : decode cX2_keep 23 = .ok (.invokevirtual 55, 3) := by decide +kernel
theorem dX2_keep_26 : decode cX2_keep 26 = .ok (.ireturn, 1) := by decide +kernel
theorem dX2_keep_27 : decode cX2_keep 27 = .ok (.aload_n 2, 1) := by decide +kernel
theorem dX2_keep_28 : decode cX2_keep 28 = .ok (.getfield 94, 3) := by decide +kernel
theorem dX2_keep_31 : decode cX2_keep 31 = .ok (.ifCond .eq 9, 3) := by decide +kernel
theorem dX2_keep_34 : decode cX2_keep 34 = .ok (.aload_n 0, 1) := by decide +kernel
theorem dX2_keep_35 : decode cX2_keep 35 = .ok (.iconst 2, 1) := by decide +kernel
theorem dX2_keep_36 : decode cX2_keep 36 = .ok (.invokevirtual 55, 3) := by decide +kernel
theorem dX2_keep_39 : decode cX2_keep 39 = .ok (.ireturn, 1) := by decide +kernel
theorem dX2_keep_40 : decode cX2_keep 40 = .ok (.aload_n 0, 1) := by decide +kernel
theorem dX2_keep_41 : decode cX2_keep 41 = .ok (.aload_n 2, 1) := by decide +kernel
theorem dX2_keep_42 : decode cX2_keep 42 = .ok (.invokevirtual 164, 3) := by decide +kernel
theorem dX2_keep_45 : decode cX2_keep 45 = .ok (.istore_n 3, 1) := by decide +kernel
theorem dX2_keep_46 : decode cX2_keep 46 = .ok (.iload_n 3, 1) := by decide +kernel
theorem dX2_keep_47 : decode cX2_keep 47 = .ok (.iconst (-1), 1) := by decide +kernel
theorem dX2_keep_48 : decode cX2_keep 48 = .ok (.if_icmp .eq 21, 3) := by decide +kernel
theorem dX2_keep_51 : decode cX2_keep 51 = .ok (.aload_n 0, 1) := by decide +kernel
theorem dX2_keep_52 : decode cX2_keep 52 = .ok (.getfield 11, 3) := by decide +kernel
theorem dX2_keep_55 : decode cX2_keep 55 = .ok (.iload_n 1, 1) := by decide +kernel
theorem dX2_keep_56 : decode cX2_keep 56 = .ok (.aload_n 0, 1) := by decide +kernel
theorem dX2_keep_57 : decode cX2_keep 57 = .ok (.getfield 15, 3) := by decide +kernel
theorem dX2_keep_60 : decode cX2_keep 60 = .ok (.iload_n 3, 1) := by decide +kernel
theorem dX2_keep_61 : decode cX2_keep 61 = .ok (.aaload, 1) := by decide +kernel
theorem dX2_keep_62 : decode cX2_keep 62 = .ok (.aastore, 1) := by decide +kernel
theorem dX2_keep_63 : decode cX2_keep 63 = .ok (.aload_n 0, 1) := by decide +kernel
theorem dX2_keep_64 : decode cX2_keep 64 = .ok (.iload_n 3, 1) := by decide +kernel
theorem dX2_keep_65 : decode cX2_keep 65 = .ok (.invokevirtual 61, 3) := by decide +kernel
theorem dX2_keep_68 : decode cX2_keep 68 = .ok (.ireturn, 1) := by decide +kernel
theorem dX2_keep_69 : decode cX2_keep 69 = .ok (.aload_n 0, 1) := by decide +kernel
theorem dX2_keep_70 : decode cX2_keep 70 = .ok (.getfield 18, 3) := by decide +kernel
theorem dX2_keep_73 : decode cX2_keep 73 = .ok (.ifCond .lt 15, 3) := by decide +kernel
theorem dX2_keep_76 : decode cX2_keep 76 = .ok (.aload_n 0, 1) := by decide +kernel
theorem dX2_keep_77 : decode cX2_keep 77 = .ok (.getfield 18, 3) := by decide +kernel
theorem dX2_keep_80 : decode cX2_keep 80 = .ok (.aload_n 0, 1) := by decide +kernel
theorem dX2_keep_81 : decode cX2_keep 81 = .ok (.getfield 15, 3) := by decide +kernel
theorem dX2_keep_84 : decode cX2_keep 84 = .ok (.arraylength, 1) := by decide +kernel
theorem dX2_keep_85 : decode cX2_keep 85 = .ok (.if_icmp .lt 10, 3) := by decide +kernel
theorem dX2_keep_88 : decode cX2_keep 88 = .ok (.aload_n 0, 1) := by decide +kernel
theorem dX2_keep_89 : decode cX2_keep 89 = .ok (.bipush 6, 2) := by decide +kernel
theorem dX2_keep_91 : decode cX2_keep 91 = .ok (.invokevirtual 55, 3) := by decide +kernel
theorem dX2_keep_94 : decode cX2_keep 94 = .ok (.ireturn, 1) := by decide +kernel
theorem dX2_keep_95 : decode cX2_keep 95 = .ok (.aload_n 0, 1) := by decide +kernel
theorem dX2_keep_96 : decode cX2_keep 96 = .ok (.getfield 15, 3) := by decide +kernel
theorem dX2_keep_99 : decode cX2_keep 99 = .ok (.aload_n 0, 1) := by decide +kernel
theorem dX2_keep_100 : decode cX2_keep 100 = .ok (.getfield 18, 3) := by decide +kernel
theorem dX2_keep_103 : decode cX2_keep 103 = .ok (.aload_n 2, 1) := by decide +kernel
theorem dX2_keep_104 : decode cX2_keep 104 = .ok (.aastore, 1) := by decide +kernel
theorem dX2_keep_105 : decode cX2_keep 105 = .ok (.aload_n 0, 1) := by decide +kernel
theorem dX2_keep_106 : decode cX2_keep 106 = .ok (.dup, 1) := by decide +kernel
theorem dX2_keep_107 : decode cX2_keep 107 = .ok (.getfield 18, 3) := by decide +kernel
theorem dX2_keep_110 : decode cX2_keep 110 = .ok (.iconst 1, 1) := by decide +kernel
theorem dX2_keep_111 : decode cX2_keep 111 = .ok (.iadd, 1) := by decide +kernel
theorem dX2_keep_112 : decode cX2_keep 112 = .ok (.putfield 18, 3) := by decide +kernel
theorem dX2_keep_115 : decode cX2_keep 115 = .ok (.aload_n 0, 1) := by decide +kernel
theorem dX2_keep_116 : decode cX2_keep 116 = .ok (.aload_n 0, 1) := by decide +kernel
theorem dX2_keep_117 : decode cX2_keep 117 = .ok (.getfield 18, 3) := by decide +kernel
theorem dX2_keep_120 : decode cX2_keep 120 = .ok (.iconst 1, 1) := by decide +kernel
theorem dX2_keep_121 : decode cX2_keep 121 = .ok (.isub, 1) := by decide +kernel
theorem dX2_keep_122 : decode cX2_keep 122 = .ok (.invokevirtual 61, 3) := by decide +kernel
theorem dX2_keep_125 : decode cX2_keep 125 = .ok (.ireturn, 1) := by decide +kernel
theorem dX2_kept_0 : decode cX2_kept 0 = .ok (.aload_n 0, 1) := by decide +kernel
theorem dX2_kept_1 : decode cX2_kept 1 = .ok (.getfield 18, 3) := by decide +kernel
theorem dX2_kept_4 : decode cX2_kept 4 = .ok (.ireturn, 1) := by decide +kernel
set_option maxRecDepth 20000 in
theorem ggX2_same_X2_isNoText : GoodIn wsX2_same wsX2_isNoText := goodIn_r _ [6] (by decide +kernel) (by decide +kernel)
set_option maxRecDepth 20000 in
theorem gX2_same_X2_isNoText : GoodIn wsX2_same (va_wsS RX2 71 yX2_isNoText wsX2_isNoText) := goodIn_app (goodIn_of _ (by decide +kernel)) ggX2_same_X2_isNoText
theorem dX2_same_0 : decode cX2_same 0 = .ok (.iload_n 1, 1) := by decide +kernel
theorem dX2_same_1 : decode cX2_same 1 = .ok (.invokestatic 71, 3) := by decide +kernel
theorem dX2_same_4 : decode cX2_same 4 = .ok (.ifCond .ne 10, 3) := by decide +kernel
theorem dX2_same_7 : decode cX2_same 7 = .ok (.iload_n 2, 1) := by decide +kernel
theorem dX2_same_8 : decode cX2_same 8 = .ok (.invokestatic 71, 3) := by decide +kernel
theorem dX2_same_11 : decode cX2_same 11 = .ok (.ifCond .eq 6, 3) := by decide +kernel
theorem dX2_same_14 : decode cX2_same 14 = .ok (.ldc 47, 2) := by decide +kernel
theorem dX2_same_16 : decode cX2_same 16 = .ok (.ireturn, 1) := by decide +kernel
theorem dX2_same_17 : decode cX2_same 17 = .ok (.aload_n 0, 1) := by decide +kernel
theorem dX2_same_18 : decode cX2_same 18 = .ok (.getfield 11, 3) := by decide +kernel
theorem dX2_same_21 : decode cX2_same 21 = .ok (.iload_n 1, 1) := by decide +kernel
theorem dX2_same_22 : decode cX2_same 22 = .ok (.aaload, 1) := by decide +kernel
theorem dX2_same_23 : decode cX2_same 23 = .ok (.aload_n 0, 1) := by decide +kernel
theorem dX2_same_24 : decode cX2_same 24 = .ok (.getfield 11, 3) := by decide +kernel
theorem dX2_same_27 : decode cX2_same 27 = .ok (.iload_n 2, 1) := by decide +kernel
theorem dX2_same_28 : decode cX2_same 28 = .ok (.aaload, 1) := by decide +kernel
theorem dX2_same_29 : decode cX2_same 29 = .ok (.if_acmp .ne 7, 3) := by decide +kernel
theorem dX2_same_32 : decode cX2_same 32 = .ok (.iconst 1, 1) := by decide +kernel
theorem dX2_same_33 : decode cX2_same 33 = .ok (.goto 4, 3) := by decide +kernel
theorem dX2_same_36 : decode cX2_same 36 = .ok (.iconst 0, 1) := by decide +kernel
theorem dX2_same_37 : decode cX2_same 37 = .ok (.ireturn, 1) := by decide +kernel
set_option maxRecDepth 20000 in
theorem ggX2_kind_X2_isNoPoint : GoodIn wsX2_kind wsX2_isNoPoint := goodIn_r _ [6, 7] (by decide +kernel) (by decide +kernel)
set_option maxRecDepth 20000 in
theorem gX2_kind_X2_isNoPoint : GoodIn wsX2_kind (va_wsS RX2 43 yX2_isNoPoint wsX2_isNoPoint) := goodIn_app (goodIn_of _ (by decide +kernel)) ggX2_kind_X2_isNoPoint
set_option maxRecDepth 20000 in
theorem ggX2_kind_X2_isHigh : GoodIn wsX2_kind wsX2_isHigh := goodIn_r _ [10, 11, 12] (by decide +kernel) (by decide +kernel)
set_option maxRecDepth 20000 in
theorem gX2_kind_X2_isHigh : GoodIn wsX2_kind (va_wsS RX2 167 yX2_isHigh wsX2_isHigh) := goodIn_app (goodIn_of _ (by decide +kernel)) ggX2_kind_X2_isHigh
set_option maxRecDepth 20000 in
theorem ggX2_kind_X2_isLow : GoodIn wsX2_kind wsX2_isLow := goodIn_r _ [15, 12, 16] (by decide +kernel) (by decide +kernel)
set_option maxRecDepth 20000 in
theorem gX2_kind_X2_isLow : GoodIn wsX2_kind (va_wsS RX2 170 yX2_isLow wsX2_isLow) := goodIn_app (goodIn_of _ (by decide +kernel)) ggX2_kind_X2_isLow
set_option maxRecDepth 20000 in
theorem ggX2_kind_X2_greater : GoodIn wsX2_kind wsX2_greater := goodIn_r _ [19] (by decide +kernel) (by decide +kernel)
set_option maxRecDepth 20000 in
theorem gX2_kind_X2_greater : GoodIn wsX2_kind (va_wsS RX2 158 yX2_greater wsX2_greater) := goodIn_app (goodIn_of _ (by decide +kernel)) ggX2_kind_X2_greater
set_option maxRecDepth 20000 in
theorem ggX2_kind_X2_lesser : GoodIn wsX2_kind wsX2_lesser := goodIn_r _ [22] (by decide +kernel) (by decide +kernel)
set_option maxRecDepth 20000 in
theorem gX2_kind_X2_lesser : GoodIn wsX2_kind (va_wsS RX2 161 yX2_lesser wsX2_lesser) := goodIn_app (goodIn_of _ (by decide +kernel)) ggX2_kind_X2_lesser
theorem dX2_kind_0 : decode cX2_kind 0 = .ok (.iload_n 1, 1) := by decide +kernel
theorem dX2_kind_1 : decode cX2_kind 1 = .ok (.invokestatic 43, 3) := by decide +kernel
theorem dX2_kind_4 : decode cX2_kind 4 = .ok (.ifCond .eq 6, 3) := by decide +kernel
theorem dX2_kind_7 : decode cX2_kind 7 = .ok (.ldc 47, 2) := by decide +kernel
theorem dX2_kind_9 : decode cX2_kind 9 = .ok (.ireturn, 1) := by decide +kernel
theorem dX2_kind_10 : decode cX2_kind 10 = .ok (.iload_n 1, 1) := by decide +kernel
theorem dX2_kind_11 : decode cX2_kind 11 = .ok (.invokestatic 167, 3) := by decide +kernel
theorem dX2_kind_14 : decode cX2_kind 14 = .ok (.ifCond .eq 5, 3) := by decide +kernel
theorem dX2_kind_17 : decode cX2_kind 17 = .ok (.iconst 0, 1) := by decide +kernel
theorem dX2_kind_18 : decode cX2_kind 18 = .ok (.ireturn, 1) := by decide +kernel
theorem dX2_kind_19 : decode cX2_kind 19 = .ok (.iload_n 1, 1) := by decide +kernel
theorem dX2_kind_20 : decode cX2_kind 20 = .ok (.invokestatic 170, 3) := by decide +kernel
theorem dX2_kind_23 : decode cX2_kind 23 = .ok (.ifCond .eq 5, 3) := by decide +kernel
theorem dX2_kind_26 : decode cX2_kind 26 = .ok (.iconst 1, 1) := by decide +kernel
theorem dX2_kind_27 : decode cX2_kind 27 = .ok (.ireturn, 1) := by decide +kernel
theorem dX2_kind_28 : decode cX2_kind 28 = .ok (.iload_n 1, 1) := by decide +kernel
theorem dX2_kind_29 : decode cX2_kind 29 = .ok (.bipush 48, 2) := by decide +kernel
theorem dX2_kind_31 : decode cX2_kind 31 = .ok (.if_icmp .lt 11, 3) := by decide +kernel
theorem dX2_kind_34 : decode cX2_kind 34 = .ok (.iload_n 1, 1) := by decide +kernel
theorem dX2_kind_35 : decode cX2_kind 35 = .ok (.bipush 57, 2) := by decide +kernel
theorem dX2_kind_37 : decode cX2_kind 37 = .ok (.if_icmp .gt 5, 3) := by decide +kernel
theorem dX2_kind_40 : decode cX2_kind 40 = .ok (.iconst 2, 1) := by decide +kernel
theorem dX2_kind_41 : decode cX2_kind 41 = .ok (.ireturn, 1) := by decide +kernel
theorem dX2_kind_42 : decode cX2_kind 42 = .ok (.iload_n 1, 1) := by decide +kernel
theorem dX2_kind_43 : decode cX2_kind 43 = .ok (.invokestatic 158, 3) := by decide +kernel
theorem dX2_kind_46 : decode cX2_kind 46 = .ok (.iload_n 1, 1) := by decide +kernel
theorem dX2_kind_47 : decode cX2_kind 47 = .ok (.if_icmp .ne 11, 3) := by decide +kernel
theorem dX2_kind_50 : decode cX2_kind 50 = .ok (.iload_n 1, 1) := by decide +kernel
theorem dX2_kind_51 : decode cX2_kind 51 = .ok (.invokestatic 161, 3) := by decide +kernel
theorem dX2_kind_54 : decode cX2_kind 54 = .ok (.iload_n 1, 1) := by decide +kernel
theorem dX2_kind_55 : decode cX2_kind 55 = .ok (.if_icmp .eq 5, 3) := by decide +kernel
theorem dX2_kind_58 : decode cX2_kind 58 = .ok (.iconst 3, 1) := by decide +kernel
theorem dX2_kind_59 : decode cX2_kind 59 = .ok (.ireturn, 1) := by decide +kernel
theorem dX2_kind_60 : decode cX2_kind 60 = .ok (.iload_n 1, 1) := by decide +kernel
theorem dX2_kind_61 : decode cX2_kind 61 = .ok (.bipush 9, 2) := by decide +kernel
theorem dX2_kind_63 : decode cX2_kind 63 = .ok (.if_icmp .lt 9, 3) := by decide +kernel
theorem dX2_kind_66 : decode cX2_kind 66 = .ok (.iload_n 1, 1) := by decide +kernel
theorem dX2_kind_67 : decode cX2_kind 67 = .ok (.bipush 13, 2) := by decide +kernel
theorem dX2_kind_69 : decode cX2_kind 69 = .ok (.if_icmp .le 16, 3) := by decide +kernel
theorem dX2_kind_72 : decode cX2_kind 72 = .ok (.iload_n 1, 1) := by decide +kernel
theorem dX2_kind_73 : decode cX2_kind 73 = .ok (.bipush 32, 2) := by decide +kernel
theorem dX2_kind_75 : decode cX2_kind 75 = .ok (.if_icmp .eq 10, 3) := by decide +kernel
theorem dX2_kind_78 : decode cX2_kind 78 = .ok (.iload_n 1, 1) := by decide +kernel
theorem dX2_kind_79 : decode cX2_kind 79 = .ok (.sipush 160, 3) := by decide +kernel
theorem dX2_kind_82 : decode cX2_kind 82 = .ok (.if_icmp .ne 5, 3) := by decide +kernel
theorem dX2_kind_85 : decode cX2_kind 85 = .ok (.iconst 4, 1) := by decide +kernel
theorem dX2_kind_86 : decode cX2_kind 86 = .ok (.ireturn, 1) := by decide +kernel
theorem dX2_kind_87 : decode cX2_kind 87 = .ok (.iload_n 1, 1) := by decide +kernel
theorem dX2_kind_88 : decode cX2_kind 88 = .ok (.ldc 173, 2) := by decide +kernel
theorem dX2_kind_90 : decode cX2_kind 90 = .ok (.if_icmp .lt 7, 3) := by decide +kernel
theorem dX2_kind_93 : decode cX2_kind 93 = .ok (.iconst 5, 1) := by decide +kernel
theorem dX2_kind_94 : decode cX2_kind 94 = .ok (.goto 5, 3) := by decide +kernel
theorem dX2_kind_97 : decode cX2_kind 97 = .ok (.bipush 6, 2) := by decide +kernel
theorem dX2_kind_99 : decode cX2_kind 99 = .ok (.ireturn, 1) := by decide +kernel
theorem dX2_done_0 : decode cX2_done 0 = .ok (.aload_n 0, 1) := by decide +kernel
theorem dX2_done_1 : decode cX2_done 1 = .ok (.iconst 0, 1) := by decide +kernel
theorem dX2_done_2 : decode cX2_done 2 = .ok (.putfield 37, 3) := by decide +kernel
theorem dX2_done_5 : decode cX2_done 5 = .ok (.iload_n 1, 1) := by decide +kernel
theorem dX2_done_6 : decode cX2_done 6 = .ok (.ireturn, 1) := by decide +kernel
theorem dX2_refuse_0 : decode cX2_refuse 0 = .ok (.aload_n 0, 1) := by decide +kernel
theorem dX2_refuse_1 : decode cX2_refuse 1 = .ok (.iload_n 1, 1) := by decide +kernel
theorem dX2_refuse_2 : decode cX2_refuse 2 = .ok (.putfield 37, 3) := by decide +kernel
theorem dX2_refuse_5 : decode cX2_refuse 5 = .ok (.iconst 0, 1) := by decide +kernel
theorem dX2_refuse_6 : decode cX2_refuse 6 = .ok (.ireturn, 1) := by decide +kernel
set_option maxRecDepth 20000 in
theorem ggX2_refuseAt_X2_refuse : GoodIn wsX2_refuseAt wsX2_refuse := goodIn_r _ [6, 7, 8, 9, 10, 11, 12, 13, 14, 15] (by decide +kernel) (by decide +kernel)
set_option maxRecDepth 20000 in
theorem gX2_refuseAt_X2_refuse : GoodIn wsX2_refuseAt (wsV RX2 55 RX2 yX2_refuse wsX2_refuse) := goodIn_app (goodIn_of _ (by decide +kernel)) ggX2_refuseAt_X2_refuse
theorem dX2_refuseAt_0 : decode cX2_refuseAt 0 = .ok (.aload_n 0, 1) := by decide +kernel
theorem dX2_refuseAt_1 : decode cX2_refuseAt 1 = .ok (.iload_n 1, 1) := by decide +kernel
theorem dX2_refuseAt_2 : decode cX2_refuseAt 2 = .ok (.putfield 40, 3) := by decide +kernel
theorem dX2_refuseAt_5 : decode cX2_refuseAt 5 = .ok (.aload_n 0, 1) := by decide +kernel
theorem dX2_refuseAt_6 : decode cX2_refuseAt 6 = .ok (.iconst 5, 1) := by decide +kernel
theorem dX2_refuseAt_7 : decode cX2_refuseAt 7 = .ok (.invokevirtual 55, 3) := by decide +kernel
theorem dX2_refuseAt_10 : decode cX2_refuseAt 10 = .ok (.ireturn, 1) := by decide +kernel
set_option maxRecDepth 20000 in
theorem ggX2_setText_X1_init : GoodIn wsX2_setText wsX1_init := goodIn_r _ [8, 9, 10, 11, 12, 13, 14, 15, 16, 17, 18, 19, 20, 21, 22, 23, 24, 25, 26, 27, 28, 29, 30, 31, 32, 33, 34, 49, 50, 51, 52] (by decide +kernel) (by decide +kernel)
set_option maxRecDepth 20000 in
theorem gX2_setText_X1_init : GoodIn wsX2_setText (wsX1_init) := ggX2_setText_X1_init
set_option maxRecDepth 20000 in
theorem ggX2_setText_X2_done : GoodIn wsX2_setText wsX2_done := goodIn_r _ [39, 40, 41, 42, 43, 44, 45, 46, 47, 48] (by decide +kernel) (by decide +kernel)
set_option maxRecDepth 20000 in
theorem gX2_setText_X2_done : GoodIn wsX2_setText (wsV RX2 61 RX2 yX2_done wsX2_done) := goodIn_app (goodIn_of _ (by decide +kernel)) ggX2_setText_X2_done
theorem dX2_setText_0 : decode cX2_setText 0 = .ok (.aload_n 0, 1) := by decide +kernel
theorem dX2_setText_1 : decode cX2_setText 1 = .ok (.getfield 11, 3) := by decide +kernel
theorem dX2_setText_4 : decode cX2_setText 4 = .ok (.iload_n 1, 1) := by decide +kernel
theorem dX2_setText_5 : decode cX2_setText 5 = .ok (.new 9, 3) := by decide +kernel
theorem dX2_setText_8 : decode cX2_setText 8 = .ok (.dup, 1) := by decide +kernel
theorem dX2_setText_9 : decode cX2_setText 9 = .ok (.iload_n 2, 1) := by decide +kernel
theorem dX2_setText_10 : decode cX2_setText 10 = .ok (.aload_n 3, 1) := by decide +kernel
theorem dX2_setText_11 : decode cX2_setText 11 = .ok (.invokespecial 174, 3) := by decide +kernel
theorem dX2_setText_14 : decode cX2_setText 14 = .ok (.aastore, 1) := by decide +kernel
theorem dX2_setText_15 : decode cX2_setText 15 = .ok (.aload_n 0, 1) := by decide +kernel
theorem dX2_setText_16 : decode cX2_setText 16 = .ok (.aload_n 3, 1) := by decide +kernel
theorem dX2_setText_17 : decode cX2_setText 17 = .ok (.getfield 48, 3) := by decide +kernel
theorem dX2_setText_20 : decode cX2_setText 20 = .ok (.invokevirtual 61, 3) := by decide +kernel
theorem dX2_setText_23 : decode cX2_setText 23 = .ok (.ireturn, 1) := by decide +kernel
set_option maxRecDepth 20000 in
theorem ggX2_keptLike_X2_hasSameItems : GoodIn wsX2_keptLike wsX2_hasSameItems := goodIn_r _ [6, 7, 16, 17] (by decide +kernel) (by decide +kernel)
set_option maxRecDepth 20000 in
theorem gX2_keptLike_X2_hasSameItems : GoodIn wsX2_keptLike (va_wsS RX2 177 yX2_hasSameItems wsX2_hasSameItems) := goodIn_app (goodIn_of _ (by decide +kernel)) ggX2_keptLike_X2_hasSameItems
theorem dX2_keptLike_0 : decode cX2_keptLike 0 = .ok (.iconst 0, 1) := by decide +kernel
theorem dX2_keptLike_1 : decode cX2_keptLike 1 = .ok (.istore_n 2, 1) := by decide +kernel
theorem dX2_keptLike_2 : decode cX2_keptLike 2 = .ok (.iload_n 2, 1) := by decide +kernel
theorem dX2_keptLike_3 : decode cX2_keptLike 3 = .ok (.aload_n 0, 1) := by decide +kernel
theorem dX2_keptLike_4 : decode cX2_keptLike 4 = .ok (.getfield 18, 3) := by decide +kernel
theorem dX2_keptLike_7 : decode cX2_keptLike 7 = .ok (.if_icmp .ge 33, 3) := by decide +kernel
theorem dX2_keptLike_10 : decode cX2_keptLike 10 = .ok (.iload_n 2, 1) := by decide +kernel
theorem dX2_keptLike_11 : decode cX2_keptLike 11 = .ok (.aload_n 0, 1) := by decide +kernel
theorem dX2_keptLike_12 : decode cX2_keptLike 12 = .ok (.getfield 15, 3) := by decide +kernel
theorem dX2_keptLike_15 : decode cX2_keptLike 15 = .ok (.arraylength, 1) := by decide +kernel
theorem dX2_keptLike_16 : decode cX2_keptLike 16 = .ok (.if_icmp .ge 24, 3) := by decide +kernel
theorem dX2_keptLike_19 : decode cX2_keptLike 19 = .ok (.aload_n 0, 1) := by decide +kernel
theorem dX2_keptLike_20 : decode cX2_keptLike 20 = .ok (.getfield 15, 3) := by decide +kernel
theorem dX2_keptLike_23 : decode cX2_keptLike 23 = .ok (.iload_n 2, 1) := by decide +kernel
theorem dX2_keptLike_24 : decode cX2_keptLike 24 = .ok (.aaload, 1) := by decide +kernel
theorem dX2_keptLike_25 : decode cX2_keptLike 25 = .ok (.aload_n 1, 1) := by decide +kernel
theorem dX2_keptLike_26 : decode cX2_keptLike 26 = .ok (.invokestatic 177, 3) := by decide +kernel
theorem dX2_keptLike_29 : decode cX2_keptLike 29 = .ok (.ifCond .eq 5, 3) := by decide +kernel
theorem dX2_keptLike_32 : decode cX2_keptLike 32 = .ok (.iload_n 2, 1) := by decide +kernel
theorem dX2_keptLike_33 : decode cX2_keptLike 33 = .ok (.ireturn, 1) := by decide +kernel
theorem dX2_keptLike_34 : decode cX2_keptLike 34 = .ok (.iinc 2 1, 3) := by decide +kernel
theorem dX2_keptLike_37 : decode cX2_keptLike 37 = .ok (.goto (-35), 3) := by decide +kernel
theorem dX2_keptLike_40 : decode cX2_keptLike 40 = .ok (.iconst (-1), 1) := by decide +kernel
theorem dX2_keptLike_41 : decode cX2_keptLike 41 = .ok (.ireturn, 1) := by decide +kernel
theorem dX2_isNoText_0 : decode cX2_isNoText 0 = .ok (.iload_n 0, 1) := by decide +kernel
theorem dX2_isNoText_1 : decode cX2_isNoText 1 = .ok (.ifCond .lt 9, 3) := by decide +kernel
theorem dX2_isNoText_4 : decode cX2_isNoText 4 = .ok (.iload_n 0, 1) := by decide +kernel
theorem dX2_isNoText_5 : decode cX2_isNoText 5 = .ok (.bipush 10, 2) := by decide +kernel
theorem dX2_isNoText_7 : decode cX2_isNoText 7 = .ok (.if_icmp .lt 7, 3) := by decide +kernel
theorem dX2_isNoText_10 : decode cX2_isNoText 10 = .ok (.iconst 1, 1) := by decide +kernel
theorem dX2_isNoText_11 : decode cX2_isNoText 11 = .ok (.goto 4, 3) := by decide +kernel
theorem dX2_isNoText_14 : decode cX2_isNoText 14 = .ok (.iconst 0, 1) := by decide +kernel
theorem dX2_isNoText_15 : decode cX2_isNoText 15 = .ok (.ireturn, 1) := by decide +kernel
theorem dX2_isNoPoint_0 : decode cX2_isNoPoint 0 = .ok (.iload_n 0, 1) := by decide +kernel
theorem dX2_isNoPoint_1 : decode cX2_isNoPoint 1 = .ok (.ifCond .lt 9, 3) := by decide +kernel
theorem dX2_isNoPoint_4 : decode cX2_isNoPoint 4 = .ok (.iload_n 0, 1) := by decide +kernel
theorem dX2_isNoPoint_5 : decode cX2_isNoPoint 5 = .ok (.ldc 181, 2) := by decide +kernel
theorem dX2_isNoPoint_7 : decode cX2_isNoPoint 7 = .ok (.if_icmp .le 7, 3) := by decide +kernel
theorem dX2_isNoPoint_10 : decode cX2_isNoPoint 10 = .ok (.iconst 1, 1) := by decide +kernel
theorem dX2_isNoPoint_11 : decode cX2_isNoPoint 11 = .ok (.goto 4, 3) := by decide +kernel
theorem dX2_isNoPoint_14 : decode cX2_isNoPoint 14 = .ok (.iconst 0, 1) := by decide +kernel
theorem dX2_isNoPoint_15 : decode cX2_isNoPoint 15 = .ok (.ireturn, 1) := by decide +kernel
theorem dX2_isNoForm_0 : decode cX2_isNoForm 0 = .ok (.iload_n 0, 1) := by decide +kernel
theorem dX2_isNoForm_1 : decode cX2_isNoForm 1 = .ok (.ifCond .lt 8, 3) := by decide +kernel
theorem dX2_isNoForm_4 : decode cX2_isNoForm 4 = .ok (.iload_n 0, 1) := by decide +kernel
theorem dX2_isNoForm_5 : decode cX2_isNoForm 5 = .ok (.iconst 3, 1) := by decide +kernel
theorem dX2_isNoForm_6 : decode cX2_isNoForm 6 = .ok (.if_icmp .le 7, 3) := by decide +kernel
theorem dX2_isNoForm_9 : decode cX2_isNoForm 9 = .ok (.iconst 1, 1) := by decide +kernel
theorem dX2_isNoForm_10 : decode cX2_isNoForm 10 = .ok (.goto 4, 3) := by decide +kernel
theorem dX2_isNoForm_13 : decode cX2_isNoForm 13 = .ok (.iconst 0, 1) := by decide +kernel
theorem dX2_isNoForm_14 : decode cX2_isNoForm 14 = .ok (.ireturn, 1) := by decide +kernel
theorem dX2_isNoWay_0 : decode cX2_isNoWay 0 = .ok (.iload_n 0, 1) := by decide +kernel
theorem dX2_isNoWay_1 : decode cX2_isNoWay 1 = .ok (.ifCond .eq 12, 3) := by decide +kernel
theorem dX2_isNoWay_4 : decode cX2_isNoWay 4 = .ok (.iload_n 0, 1) := by decide +kernel
theorem dX2_isNoWay_5 : decode cX2_isNoWay 5 = .ok (.iconst 1, 1) := by decide +kernel
theorem dX2_isNoWay_6 : decode cX2_isNoWay 6 = .ok (.if_icmp .eq 7, 3) := by decide +kernel
theorem dX2_isNoWay_9 : decode cX2_isNoWay 9 = .ok (.iconst 1, 1) := by decide +kernel
theorem dX2_isNoWay_10 : decode cX2_isNoWay 10 = .ok (.goto 4, 3) := by decide +kernel
theorem dX2_isNoWay_13 : decode cX2_isNoWay 13 = .ok (.iconst 0, 1) := by decide +kernel
theorem dX2_isNoWay_14 : decode cX2_isNoWay 14 = .ok (.ireturn, 1) := by decide +kernel
theorem dX2_isHigh_0 : decode cX2_isHigh 0 = .ok (.iload_n 0, 1) := by decide +kernel
theorem dX2_isHigh_1 : decode cX2_isHigh 1 = .ok (.ldc 182, 2) := by decide +kernel
theorem dX2_isHigh_3 : decode cX2_isHigh 3 = .ok (.if_icmp .lt 13, 3) := by decide +kernel
theorem dX2_isHigh_6 : decode cX2_isHigh 6 = .ok (.iload_n 0, 1) := by decide +kernel
theorem dX2_isHigh_7 : decode cX2_isHigh 7 = .ok (.ldc 183, 2) := by decide +kernel
theorem dX2_isHigh_9 : decode cX2_isHigh 9 = .ok (.if_icmp .ge 7, 3) := by decide +kernel
theorem dX2_isHigh_12 : decode cX2_isHigh 12 = .ok (.iconst 1, 1) := by decide +kernel
theorem dX2_isHigh_13 : decode cX2_isHigh 13 = .ok (.goto 4, 3) := by decide +kernel
theorem dX2_isHigh_16 : decode cX2_isHigh 16 = .ok (.iconst 0, 1) := by decide +kernel
theorem dX2_isHigh_17 : decode cX2_isHigh 17 = .ok (.ireturn, 1) := by decide +kernel
theorem dX2_isLow_0 : decode cX2_isLow 0 = .ok (.iload_n 0, 1) := by decide +kernel
theorem dX2_isLow_1 : decode cX2_isLow 1 = .ok (.ldc 183, 2) := by decide +kernel
theorem dX2_isLow_3 : decode cX2_isLow 3 = .ok (.if_icmp .lt 13, 3) := by decide +kernel
theorem dX2_isLow_6 : decode cX2_isLow 6 = .ok (.iload_n 0, 1) := by decide +kernel
theorem dX2_isLow_7 : decode cX2_isLow 7 = .ok (.ldc 184, 2) := by decide +kernel
theorem dX2_isLow_9 : decode cX2_isLow 9 = .ok (.if_icmp .gt 7, 3) := by decide +kernel
theorem dX2_isLow_12 : decode cX2_isLow 12 = .ok (.iconst 1, 1) := by decide +kernel
theorem dX2_isLow_13 : decode cX2_isLow 13 = .ok (.goto 4, 3) := by decide +kernel
theorem dX2_isLow_16 : decode cX2_isLow 16 = .ok (.iconst 0, 1) := by decide +kernel
theorem dX2_isLow_17 : decode cX2_isLow 17 = .ok (.ireturn, 1) := by decide +kernel
theorem dX2_unitCount_0 : decode cX2_unitCount 0 = .ok (.iload_n 0, 1) := by decide +kernel
theorem dX2_unitCount_1 : decode cX2_unitCount 1 = .ok (.ldc 173, 2) := by decide +kernel
theorem dX2_unitCount_3 : decode cX2_unitCount 3 = .ok (.if_icmp .ge 7, 3) := by decide +kernel
theorem dX2_unitCount_6 : decode cX2_unitCount 6 = .ok (.iconst 1, 1) := by decide +kernel
theorem dX2_unitCount_7 : decode cX2_unitCount 7 = .ok (.goto 4, 3) := by decide +kernel
theorem dX2_unitCount_10 : decode cX2_unitCount 10 = .ok (.iconst 2, 1) := by decide +kernel
theorem dX2_unitCount_11 : decode cX2_unitCount 11 = .ok (.ireturn, 1) := by decide +kernel
theorem dX2_maskOf_0 : decode cX2_maskOf 0 = .ok (.iload_n 0, 1) := by decide +kernel
theorem dX2_maskOf_1 : decode cX2_maskOf 1 = .ok (.iconst 2, 1) := by decide +kernel
theorem dX2_maskOf_2 : decode cX2_maskOf 2 = .ok (.if_icmp .ne 9, 3) := by decide +kernel
theorem dX2_maskOf_5 : decode cX2_maskOf 5 = .ok (.sipush 255, 3) := by decide +kernel
theorem dX2_maskOf_8 : decode cX2_maskOf 8 = .ok (.goto 5, 3) := by decide +kernel
theorem dX2_maskOf_11 : decode cX2_maskOf 11 = .ok (.ldc 64, 2) := by decide +kernel
theorem dX2_maskOf_13 : decode cX2_maskOf 13 = .ok (.ireturn, 1) := by decide +kernel
theorem dX2_sortOf_0 : decode cX2_sortOf 0 = .ok (.aload_n 0, 1) := by decide +kernel
theorem dX2_sortOf_1 : decode cX2_sortOf 1 = .ok (.ifnonnull 7, 3) := by decide +kernel
theorem dX2_sortOf_4 : decode cX2_sortOf 4 = .ok (.iconst (-1), 1) := by decide +kernel
theorem dX2_sortOf_5 : decode cX2_sortOf 5 = .ok (.goto 7, 3) := by decide +kernel
theorem dX2_sortOf_8 : decode cX2_sortOf 8 = .ok (.aload_n 0, 1) := by decide +kernel
theorem dX2_sortOf_9 : decode cX2_sortOf 9 = .ok (.getfield 94, 3) := by decide +kernel
theorem dX2_sortOf_12 : decode cX2_sortOf 12 = .ok (.ireturn, 1) := by decide +kernel
set_option maxRecDepth 20000 in
theorem ggX2_isInsidePair_X2_isHigh : GoodIn wsX2_isInsidePair wsX2_isHigh := goodIn_r _ [4, 5, 6] (by decide +kernel) (by decide +kernel)
set_option maxRecDepth 20000 in
theorem gX2_isInsidePair_X2_isHigh : GoodIn wsX2_isInsidePair (va_wsS RX2 167 yX2_isHigh wsX2_isHigh) := goodIn_app (goodIn_of _ (by decide +kernel)) ggX2_isInsidePair_X2_isHigh
set_option maxRecDepth 20000 in
theorem ggX2_isInsidePair_X2_isLow : GoodIn wsX2_isInsidePair wsX2_isLow := goodIn_r _ [9, 6, 10] (by decide +kernel) (by decide +kernel)
set_option maxRecDepth 20000 in
theorem gX2_isInsidePair_X2_isLow : GoodIn wsX2_isInsidePair (va_wsS RX2 170 yX2_isLow wsX2_isLow) := goodIn_app (goodIn_of _ (by decide +kernel)) ggX2_isInsidePair_X2_isLow
theorem dX2_isInsidePair_0 : decode cX2_isInsidePair 0 = .ok (.iload_n 2, 1) := by decide +kernel
theorem dX2_isInsidePair_1 : decode cX2_isInsidePair 1 = .ok (.iconst 1, 1) := by decide +kernel
theorem dX2_isInsidePair_2 : decode cX2_isInsidePair 2 = .ok (.if_icmp .lt 14, 3) := by decide +kernel
theorem dX2_isInsidePair_5 : decode cX2_isInsidePair 5 = .ok (.iload_n 2, 1) := by decide +kernel
theorem dX2_isInsidePair_6 : decode cX2_isInsidePair 6 = .ok (.iload_n 1, 1) := by decide +kernel
end
section
theorem dX2_isInsidePair_7 : decode cX2_isInsidePair 7 = .ok (.if_icmp .ge 9, 3) := by decide +kernel
theorem dX2_isInsidePair_10 : decode cX2_isInsidePair 10 = .ok (.iload_n 2, 1) := by decide +kernel
theorem dX2_isInsidePair_11 : decode cX2_isInsidePair 11 = .ok (.aload_n 0, 1) := by decide +kernel
theorem dX2_isInsidePair_12 : decode cX2_isInsidePair 12 = .ok (.arraylength, 1) := by decide +kernel
theorem dX2_isInsidePair_13 : decode cX2_isInsidePair 13 = .ok (.if_icmp .lt 5, 3) := by decide +kernel
theorem dX2_isInsidePair_16 : decode cX2_isInsidePair 16 = .ok (.iconst 0, 1) := by decide +kernel
theorem dX2_isInsidePair_17 : decode cX2_isInsidePair 17 = .ok (.ireturn, 1) := by decide +kernel
theorem dX2_isInsidePair_18 : decode cX2_isInsidePair 18 = .ok (.aload_n 0, 1) := by decide +kernel
theorem dX2_isInsidePair_19 : decode cX2_isInsidePair 19 = .ok (.iload_n 2, 1) := by decide +kernel
theorem dX2_isInsidePair_20 : decode cX2_isInsidePair 20 = .ok (.iconst 1, 1) := by decide +kernel
theorem dX2_isInsidePair_21 : decode cX2_isInsidePair 21 = .ok (.isub, 1) := by decide +kernel
theorem dX2_isInsidePair_22 : decode cX2_isInsidePair 22 = .ok (.iaload, 1) := by decide +kernel
theorem dX2_isInsidePair_23 : decode cX2_isInsidePair 23 = .ok (.invokestatic 167, 3) := by decide +kernel
theorem dX2_isInsidePair_26 : decode cX2_isInsidePair 26 = .ok (.ifCond .eq 16, 3) := by decide +kernel
theorem dX2_isInsidePair_29 : decode cX2_isInsidePair 29 = .ok (.aload_n 0, 1) := by decide +kernel
theorem dX2_isInsidePair_30 : decode cX2_isInsidePair 30 = .ok (.iload_n 2, 1) := by decide +kernel
theorem dX2_isInsidePair_31 : decode cX2_isInsidePair 31 = .ok (.iaload, 1) := by decide +kernel
theorem dX2_isInsidePair_32 : decode cX2_isInsidePair 32 = .ok (.invokestatic 170, 3) := by decide +kernel
theorem dX2_isInsidePair_35 : decode cX2_isInsidePair 35 = .ok (.ifCond .eq 7, 3) := by decide +kernel
theorem dX2_isInsidePair_38 : decode cX2_isInsidePair 38 = .ok (.iconst 1, 1) := by decide +kernel
theorem dX2_isInsidePair_39 : decode cX2_isInsidePair 39 = .ok (.goto 4, 3) := by decide +kernel
theorem dX2_isInsidePair_42 : decode cX2_isInsidePair 42 = .ok (.iconst 0, 1) := by decide +kernel
theorem dX2_isInsidePair_43 : decode cX2_isInsidePair 43 = .ok (.ireturn, 1) := by decide +kernel
theorem dX2_pairedPoint_0 : decode cX2_pairedPoint 0 = .ok (.iload_n 1, 1) := by decide +kernel
theorem dX2_pairedPoint_1 : decode cX2_pairedPoint 1 = .ok (.ifCond .lt 11, 3) := by decide +kernel
theorem dX2_pairedPoint_4 : decode cX2_pairedPoint 4 = .ok (.iload_n 1, 1) := by decide +kernel
theorem dX2_pairedPoint_5 : decode cX2_pairedPoint 5 = .ok (.aload_n 0, 1) := by decide +kernel
theorem dX2_pairedPoint_6 : decode cX2_pairedPoint 6 = .ok (.arraylength, 1) := by decide +kernel
theorem dX2_pairedPoint_7 : decode cX2_pairedPoint 7 = .ok (.iconst 1, 1) := by decide +kernel
theorem dX2_pairedPoint_8 : decode cX2_pairedPoint 8 = .ok (.isub, 1) := by decide +kernel
theorem dX2_pairedPoint_9 : decode cX2_pairedPoint 9 = .ok (.if_icmp .lt 5, 3) := by decide +kernel
theorem dX2_pairedPoint_12 : decode cX2_pairedPoint 12 = .ok (.iconst 0, 1) := by decide +kernel
theorem dX2_pairedPoint_13 : decode cX2_pairedPoint 13 = .ok (.ireturn, 1) := by decide +kernel
theorem dX2_pairedPoint_14 : decode cX2_pairedPoint 14 = .ok (.ldc 173, 2) := by decide +kernel
theorem dX2_pairedPoint_16 : decode cX2_pairedPoint 16 = .ok (.aload_n 0, 1) := by decide +kernel
theorem dX2_pairedPoint_17 : decode cX2_pairedPoint 17 = .ok (.iload_n 1, 1) := by decide +kernel
theorem dX2_pairedPoint_18 : decode cX2_pairedPoint 18 = .ok (.iaload, 1) := by decide +kernel
theorem dX2_pairedPoint_19 : decode cX2_pairedPoint 19 = .ok (.ldc 182, 2) := by decide +kernel
theorem dX2_pairedPoint_21 : decode cX2_pairedPoint 21 = .ok (.isub, 1) := by decide +kernel
theorem dX2_pairedPoint_22 : decode cX2_pairedPoint 22 = .ok (.sipush 1024, 3) := by decide +kernel
theorem dX2_pairedPoint_25 : decode cX2_pairedPoint 25 = .ok (.imul, 1) := by decide +kernel
theorem dX2_pairedPoint_26 : decode cX2_pairedPoint 26 = .ok (.iadd, 1) := by decide +kernel
theorem dX2_pairedPoint_27 : decode cX2_pairedPoint 27 = .ok (.aload_n 0, 1) := by decide +kernel
theorem dX2_pairedPoint_28 : decode cX2_pairedPoint 28 = .ok (.iload_n 1, 1) := by decide +kernel
theorem dX2_pairedPoint_29 : decode cX2_pairedPoint 29 = .ok (.iconst 1, 1) := by decide +kernel
theorem dX2_pairedPoint_30 : decode cX2_pairedPoint 30 = .ok (.iadd, 1) := by decide +kernel
theorem dX2_pairedPoint_31 : decode cX2_pairedPoint 31 = .ok (.iaload, 1) := by decide +kernel
theorem dX2_pairedPoint_32 : decode cX2_pairedPoint 32 = .ok (.ldc 183, 2) := by decide +kernel
theorem dX2_pairedPoint_34 : decode cX2_pairedPoint 34 = .ok (.isub, 1) := by decide +kernel
theorem dX2_pairedPoint_35 : decode cX2_pairedPoint 35 = .ok (.iadd, 1) := by decide +kernel
theorem dX2_pairedPoint_36 : decode cX2_pairedPoint 36 = .ok (.ireturn, 1) := by decide +kernel
set_option maxRecDepth 20000 in
theorem ggX2_partsPair_X2_isInsidePair : GoodIn wsX2_partsPair wsX2_isInsidePair := goodIn_r _ [6, 7, 8, 5, 9, 10, 11, 12, 13, 14, 15] (by decide +kernel) (by decide +kernel)
set_option maxRecDepth 20000 in
theorem gX2_partsPair_X2_isInsidePair : GoodIn wsX2_partsPair (va_wsS RX2 185 yX2_isInsidePair wsX2_isInsidePair) := goodIn_app (goodIn_of _ (by decide +kernel)) ggX2_partsPair_X2_isInsidePair
theorem dX2_partsPair_0 : decode cX2_partsPair 0 = .ok (.aload_n 0, 1) := by decide +kernel
theorem dX2_partsPair_1 : decode cX2_partsPair 1 = .ok (.getfield 94, 3) := by decide +kernel
theorem dX2_partsPair_4 : decode cX2_partsPair 4 = .ok (.ifCond .ne 23, 3) := by decide +kernel
theorem dX2_partsPair_7 : decode cX2_partsPair 7 = .ok (.aload_n 0, 1) := by decide +kernel
theorem dX2_partsPair_8 : decode cX2_partsPair 8 = .ok (.getfield 93, 3) := by decide +kernel
theorem dX2_partsPair_11 : decode cX2_partsPair 11 = .ok (.aload_n 0, 1) := by decide +kernel
theorem dX2_partsPair_12 : decode cX2_partsPair 12 = .ok (.getfield 93, 3) := by decide +kernel
theorem dX2_partsPair_15 : decode cX2_partsPair 15 = .ok (.arraylength, 1) := by decide +kernel
theorem dX2_partsPair_16 : decode cX2_partsPair 16 = .ok (.iload_n 1, 1) := by decide +kernel
theorem dX2_partsPair_17 : decode cX2_partsPair 17 = .ok (.invokestatic 185, 3) := by decide +kernel
theorem dX2_partsPair_20 : decode cX2_partsPair 20 = .ok (.ifCond .eq 7, 3) := by decide +kernel
theorem dX2_partsPair_23 : decode cX2_partsPair 23 = .ok (.iconst 1, 1) := by decide +kernel
theorem dX2_partsPair_24 : decode cX2_partsPair 24 = .ok (.goto 4, 3) := by decide +kernel
theorem dX2_partsPair_27 : decode cX2_partsPair 27 = .ok (.iconst 0, 1) := by decide +kernel
theorem dX2_partsPair_28 : decode cX2_partsPair 28 = .ok (.ireturn, 1) := by decide +kernel
theorem dX2_isBeyond_0 : decode cX2_isBeyond 0 = .ok (.aload_n 0, 1) := by decide +kernel
theorem dX2_isBeyond_1 : decode cX2_isBeyond 1 = .ok (.getfield 93, 3) := by decide +kernel
theorem dX2_isBeyond_4 : decode cX2_isBeyond 4 = .ok (.arraylength, 1) := by decide +kernel
theorem dX2_isBeyond_5 : decode cX2_isBeyond 5 = .ok (.istore_n 3, 1) := by decide +kernel
theorem dX2_isBeyond_6 : decode cX2_isBeyond 6 = .ok (.iload_n 1, 1) := by decide +kernel
theorem dX2_isBeyond_7 : decode cX2_isBeyond 7 = .ok (.ifCond .lt 19, 3) := by decide +kernel
theorem dX2_isBeyond_10 : decode cX2_isBeyond 10 = .ok (.iload_n 2, 1) := by decide +kernel
theorem dX2_isBeyond_11 : decode cX2_isBeyond 11 = .ok (.ifCond .lt 15, 3) := by decide +kernel
theorem dX2_isBeyond_14 : decode cX2_isBeyond 14 = .ok (.iload_n 1, 1) := by decide +kernel
theorem dX2_isBeyond_15 : decode cX2_isBeyond 15 = .ok (.iload_n 3, 1) := by decide +kernel
theorem dX2_isBeyond_16 : decode cX2_isBeyond 16 = .ok (.if_icmp .gt 10, 3) := by decide +kernel
theorem dX2_isBeyond_19 : decode cX2_isBeyond 19 = .ok (.iload_n 2, 1) := by decide +kernel
theorem dX2_isBeyond_20 : decode cX2_isBeyond 20 = .ok (.iload_n 3, 1) := by decide +kernel
theorem dX2_isBeyond_21 : decode cX2_isBeyond 21 = .ok (.iload_n 1, 1) := by decide +kernel
theorem dX2_isBeyond_22 : decode cX2_isBeyond 22 = .ok (.isub, 1) := by decide +kernel
theorem dX2_isBeyond_23 : decode cX2_isBeyond 23 = .ok (.if_icmp .le 7, 3) := by decide +kernel
theorem dX2_isBeyond_26 : decode cX2_isBeyond 26 = .ok (.iconst 1, 1) := by decide +kernel
theorem dX2_isBeyond_27 : decode cX2_isBeyond 27 = .ok (.goto 4, 3) := by decide +kernel
theorem dX2_isBeyond_30 : decode cX2_isBeyond 30 = .ok (.iconst 0, 1) := by decide +kernel
theorem dX2_isBeyond_31 : decode cX2_isBeyond 31 = .ok (.ireturn, 1) := by decide +kernel
set_option maxRecDepth 20000 in
theorem ggX2_listPoints_X0_empty : GoodIn wsX2_listPoints wsX0_empty := goodIn_r _ [7, 8, 39, 40] (by decide +kernel) (by decide +kernel)
set_option maxRecDepth 20000 in
theorem gX2_listPoints_X0_empty : GoodIn wsX2_listPoints (wsV RX2 68 RX0 yX0_empty wsX0_empty) := goodIn_app (goodIn_of _ (by decide +kernel)) ggX2_listPoints_X0_empty
set_option maxRecDepth 20000 in
theorem ggX2_listPoints_X0_addPointsOf : GoodIn wsX2_listPoints wsX0_addPointsOf := goodIn_r _ [12, 13, 14, 15, 16, 17, 18, 19, 20, 21, 22, 23, 24, 25, 26, 27, 28, 29, 30, 6, 31, 8, 32, 39, 40] (by decide +kernel) (by decide +kernel)
set_option maxRecDepth 20000 in
theorem gX2_listPoints_X0_addPointsOf : GoodIn wsX2_listPoints (wsV RX2 78 RX0 yX0_addPointsOf wsX0_addPointsOf) := goodIn_app (goodIn_of _ (by decide +kernel)) ggX2_listPoints_X0_addPointsOf
set_option maxRecDepth 20000 in
theorem ggX2_listPoints_X0_addAll : GoodIn wsX2_listPoints wsX0_addAll := goodIn_r _ [36, 28, 29, 30, 6, 31, 8, 32, 39, 40] (by decide +kernel) (by decide +kernel)
set_option maxRecDepth 20000 in
theorem gX2_listPoints_X0_addAll : GoodIn wsX2_listPoints (wsV RX2 140 RX0 yX0_addAll wsX0_addAll) := goodIn_app (goodIn_of _ (by decide +kernel)) ggX2_listPoints_X0_addAll
theorem dX2_listPoints_0 : decode cX2_listPoints 0 = .ok (.aload_n 1, 1) := by decide +kernel
theorem dX2_listPoints_1 : decode cX2_listPoints 1 = .ok (.invokevirtual 68, 3) := by decide +kernel
theorem dX2_listPoints_4 : decode cX2_listPoints 4 = .ok (.aload_n 0, 1) := by decide +kernel
theorem dX2_listPoints_5 : decode cX2_listPoints 5 = .ok (.getfield 94, 3) := by decide +kernel
theorem dX2_listPoints_8 : decode cX2_listPoints 8 = .ok (.ifCond .ne 19, 3) := by decide +kernel
theorem dX2_listPoints_11 : decode cX2_listPoints 11 = .ok (.aload_n 1, 1) := by decide +kernel
theorem dX2_listPoints_12 : decode cX2_listPoints 12 = .ok (.aload_n 0, 1) := by decide +kernel
theorem dX2_listPoints_13 : decode cX2_listPoints 13 = .ok (.getfield 93, 3) := by decide +kernel
theorem dX2_listPoints_16 : decode cX2_listPoints 16 = .ok (.aload_n 0, 1) := by decide +kernel
theorem dX2_listPoints_17 : decode cX2_listPoints 17 = .ok (.getfield 93, 3) := by decide +kernel
theorem dX2_listPoints_20 : decode cX2_listPoints 20 = .ok (.arraylength, 1) := by decide +kernel
theorem dX2_listPoints_21 : decode cX2_listPoints 21 = .ok (.invokevirtual 78, 3) := by decide +kernel
theorem dX2_listPoints_24 : decode cX2_listPoints 24 = .ok (.goto 11, 3) := by decide +kernel
theorem dX2_listPoints_27 : decode cX2_listPoints 27 = .ok (.aload_n 1, 1) := by decide +kernel
theorem dX2_listPoints_28 : decode cX2_listPoints 28 = .ok (.aload_n 0, 1) := by decide +kernel
theorem dX2_listPoints_29 : decode cX2_listPoints 29 = .ok (.getfield 93, 3) := by decide +kernel
theorem dX2_listPoints_32 : decode cX2_listPoints 32 = .ok (.invokevirtual 140, 3) := by decide +kernel
theorem dX2_listPoints_35 : decode cX2_listPoints 35 = .ok (.return_, 1) := by decide +kernel
set_option maxRecDepth 20000 in
theorem ggX2_listUnits_X0_empty : GoodIn wsX2_listUnits wsX0_empty := goodIn_r _ [7, 8, 27, 28] (by decide +kernel) (by decide +kernel)
set_option maxRecDepth 20000 in
theorem gX2_listUnits_X0_empty : GoodIn wsX2_listUnits (wsV RX2 68 RX0 yX0_empty wsX0_empty) := goodIn_app (goodIn_of _ (by decide +kernel)) ggX2_listUnits_X0_empty
set_option maxRecDepth 20000 in
theorem ggX2_listUnits_X0_addAll : GoodIn wsX2_listUnits wsX0_addAll := goodIn_r _ [12, 13, 14, 15, 6, 16, 8, 17, 27, 28] (by decide +kernel) (by decide +kernel)
set_option maxRecDepth 20000 in
theorem gX2_listUnits_X0_addAll : GoodIn wsX2_listUnits (wsV RX2 140 RX0 yX0_addAll wsX0_addAll) := goodIn_app (goodIn_of _ (by decide +kernel)) ggX2_listUnits_X0_addAll
set_option maxRecDepth 20000 in
theorem ggX2_listUnits_X0_addUnitsOf : GoodIn wsX2_listUnits wsX0_addUnitsOf := goodIn_r _ [21, 22, 23, 24, 13, 14, 15, 6, 16, 8, 17, 27, 28] (by decide +kernel) (by decide +kernel)
set_option maxRecDepth 20000 in
theorem gX2_listUnits_X0_addUnitsOf : GoodIn wsX2_listUnits (wsV RX2 58 RX0 yX0_addUnitsOf wsX0_addUnitsOf) := goodIn_app (goodIn_of _ (by decide +kernel)) ggX2_listUnits_X0_addUnitsOf
theorem dX2_listUnits_0 : decode cX2_listUnits 0 = .ok (.aload_n 1, 1) := by decide +kernel
theorem dX2_listUnits_1 : decode cX2_listUnits 1 = .ok (.invokevirtual 68, 3) := by decide +kernel
theorem dX2_listUnits_4 : decode cX2_listUnits 4 = .ok (.aload_n 0, 1) := by decide +kernel
theorem dX2_listUnits_5 : decode cX2_listUnits 5 = .ok (.getfield 94, 3) := by decide +kernel
theorem dX2_listUnits_8 : decode cX2_listUnits 8 = .ok (.iconst 1, 1) := by decide +kernel
theorem dX2_listUnits_9 : decode cX2_listUnits 9 = .ok (.if_icmp .eq 12, 3) := by decide +kernel
theorem dX2_listUnits_12 : decode cX2_listUnits 12 = .ok (.aload_n 1, 1) := by decide +kernel
theorem dX2_listUnits_13 : decode cX2_listUnits 13 = .ok (.aload_n 0, 1) := by decide +kernel
theorem dX2_listUnits_14 : decode cX2_listUnits 14 = .ok (.getfield 93, 3) := by decide +kernel
theorem dX2_listUnits_17 : decode cX2_listUnits 17 = .ok (.invokevirtual 140, 3) := by decide +kernel
theorem dX2_listUnits_20 : decode cX2_listUnits 20 = .ok (.return_, 1) := by decide +kernel
theorem dX2_listUnits_21 : decode cX2_listUnits 21 = .ok (.iconst 0, 1) := by decide +kernel
theorem dX2_listUnits_22 : decode cX2_listUnits 22 = .ok (.istore_n 2, 1) := by decide +kernel
theorem dX2_listUnits_23 : decode cX2_listUnits 23 = .ok (.iload_n 2, 1) := by decide +kernel
theorem dX2_listUnits_24 : decode cX2_listUnits 24 = .ok (.aload_n 0, 1) := by decide +kernel
theorem dX2_listUnits_25 : decode cX2_listUnits 25 = .ok (.getfield 93, 3) := by decide +kernel
theorem dX2_listUnits_28 : decode cX2_listUnits 28 = .ok (.arraylength, 1) := by decide +kernel
theorem dX2_listUnits_29 : decode cX2_listUnits 29 = .ok (.if_icmp .ge 19, 3) := by decide +kernel
theorem dX2_listUnits_32 : decode cX2_listUnits 32 = .ok (.aload_n 1, 1) := by decide +kernel
theorem dX2_listUnits_33 : decode cX2_listUnits 33 = .ok (.aload_n 0, 1) := by decide +kernel
theorem dX2_listUnits_34 : decode cX2_listUnits 34 = .ok (.getfield 93, 3) := by decide +kernel
theorem dX2_listUnits_37 : decode cX2_listUnits 37 = .ok (.iload_n 2, 1) := by decide +kernel
theorem dX2_listUnits_38 : decode cX2_listUnits 38 = .ok (.iaload, 1) := by decide +kernel
theorem dX2_listUnits_39 : decode cX2_listUnits 39 = .ok (.invokevirtual 58, 3) := by decide +kernel
theorem dX2_listUnits_42 : decode cX2_listUnits 42 = .ok (.iinc 2 1, 3) := by decide +kernel
theorem dX2_listUnits_45 : decode cX2_listUnits 45 = .ok (.goto (-22), 3) := by decide +kernel
theorem dX2_listUnits_48 : decode cX2_listUnits 48 = .ok (.return_, 1) := by decide +kernel
set_option maxRecDepth 20000 in
theorem ggX2_firstUntellable_X2_isHigh : GoodIn wsX2_firstUntellable wsX2_isHigh := goodIn_r _ [6, 7, 8] (by decide +kernel) (by decide +kernel)
set_option maxRecDepth 20000 in
theorem gX2_firstUntellable_X2_isHigh : GoodIn wsX2_firstUntellable (va_wsS RX2 167 yX2_isHigh wsX2_isHigh) := goodIn_app (goodIn_of _ (by decide +kernel)) ggX2_firstUntellable_X2_isHigh
set_option maxRecDepth 20000 in
theorem ggX2_firstUntellable_X2_isLow : GoodIn wsX2_firstUntellable wsX2_isLow := goodIn_r _ [11, 8, 12] (by decide +kernel) (by decide +kernel)
set_option maxRecDepth 20000 in
theorem gX2_firstUntellable_X2_isLow : GoodIn wsX2_firstUntellable (va_wsS RX2 170 yX2_isLow wsX2_isLow) := goodIn_app (goodIn_of _ (by decide +kernel)) ggX2_firstUntellable_X2_isLow
theorem dX2_firstUntellable_0 : decode cX2_firstUntellable 0 = .ok (.iconst 0, 1) := by decide +kernel
theorem dX2_firstUntellable_1 : decode cX2_firstUntellable 1 = .ok (.istore_n 2, 1) := by decide +kernel
theorem dX2_firstUntellable_2 : decode cX2_firstUntellable 2 = .ok (.iload_n 2, 1) := by decide +kernel
theorem dX2_firstUntellable_3 : decode cX2_firstUntellable 3 = .ok (.aload_n 0, 1) := by decide +kernel
theorem dX2_firstUntellable_4 : decode cX2_firstUntellable 4 = .ok (.getfield 48, 3) := by decide +kernel
theorem dX2_firstUntellable_7 : decode cX2_firstUntellable 7 = .ok (.if_icmp .ge 56, 3) := by decide +kernel
theorem dX2_firstUntellable_10 : decode cX2_firstUntellable 10 = .ok (.iload_n 2, 1) := by decide +kernel
theorem dX2_firstUntellable_11 : decode cX2_firstUntellable 11 = .ok (.aload_n 0, 1) := by decide +kernel
theorem dX2_firstUntellable_12 : decode cX2_firstUntellable 12 = .ok (.getfield 74, 3) := by decide +kernel
theorem dX2_firstUntellable_15 : decode cX2_firstUntellable 15 = .ok (.arraylength, 1) := by decide +kernel
theorem dX2_firstUntellable_16 : decode cX2_firstUntellable 16 = .ok (.if_icmp .ge 47, 3) := by decide +kernel
theorem dX2_firstUntellable_19 : decode cX2_firstUntellable 19 = .ok (.aload_n 0, 1) := by decide +kernel
theorem dX2_firstUntellable_20 : decode cX2_firstUntellable 20 = .ok (.getfield 74, 3) := by decide +kernel
theorem dX2_firstUntellable_23 : decode cX2_firstUntellable 23 = .ok (.iload_n 2, 1) := by decide +kernel
theorem dX2_firstUntellable_24 : decode cX2_firstUntellable 24 = .ok (.iaload, 1) := by decide +kernel
theorem dX2_firstUntellable_25 : decode cX2_firstUntellable 25 = .ok (.istore_n 3, 1) := by decide +kernel
theorem dX2_firstUntellable_26 : decode cX2_firstUntellable 26 = .ok (.iload_n 1, 1) := by decide +kernel
theorem dX2_firstUntellable_27 : decode cX2_firstUntellable 27 = .ok (.iconst 3, 1) := by decide +kernel
theorem dX2_firstUntellable_28 : decode cX2_firstUntellable 28 = .ok (.if_icmp .ne 13, 3) := by decide +kernel
theorem dX2_firstUntellable_31 : decode cX2_firstUntellable 31 = .ok (.iload_n 3, 1) := by decide +kernel
theorem dX2_firstUntellable_32 : decode cX2_firstUntellable 32 = .ok (.sipush 255, 3) := by decide +kernel
theorem dX2_firstUntellable_35 : decode cX2_firstUntellable 35 = .ok (.if_icmp .le 22, 3) := by decide +kernel
theorem dX2_firstUntellable_38 : decode cX2_firstUntellable 38 = .ok (.goto 17, 3) := by decide +kernel
theorem dX2_firstUntellable_41 : decode cX2_firstUntellable 41 = .ok (.iload_n 3, 1) := by decide +kernel
theorem dX2_firstUntellable_42 : decode cX2_firstUntellable 42 = .ok (.invokestatic 167, 3) := by decide +kernel
theorem dX2_firstUntellable_45 : decode cX2_firstUntellable 45 = .ok (.ifCond .ne 10, 3) := by decide +kernel
theorem dX2_firstUntellable_48 : decode cX2_firstUntellable 48 = .ok (.iload_n 3, 1) := by decide +kernel
theorem dX2_firstUntellable_49 : decode cX2_firstUntellable 49 = .ok (.invokestatic 170, 3) := by decide +kernel
theorem dX2_firstUntellable_52 : decode cX2_firstUntellable 52 = .ok (.ifCond .eq 5, 3) := by decide +kernel
theorem dX2_firstUntellable_55 : decode cX2_firstUntellable 55 = .ok (.iload_n 2, 1) := by decide +kernel
theorem dX2_firstUntellable_56 : decode cX2_firstUntellable 56 = .ok (.ireturn, 1) := by decide +kernel
theorem dX2_firstUntellable_57 : decode cX2_firstUntellable 57 = .ok (.iinc 2 1, 3) := by decide +kernel
theorem dX2_firstUntellable_60 : decode cX2_firstUntellable 60 = .ok (.goto (-58), 3) := by decide +kernel
theorem dX2_firstUntellable_63 : decode cX2_firstUntellable 63 = .ok (.iconst (-1), 1) := by decide +kernel
theorem dX2_firstUntellable_64 : decode cX2_firstUntellable 64 = .ok (.ireturn, 1) := by decide +kernel
set_option maxRecDepth 20000 in
theorem ggX2_tellUnits_X0_add : GoodIn wsX2_tellUnits wsX0_add := goodIn_r _ [7, 8, 9, 10, 11] (by decide +kernel) (by decide +kernel)
set_option maxRecDepth 20000 in
theorem gX2_tellUnits_X0_add : GoodIn wsX2_tellUnits (wsV RX2 65 RX0 yX0_add wsX0_add) := goodIn_app (goodIn_of _ (by decide +kernel)) ggX2_tellUnits_X0_add
theorem dX2_tellUnits_0 : decode cX2_tellUnits 0 = .ok (.iconst 0, 1) := by decide +kernel
theorem dX2_tellUnits_1 : decode cX2_tellUnits 1 = .ok (.istore_n 3, 1) := by decide +kernel
theorem dX2_tellUnits_2 : decode cX2_tellUnits 2 = .ok (.iload_n 3, 1) := by decide +kernel
theorem dX2_tellUnits_3 : decode cX2_tellUnits 3 = .ok (.aload_n 0, 1) := by decide +kernel
theorem dX2_tellUnits_4 : decode cX2_tellUnits 4 = .ok (.getfield 48, 3) := by decide +kernel
theorem dX2_tellUnits_7 : decode cX2_tellUnits 7 = .ok (.if_icmp .ge 74, 3) := by decide +kernel
theorem dX2_tellUnits_10 : decode cX2_tellUnits 10 = .ok (.iload_n 3, 1) := by decide +kernel
theorem dX2_tellUnits_11 : decode cX2_tellUnits 11 = .ok (.aload_n 0, 1) := by decide +kernel
theorem dX2_tellUnits_12 : decode cX2_tellUnits 12 = .ok (.getfield 74, 3) := by decide +kernel
theorem dX2_tellUnits_15 : decode cX2_tellUnits 15 = .ok (.arraylength, 1) := by decide +kernel
theorem dX2_tellUnits_16 : decode cX2_tellUnits 16 = .ok (.if_icmp .ge 65, 3) := by decide +kernel
theorem dX2_tellUnits_19 : decode cX2_tellUnits 19 = .ok (.aload_n 0, 1) := by decide +kernel
theorem dX2_tellUnits_20 : decode cX2_tellUnits 20 = .ok (.getfield 74, 3) := by decide +kernel
theorem dX2_tellUnits_23 : decode cX2_tellUnits 23 = .ok (.iload_n 3, 1) := by decide +kernel
theorem dX2_tellUnits_24 : decode cX2_tellUnits 24 = .ok (.iaload, 1) := by decide +kernel
theorem dX2_tellUnits_25 : decode cX2_tellUnits 25 = .ok (.sipush 256, 3) := by decide +kernel
theorem dX2_tellUnits_28 : decode cX2_tellUnits 28 = .ok (.idiv, 1) := by decide +kernel
theorem dX2_tellUnits_29 : decode cX2_tellUnits 29 = .ok (.istore 4, 2) := by decide +kernel
theorem dX2_tellUnits_31 : decode cX2_tellUnits 31 = .ok (.aload_n 0, 1) := by decide +kernel
theorem dX2_tellUnits_32 : decode cX2_tellUnits 32 = .ok (.getfield 74, 3) := by decide +kernel
theorem dX2_tellUnits_35 : decode cX2_tellUnits 35 = .ok (.iload_n 3, 1) := by decide +kernel
theorem dX2_tellUnits_36 : decode cX2_tellUnits 36 = .ok (.iaload, 1) := by decide +kernel
theorem dX2_tellUnits_37 : decode cX2_tellUnits 37 = .ok (.sipush 256, 3) := by decide +kernel
theorem dX2_tellUnits_40 : decode cX2_tellUnits 40 = .ok (.irem, 1) := by decide +kernel
theorem dX2_tellUnits_41 : decode cX2_tellUnits 41 = .ok (.istore 5, 2) := by decide +kernel
theorem dX2_tellUnits_43 : decode cX2_tellUnits 43 = .ok (.aload_n 2, 1) := by decide +kernel
theorem dX2_tellUnits_44 : decode cX2_tellUnits 44 = .ok (.iload_n 1, 1) := by decide +kernel
theorem dX2_tellUnits_45 : decode cX2_tellUnits 45 = .ok (.iconst 1, 1) := by decide +kernel
theorem dX2_tellUnits_46 : decode cX2_tellUnits 46 = .ok (.if_icmp .ne 8, 3) := by decide +kernel
theorem dX2_tellUnits_49 : decode cX2_tellUnits 49 = .ok (.iload 4, 2) := by decide +kernel
theorem dX2_tellUnits_51 : decode cX2_tellUnits 51 = .ok (.goto 5, 3) := by decide +kernel
theorem dX2_tellUnits_54 : decode cX2_tellUnits 54 = .ok (.iload 5, 2) := by decide +kernel
theorem dX2_tellUnits_56 : decode cX2_tellUnits 56 = .ok (.invokevirtual 65, 3) := by decide +kernel
theorem dX2_tellUnits_59 : decode cX2_tellUnits 59 = .ok (.aload_n 2, 1) := by decide +kernel
theorem dX2_tellUnits_60 : decode cX2_tellUnits 60 = .ok (.iload_n 1, 1) := by decide +kernel
theorem dX2_tellUnits_61 : decode cX2_tellUnits 61 = .ok (.iconst 1, 1) := by decide +kernel
theorem dX2_tellUnits_62 : decode cX2_tellUnits 62 = .ok (.if_icmp .ne 8, 3) := by decide +kernel
theorem dX2_tellUnits_65 : decode cX2_tellUnits 65 = .ok (.iload 5, 2) := by decide +kernel
theorem dX2_tellUnits_67 : decode cX2_tellUnits 67 = .ok (.goto 5, 3) := by decide +kernel
theorem dX2_tellUnits_70 : decode cX2_tellUnits 70 = .ok (.iload 4, 2) := by decide +kernel
theorem dX2_tellUnits_72 : decode cX2_tellUnits 72 = .ok (.invokevirtual 65, 3) := by decide +kernel
theorem dX2_tellUnits_75 : decode cX2_tellUnits 75 = .ok (.iinc 3 1, 3) := by decide +kernel
theorem dX2_tellUnits_78 : decode cX2_tellUnits 78 = .ok (.goto (-76), 3) := by decide +kernel
theorem dX2_tellUnits_81 : decode cX2_tellUnits 81 = .ok (.return_, 1) := by decide +kernel
set_option maxRecDepth 20000 in
theorem ggX2_tellPoints_X0_add : GoodIn wsX2_tellPoints wsX0_add := goodIn_r _ [7, 8, 9, 16, 17] (by decide +kernel) (by decide +kernel)
set_option maxRecDepth 20000 in
theorem gX2_tellPoints_X0_add : GoodIn wsX2_tellPoints (wsV RX2 65 RX0 yX0_add wsX0_add) := goodIn_app (goodIn_of _ (by decide +kernel)) ggX2_tellPoints_X0_add
set_option maxRecDepth 20000 in
theorem ggX2_tellPoints_X2_tellInManyBytes : GoodIn wsX2_tellPoints wsX2_tellInManyBytes := goodIn_r _ [13, 14, 15, 3, 4, 5, 6, 7, 8, 9, 16, 17] (by decide +kernel) (by decide +kernel)
set_option maxRecDepth 20000 in
theorem gX2_tellPoints_X2_tellInManyBytes : GoodIn wsX2_tellPoints (va_wsS RX2 189 yX2_tellInManyBytes wsX2_tellInManyBytes) := goodIn_app (goodIn_of _ (by decide +kernel)) ggX2_tellPoints_X2_tellInManyBytes
theorem dX2_tellPoints_0 : decode cX2_tellPoints 0 = .ok (.iconst 0, 1) := by decide +kernel
theorem dX2_tellPoints_1 : decode cX2_tellPoints 1 = .ok (.istore_n 3, 1) := by decide +kernel
theorem dX2_tellPoints_2 : decode cX2_tellPoints 2 = .ok (.iload_n 3, 1) := by decide +kernel
theorem dX2_tellPoints_3 : decode cX2_tellPoints 3 = .ok (.aload_n 0, 1) := by decide +kernel
theorem dX2_tellPoints_4 : decode cX2_tellPoints 4 = .ok (.getfield 48, 3) := by decide +kernel
theorem dX2_tellPoints_7 : decode cX2_tellPoints 7 = .ok (.if_icmp .ge 46, 3) := by decide +kernel
theorem dX2_tellPoints_10 : decode cX2_tellPoints 10 = .ok (.iload_n 3, 1) := by decide +kernel
theorem dX2_tellPoints_11 : decode cX2_tellPoints 11 = .ok (.aload_n 0, 1) := by decide +kernel
theorem dX2_tellPoints_12 : decode cX2_tellPoints 12 = .ok (.getfield 74, 3) := by decide +kernel
theorem dX2_tellPoints_15 : decode cX2_tellPoints 15 = .ok (.arraylength, 1) := by decide +kernel
theorem dX2_tellPoints_16 : decode cX2_tellPoints 16 = .ok (.if_icmp .ge 37, 3) := by decide +kernel
theorem dX2_tellPoints_19 : decode cX2_tellPoints 19 = .ok (.iload_n 1, 1) := by decide +kernel
theorem dX2_tellPoints_20 : decode cX2_tellPoints 20 = .ok (.iconst 3, 1) := by decide +kernel
theorem dX2_tellPoints_21 : decode cX2_tellPoints 21 = .ok (.if_icmp .ne 16, 3) := by decide +kernel
theorem dX2_tellPoints_24 : decode cX2_tellPoints 24 = .ok (.aload_n 2, 1) := by decide +kernel
theorem dX2_tellPoints_25 : decode cX2_tellPoints 25 = .ok (.aload_n 0, 1) := by decide +kernel
theorem dX2_tellPoints_26 : decode cX2_tellPoints 26 = .ok (.getfield 74, 3) := by decide +kernel
theorem dX2_tellPoints_29 : decode cX2_tellPoints 29 = .ok (.iload_n 3, 1) := by decide +kernel
theorem dX2_tellPoints_30 : decode cX2_tellPoints 30 = .ok (.iaload, 1) := by decide +kernel
theorem dX2_tellPoints_31 : decode cX2_tellPoints 31 = .ok (.invokevirtual 65, 3) := by decide +kernel
theorem dX2_tellPoints_34 : decode cX2_tellPoints 34 = .ok (.goto 13, 3) := by decide +kernel
theorem dX2_tellPoints_37 : decode cX2_tellPoints 37 = .ok (.aload_n 0, 1) := by decide +kernel
theorem dX2_tellPoints_38 : decode cX2_tellPoints 38 = .ok (.getfield 74, 3) := by decide +kernel
theorem dX2_tellPoints_41 : decode cX2_tellPoints 41 = .ok (.iload_n 3, 1) := by decide +kernel
theorem dX2_tellPoints_42 : decode cX2_tellPoints 42 = .ok (.iaload, 1) := by decide +kernel
theorem dX2_tellPoints_43 : decode cX2_tellPoints 43 = .ok (.aload_n 2, 1) := by decide +kernel
theorem dX2_tellPoints_44 : decode cX2_tellPoints 44 = .ok (.invokestatic 189, 3) := by decide +kernel
theorem dX2_tellPoints_47 : decode cX2_tellPoints 47 = .ok (.iinc 3 1, 3) := by decide +kernel
theorem dX2_tellPoints_50 : decode cX2_tellPoints 50 = .ok (.goto (-48), 3) := by decide +kernel
theorem dX2_tellPoints_53 : decode cX2_tellPoints 53 = .ok (.return_, 1) := by decide +kernel
set_option maxRecDepth 20000 in
theorem ggX2_tellInManyBytes_X0_add : GoodIn wsX2_tellInManyBytes wsX0_add := goodIn_r _ [7, 8, 9, 10, 11] (by decide +kernel) (by decide +kernel)
set_option maxRecDepth 20000 in
theorem gX2_tellInManyBytes_X0_add : GoodIn wsX2_tellInManyBytes (wsV RX2 65 RX0 yX0_add wsX0_add) := goodIn_app (goodIn_of _ (by decide +kernel)) ggX2_tellInManyBytes_X0_add
theorem dX2_tellInManyBytes_0 : decode cX2_tellInManyBytes 0 = .ok (.iload_n 0, 1) := by decide +kernel
theorem dX2_tellInManyBytes_1 : decode cX2_tellInManyBytes 1 = .ok (.sipush 128, 3) := by decide +kernel
theorem dX2_tellInManyBytes_4 : decode cX2_tellInManyBytes 4 = .ok (.if_icmp .ge 9, 3) := by decide +kernel
theorem dX2_tellInManyBytes_7 : decode cX2_tellInManyBytes 7 = .ok (.aload_n 1, 1) := by decide +kernel
theorem dX2_tellInManyBytes_8 : decode cX2_tellInManyBytes 8 = .ok (.iload_n 0, 1) := by decide +kernel
theorem dX2_tellInManyBytes_9 : decode cX2_tellInManyBytes 9 = .ok (.invokevirtual 65, 3) := by decide +kernel
theorem dX2_tellInManyBytes_12 : decode cX2_tellInManyBytes 12 = .ok (.return_, 1) := by decide +kernel
theorem dX2_tellInManyBytes_13 : decode cX2_tellInManyBytes 13 = .ok (.iload_n 0, 1) := by decide +kernel
theorem dX2_tellInManyBytes_14 : decode cX2_tellInManyBytes 14 = .ok (.sipush 2048, 3) := by decide +kernel
theorem dX2_tellInManyBytes_17 : decode cX2_tellInManyBytes 17 = .ok (.if_icmp .ge 18, 3) := by decide +kernel
theorem dX2_tellInManyBytes_20 : decode cX2_tellInManyBytes 20 = .ok (.aload_n 1, 1) := by decide +kernel
theorem dX2_tellInManyBytes_21 : decode cX2_tellInManyBytes 21 = .ok (.sipush 192, 3) := by decide +kernel
theorem dX2_tellInManyBytes_24 : decode cX2_tellInManyBytes 24 = .ok (.iload_n 0, 1) := by decide +kernel
theorem dX2_tellInManyBytes_25 : decode cX2_tellInManyBytes 25 = .ok (.bipush 64, 2) := by decide +kernel
theorem dX2_tellInManyBytes_27 : decode cX2_tellInManyBytes 27 = .ok (.idiv, 1) := by decide +kernel
theorem dX2_tellInManyBytes_28 : decode cX2_tellInManyBytes 28 = .ok (.iadd, 1) := by decide +kernel
theorem dX2_tellInManyBytes_29 : decode cX2_tellInManyBytes 29 = .ok (.invokevirtual 65, 3) := by decide +kernel
theorem dX2_tellInManyBytes_32 : decode cX2_tellInManyBytes 32 = .ok (.goto 83, 3) := by decide +kernel
theorem dX2_tellInManyBytes_35 : decode cX2_tellInManyBytes 35 = .ok (.iload_n 0, 1) := by decide +kernel
theorem dX2_tellInManyBytes_36 : decode cX2_tellInManyBytes 36 = .ok (.ldc 173, 2) := by decide +kernel
theorem dX2_tellInManyBytes_38 : decode cX2_tellInManyBytes 38 = .ok (.if_icmp .ge 34, 3) := by decide +kernel
theorem dX2_tellInManyBytes_41 : decode cX2_tellInManyBytes 41 = .ok (.aload_n 1, 1) := by decide +kernel
theorem dX2_tellInManyBytes_42 : decode cX2_tellInManyBytes 42 = .ok (.sipush 224, 3) := by decide +kernel
theorem dX2_tellInManyBytes_45 : decode cX2_tellInManyBytes 45 = .ok (.iload_n 0, 1) := by decide +kernel
theorem dX2_tellInManyBytes_46 : decode cX2_tellInManyBytes 46 = .ok (.sipush 4096, 3) := by decide +kernel
theorem dX2_tellInManyBytes_49 : decode cX2_tellInManyBytes 49 = .ok (.idiv, 1) := by decide +kernel
theorem dX2_tellInManyBytes_50 : decode cX2_tellInManyBytes 50 = .ok (.iadd, 1) := by decide +kernel
theorem dX2_tellInManyBytes_51 : decode cX2_tellInManyBytes 51 = .ok (.invokevirtual 65, 3) := by decide +kernel
theorem dX2_tellInManyBytes_54 : decode cX2_tellInManyBytes 54 = .ok (.aload_n 1, 1) := by decide +kernel
theorem dX2_tellInManyBytes_55 : decode cX2_tellInManyBytes 55 = .ok (.sipush 128, 3) := by decide +kernel
theorem dX2_tellInManyBytes_58 : decode cX2_tellInManyBytes 58 = .ok (.iload_n 0, 1) := by decide +kernel
theorem dX2_tellInManyBytes_59 : decode cX2_tellInManyBytes 59 = .ok (.bipush 64, 2) := by decide +kernel
theorem dX2_tellInManyBytes_61 : decode cX2_tellInManyBytes 61 = .ok (.idiv, 1) := by decide +kernel
theorem dX2_tellInManyBytes_62 : decode cX2_tellInManyBytes 62 = .ok (.bipush 64, 2) := by decide +kernel
theorem dX2_tellInManyBytes_64 : decode cX2_tellInManyBytes 64 = .ok (.irem, 1) := by decide +kernel
theorem dX2_tellInManyBytes_65 : decode cX2_tellInManyBytes 65 = .ok (.iadd, 1) := by decide +kernel
theorem dX2_tellInManyBytes_66 : decode cX2_tellInManyBytes 66 = .ok (.invokevirtual 65, 3) := by decide +kernel
theorem dX2_tellInManyBytes_69 : decode cX2_tellInManyBytes 69 = .ok (.goto 46, 3) := by decide +kernel
theorem dX2_tellInManyBytes_72 : decode cX2_tellInManyBytes 72 = .ok (.aload_n 1, 1) := by decide +kernel
theorem dX2_tellInManyBytes_73 : decode cX2_tellInManyBytes 73 = .ok (.sipush 240, 3) := by decide +kernel
theorem dX2_tellInManyBytes_76 : decode cX2_tellInManyBytes 76 = .ok (.iload_n 0, 1) := by decide +kernel
theorem dX2_tellInManyBytes_77 : decode cX2_tellInManyBytes 77 = .ok (.ldc 192, 2) := by decide +kernel
theorem dX2_tellInManyBytes_79 : decode cX2_tellInManyBytes 79 = .ok (.idiv, 1) := by decide +kernel
theorem dX2_tellInManyBytes_80 : decode cX2_tellInManyBytes 80 = .ok (.iadd, 1) := by decide +kernel
theorem dX2_tellInManyBytes_81 : decode cX2_tellInManyBytes 81 = .ok (.invokevirtual 65, 3) := by decide +kernel
theorem dX2_tellInManyBytes_84 : decode cX2_tellInManyBytes 84 = .ok (.aload_n 1, 1) := by decide +kernel
theorem dX2_tellInManyBytes_85 : decode cX2_tellInManyBytes 85 = .ok (.sipush 128, 3) := by decide +kernel
theorem dX2_tellInManyBytes_88 : decode cX2_tellInManyBytes 88 = .ok (.iload_n 0, 1) := by decide +kernel
theorem dX2_tellInManyBytes_89 : decode cX2_tellInManyBytes 89 = .ok (.sipush 4096, 3) := by decide +kernel
theorem dX2_tellInManyBytes_92 : decode cX2_tellInManyBytes 92 = .ok (.idiv, 1) := by decide +kernel
theorem dX2_tellInManyBytes_93 : decode cX2_tellInManyBytes 93 = .ok (.bipush 64, 2) := by decide +kernel
theorem dX2_tellInManyBytes_95 : decode cX2_tellInManyBytes 95 = .ok (.irem, 1) := by decide +kernel
theorem dX2_tellInManyBytes_96 : decode cX2_tellInManyBytes 96 = .ok (.iadd, 1) := by decide +kernel
theorem dX2_tellInManyBytes_97 : decode cX2_tellInManyBytes 97 = .ok (.invokevirtual 65, 3) := by decide +kernel
theorem dX2_tellInManyBytes_100 : decode cX2_tellInManyBytes 100 = .ok (.aload_n 1, 1) := by decide +kernel
theorem dX2_tellInManyBytes_101 : decode cX2_tellInManyBytes 101 = .ok (.sipush 128, 3) := by decide +kernel
theorem dX2_tellInManyBytes_104 : decode cX2_tellInManyBytes 104 = .ok (.iload_n 0, 1) := by decide +kernel
theorem dX2_tellInManyBytes_105 : decode cX2_tellInManyBytes 105 = .ok (.bipush 64, 2) := by decide +kernel
theorem dX2_tellInManyBytes_107 : decode cX2_tellInManyBytes 107 = .ok (.idiv, 1) := by decide +kernel
theorem dX2_tellInManyBytes_108 : decode cX2_tellInManyBytes 108 = .ok (.bipush 64, 2) := by decide +kernel
theorem dX2_tellInManyBytes_110 : decode cX2_tellInManyBytes 110 = .ok (.irem, 1) := by decide +kernel
theorem dX2_tellInManyBytes_111 : decode cX2_tellInManyBytes 111 = .ok (.iadd, 1) := by decide +kernel
theorem dX2_tellInManyBytes_112 : decode cX2_tellInManyBytes 112 = .ok (.invokevirtual 65, 3) := by decide +kernel
theorem dX2_tellInManyBytes_115 : decode cX2_tellInManyBytes 115 = .ok (.aload_n 1, 1) := by decide +kernel
theorem dX2_tellInManyBytes_116 : decode cX2_tellInManyBytes 116 = .ok (.sipush 128, 3) := by decide +kernel
theorem dX2_tellInManyBytes_119 : decode cX2_tellInManyBytes 119 = .ok (.iload_n 0, 1) := by decide +kernel
theorem dX2_tellInManyBytes_120 : decode cX2_tellInManyBytes 120 = .ok (.bipush 64, 2) := by decide +kernel
theorem dX2_tellInManyBytes_122 : decode cX2_tellInManyBytes 122 = .ok (.irem, 1) := by decide +kernel
theorem dX2_tellInManyBytes_123 : decode cX2_tellInManyBytes 123 = .ok (.iadd, 1) := by decide +kernel
theorem dX2_tellInManyBytes_124 : decode cX2_tellInManyBytes 124 = .ok (.invokevirtual 65, 3) := by decide +kernel
theorem dX2_tellInManyBytes_127 : decode cX2_tellInManyBytes 127 = .ok (.return_, 1) := by decide +kernel
set_option maxRecDepth 20000 in
theorem ggX2_readUnits_X0_empty : GoodIn wsX2_readUnits wsX0_empty := goodIn_r _ [5, 6, 55, 56] (by decide +kernel) (by decide +kernel)
set_option maxRecDepth 20000 in
theorem gX2_readUnits_X0_empty : GoodIn wsX2_readUnits (wsV RX2 68 RX0 yX0_empty wsX0_empty) := goodIn_app (goodIn_of _ (by decide +kernel)) ggX2_readUnits_X0_empty
set_option maxRecDepth 20000 in
theorem ggX2_readUnits_X2_readManyBytes : GoodIn wsX2_readUnits wsX2_readManyBytes := goodIn_r _ [10, 11, 12, 13, 9, 14, 15, 16, 17, 18, 19, 20, 21, 22, 23, 24, 25, 26, 27, 28, 29, 30, 31, 32, 33, 34, 35, 36, 37, 4, 38, 39, 40, 41, 42, 43, 44, 45, 6, 46, 55, 56] (by decide +kernel) (by decide +kernel)
set_option maxRecDepth 20000 in
theorem gX2_readUnits_X2_readManyBytes : GoodIn wsX2_readUnits (va_wsS RX2 193 yX2_readManyBytes wsX2_readManyBytes) := goodIn_app (goodIn_of _ (by decide +kernel)) ggX2_readUnits_X2_readManyBytes
set_option maxRecDepth 20000 in
theorem ggX2_readUnits_X0_addAll : GoodIn wsX2_readUnits wsX0_addAll := goodIn_r _ [50, 42, 43, 44, 4, 45, 6, 46, 55, 56] (by decide +kernel) (by decide +kernel)
set_option maxRecDepth 20000 in
theorem gX2_readUnits_X0_addAll : GoodIn wsX2_readUnits (wsV RX2 140 RX0 yX0_addAll wsX0_addAll) := goodIn_app (goodIn_of _ (by decide +kernel)) ggX2_readUnits_X0_addAll
set_option maxRecDepth 20000 in
theorem ggX2_readUnits_X2_readTwoBytes : GoodIn wsX2_readUnits wsX2_readTwoBytes := goodIn_r _ [53, 11, 54, 43, 44, 4, 45, 6, 46, 55, 56] (by decide +kernel) (by decide +kernel)
set_option maxRecDepth 20000 in
theorem gX2_readUnits_X2_readTwoBytes : GoodIn wsX2_readUnits (va_wsS RX2 197 yX2_readTwoBytes wsX2_readTwoBytes) := goodIn_app (goodIn_of _ (by decide +kernel)) ggX2_readUnits_X2_readTwoBytes
theorem dX2_readUnits_0 : decode cX2_readUnits 0 = .ok (.aload_n 2, 1) := by decide +kernel
theorem dX2_readUnits_1 : decode cX2_readUnits 1 = .ok (.invokevirtual 68, 3) := by decide +kernel
theorem dX2_readUnits_4 : decode cX2_readUnits 4 = .ok (.iload_n 1, 1) := by decide +kernel
theorem dX2_readUnits_5 : decode cX2_readUnits 5 = .ok (.ifCond .ne 9, 3) := by decide +kernel
theorem dX2_readUnits_8 : decode cX2_readUnits 8 = .ok (.aload_n 0, 1) := by decide +kernel
theorem dX2_readUnits_9 : decode cX2_readUnits 9 = .ok (.aload_n 2, 1) := by decide +kernel
theorem dX2_readUnits_10 : decode cX2_readUnits 10 = .ok (.invokestatic 193, 3) := by decide +kernel
theorem dX2_readUnits_13 : decode cX2_readUnits 13 = .ok (.ireturn, 1) := by decide +kernel
theorem dX2_readUnits_14 : decode cX2_readUnits 14 = .ok (.iload_n 1, 1) := by decide +kernel
theorem dX2_readUnits_15 : decode cX2_readUnits 15 = .ok (.iconst 3, 1) := by decide +kernel
theorem dX2_readUnits_16 : decode cX2_readUnits 16 = .ok (.if_icmp .ne 10, 3) := by decide +kernel
theorem dX2_readUnits_19 : decode cX2_readUnits 19 = .ok (.aload_n 2, 1) := by decide +kernel
theorem dX2_readUnits_20 : decode cX2_readUnits 20 = .ok (.aload_n 0, 1) := by decide +kernel
theorem dX2_readUnits_21 : decode cX2_readUnits 21 = .ok (.invokevirtual 140, 3) := by decide +kernel
theorem dX2_readUnits_24 : decode cX2_readUnits 24 = .ok (.iconst (-1), 1) := by decide +kernel
theorem dX2_readUnits_25 : decode cX2_readUnits 25 = .ok (.ireturn, 1) := by decide +kernel
theorem dX2_readUnits_26 : decode cX2_readUnits 26 = .ok (.aload_n 0, 1) := by decide +kernel
theorem dX2_readUnits_27 : decode cX2_readUnits 27 = .ok (.iload_n 1, 1) := by decide +kernel
theorem dX2_readUnits_28 : decode cX2_readUnits 28 = .ok (.aload_n 2, 1) := by decide +kernel
theorem dX2_readUnits_29 : decode cX2_readUnits 29 = .ok (.invokestatic 197, 3) := by decide +kernel
theorem dX2_readUnits_32 : decode cX2_readUnits 32 = .ok (.ireturn, 1) := by decide +kernel
set_option maxRecDepth 20000 in
theorem ggX2_readTwoBytes_X0_add : GoodIn wsX2_readTwoBytes wsX0_add := goodIn_r _ [6, 7, 8, 9, 10] (by decide +kernel) (by decide +kernel)
set_option maxRecDepth 20000 in
theorem gX2_readTwoBytes_X0_add : GoodIn wsX2_readTwoBytes (wsV RX2 65 RX0 yX0_add wsX0_add) := goodIn_app (goodIn_of _ (by decide +kernel)) ggX2_readTwoBytes_X0_add
theorem dX2_readTwoBytes_0 : decode cX2_readTwoBytes 0 = .ok (.iconst 0, 1) := by decide +kernel
theorem dX2_readTwoBytes_1 : decode cX2_readTwoBytes 1 = .ok (.istore_n 3, 1) := by decide +kernel
theorem dX2_readTwoBytes_2 : decode cX2_readTwoBytes 2 = .ok (.iload_n 3, 1) := by decide +kernel
theorem dX2_readTwoBytes_3 : decode cX2_readTwoBytes 3 = .ok (.aload_n 0, 1) := by decide +kernel
theorem dX2_readTwoBytes_4 : decode cX2_readTwoBytes 4 = .ok (.arraylength, 1) := by decide +kernel
theorem dX2_readTwoBytes_5 : decode cX2_readTwoBytes 5 = .ok (.if_icmp .ge 77, 3) := by decide +kernel
theorem dX2_readTwoBytes_8 : decode cX2_readTwoBytes 8 = .ok (.aload_n 2, 1) := by decide +kernel
theorem dX2_readTwoBytes_9 : decode cX2_readTwoBytes 9 = .ok (.getfield 48, 3) := by decide +kernel
theorem dX2_readTwoBytes_12 : decode cX2_readTwoBytes 12 = .ok (.bipush 60, 2) := by decide +kernel
theorem dX2_readTwoBytes_14 : decode cX2_readTwoBytes 14 = .ok (.if_icmp .gt 68, 3) := by decide +kernel
theorem dX2_readTwoBytes_17 : decode cX2_readTwoBytes 17 = .ok (.iload_n 3, 1) := by decide +kernel
theorem dX2_readTwoBytes_18 : decode cX2_readTwoBytes 18 = .ok (.aload_n 0, 1) := by decide +kernel
theorem dX2_readTwoBytes_19 : decode cX2_readTwoBytes 19 = .ok (.arraylength, 1) := by decide +kernel
theorem dX2_readTwoBytes_20 : decode cX2_readTwoBytes 20 = .ok (.iconst 1, 1) := by decide +kernel
theorem dX2_readTwoBytes_21 : decode cX2_readTwoBytes 21 = .ok (.isub, 1) := by decide +kernel
theorem dX2_readTwoBytes_22 : decode cX2_readTwoBytes 22 = .ok (.if_icmp .ne 5, 3) := by decide +kernel
theorem dX2_readTwoBytes_25 : decode cX2_readTwoBytes 25 = .ok (.iload_n 3, 1) := by decide +kernel
theorem dX2_readTwoBytes_26 : decode cX2_readTwoBytes 26 = .ok (.ireturn, 1) := by decide +kernel
theorem dX2_readTwoBytes_27 : decode cX2_readTwoBytes 27 = .ok (.iload_n 1, 1) := by decide +kernel
theorem dX2_readTwoBytes_28 : decode cX2_readTwoBytes 28 = .ok (.iconst 1, 1) := by decide +kernel
theorem dX2_readTwoBytes_29 : decode cX2_readTwoBytes 29 = .ok (.if_icmp .ne 9, 3) := by decide +kernel
theorem dX2_readTwoBytes_32 : decode cX2_readTwoBytes 32 = .ok (.aload_n 0, 1) := by decide +kernel
theorem dX2_readTwoBytes_33 : decode cX2_readTwoBytes 33 = .ok (.iload_n 3, 1) := by decide +kernel
theorem dX2_readTwoBytes_34 : decode cX2_readTwoBytes 34 = .ok (.iaload, 1) := by decide +kernel
theorem dX2_readTwoBytes_35 : decode cX2_readTwoBytes 35 = .ok (.goto 8, 3) := by decide +kernel
theorem dX2_readTwoBytes_38 : decode cX2_readTwoBytes 38 = .ok (.aload_n 0, 1) := by decide +kernel
theorem dX2_readTwoBytes_39 : decode cX2_readTwoBytes 39 = .ok (.iload_n 3, 1) := by decide +kernel
theorem dX2_readTwoBytes_40 : decode cX2_readTwoBytes 40 = .ok (.iconst 1, 1) := by decide +kernel
theorem dX2_readTwoBytes_41 : decode cX2_readTwoBytes 41 = .ok (.iadd, 1) := by decide +kernel
theorem dX2_readTwoBytes_42 : decode cX2_readTwoBytes 42 = .ok (.iaload, 1) := by decide +kernel
theorem dX2_readTwoBytes_43 : decode cX2_readTwoBytes 43 = .ok (.istore 4, 2) := by decide +kernel
theorem dX2_readTwoBytes_45 : decode cX2_readTwoBytes 45 = .ok (.iload_n 1, 1) := by decide +kernel
theorem dX2_readTwoBytes_46 : decode cX2_readTwoBytes 46 = .ok (.iconst 1, 1) := by decide +kernel
theorem dX2_readTwoBytes_47 : decode cX2_readTwoBytes 47 = .ok (.if_icmp .ne 11, 3) := by decide +kernel
theorem dX2_readTwoBytes_50 : decode cX2_readTwoBytes 50 = .ok (.aload_n 0, 1) := by decide +kernel
theorem dX2_readTwoBytes_51 : decode cX2_readTwoBytes 51 = .ok (.iload_n 3, 1) := by decide +kernel
theorem dX2_readTwoBytes_52 : decode cX2_readTwoBytes 52 = .ok (.iconst 1, 1) := by decide +kernel
theorem dX2_readTwoBytes_53 : decode cX2_readTwoBytes 53 = .ok (.iadd, 1) := by decide +kernel
theorem dX2_readTwoBytes_54 : decode cX2_readTwoBytes 54 = .ok (.iaload, 1) := by decide +kernel
theorem dX2_readTwoBytes_55 : decode cX2_readTwoBytes 55 = .ok (.goto 6, 3) := by decide +kernel
theorem dX2_readTwoBytes_58 : decode cX2_readTwoBytes 58 = .ok (.aload_n 0, 1) := by decide +kernel
theorem dX2_readTwoBytes_59 : decode cX2_readTwoBytes 59 = .ok (.iload_n 3, 1) := by decide +kernel
theorem dX2_readTwoBytes_60 : decode cX2_readTwoBytes 60 = .ok (.iaload, 1) := by decide +kernel
theorem dX2_readTwoBytes_61 : decode cX2_readTwoBytes 61 = .ok (.istore 5, 2) := by decide +kernel
theorem dX2_readTwoBytes_63 : decode cX2_readTwoBytes 63 = .ok (.aload_n 2, 1) := by decide +kernel
theorem dX2_readTwoBytes_64 : decode cX2_readTwoBytes 64 = .ok (.iload 4, 2) := by decide +kernel
theorem dX2_readTwoBytes_66 : decode cX2_readTwoBytes 66 = .ok (.sipush 256, 3) := by decide +kernel
theorem dX2_readTwoBytes_69 : decode cX2_readTwoBytes 69 = .ok (.imul, 1) := by decide +kernel
theorem dX2_readTwoBytes_70 : decode cX2_readTwoBytes 70 = .ok (.iload 5, 2) := by decide +kernel
theorem dX2_readTwoBytes_72 : decode cX2_readTwoBytes 72 = .ok (.iadd, 1) := by decide +kernel
theorem dX2_readTwoBytes_73 : decode cX2_readTwoBytes 73 = .ok (.invokevirtual 65, 3) := by decide +kernel
theorem dX2_readTwoBytes_76 : decode cX2_readTwoBytes 76 = .ok (.iinc 3 2, 3) := by decide +kernel
theorem dX2_readTwoBytes_79 : decode cX2_readTwoBytes 79 = .ok (.goto (-77), 3) := by decide +kernel
theorem dX2_readTwoBytes_82 : decode cX2_readTwoBytes 82 = .ok (.iconst (-1), 1) := by decide +kernel
theorem dX2_readTwoBytes_83 : decode cX2_readTwoBytes 83 = .ok (.ireturn, 1) := by decide +kernel
set_option maxRecDepth 20000 in
theorem ggX2_readManyBytes_X2_pointFrom : GoodIn wsX2_readManyBytes wsX2_pointFrom := goodIn_r _ [5, 6, 7, 4, 8, 9, 10, 11, 12, 13, 14, 15, 16, 17, 18, 19, 20, 21, 22, 23, 24, 25] (by decide +kernel) (by decide +kernel)
set_option maxRecDepth 20000 in
theorem gX2_readManyBytes_X2_pointFrom : GoodIn wsX2_readManyBytes (va_wsS RX2 200 yX2_pointFrom wsX2_pointFrom) := goodIn_app (goodIn_of _ (by decide +kernel)) ggX2_readManyBytes_X2_pointFrom
set_option maxRecDepth 20000 in
theorem ggX2_readManyBytes_X0_addUnitsOf : GoodIn wsX2_readManyBytes wsX0_addUnitsOf := goodIn_r _ [30, 31, 32, 33, 34, 35, 36, 29, 37, 38, 39, 40, 41] (by decide +kernel) (by decide +kernel)
set_option maxRecDepth 20000 in
theorem gX2_readManyBytes_X0_addUnitsOf : GoodIn wsX2_readManyBytes (wsV RX2 58 RX0 yX0_addUnitsOf wsX0_addUnitsOf) := goodIn_app (goodIn_of _ (by decide +kernel)) ggX2_readManyBytes_X0_addUnitsOf
set_option maxRecDepth 20000 in
theorem ggX2_readManyBytes_X2_byteCount : GoodIn wsX2_readManyBytes wsX2_byteCount := goodIn_r _ [8] (by decide +kernel) (by decide +kernel)
set_option maxRecDepth 20000 in
theorem gX2_readManyBytes_X2_byteCount : GoodIn wsX2_readManyBytes (va_wsS RX2 204 yX2_byteCount wsX2_byteCount) := goodIn_app (goodIn_of _ (by decide +kernel)) ggX2_readManyBytes_X2_byteCount
theorem dX2_readManyBytes_0 : decode cX2_readManyBytes 0 = .ok (.iconst 0, 1) := by decide +kernel
theorem dX2_readManyBytes_1 : decode cX2_readManyBytes 1 = .ok (.istore_n 2, 1) := by decide +kernel
theorem dX2_readManyBytes_2 : decode cX2_readManyBytes 2 = .ok (.iconst 0, 1) := by decide +kernel
theorem dX2_readManyBytes_3 : decode cX2_readManyBytes 3 = .ok (.istore_n 3, 1) := by decide +kernel
theorem dX2_readManyBytes_4 : decode cX2_readManyBytes 4 = .ok (.iload_n 3, 1) := by decide +kernel
theorem dX2_readManyBytes_5 : decode cX2_readManyBytes 5 = .ok (.aload_n 0, 1) := by decide +kernel
theorem dX2_readManyBytes_6 : decode cX2_readManyBytes 6 = .ok (.arraylength, 1) := by decide +kernel
theorem dX2_readManyBytes_7 : decode cX2_readManyBytes 7 = .ok (.if_icmp .ge 53, 3) := by decide +kernel
theorem dX2_readManyBytes_10 : decode cX2_readManyBytes 10 = .ok (.aload_n 1, 1) := by decide +kernel
theorem dX2_readManyBytes_11 : decode cX2_readManyBytes 11 = .ok (.getfield 48, 3) := by decide +kernel
theorem dX2_readManyBytes_14 : decode cX2_readManyBytes 14 = .ok (.bipush 60, 2) := by decide +kernel
theorem dX2_readManyBytes_16 : decode cX2_readManyBytes 16 = .ok (.if_icmp .gt 44, 3) := by decide +kernel
theorem dX2_readManyBytes_19 : decode cX2_readManyBytes 19 = .ok (.iload_n 3, 1) := by decide +kernel
theorem dX2_readManyBytes_20 : decode cX2_readManyBytes 20 = .ok (.iload_n 2, 1) := by decide +kernel
theorem dX2_readManyBytes_21 : decode cX2_readManyBytes 21 = .ok (.if_icmp .lt 33, 3) := by decide +kernel
theorem dX2_readManyBytes_24 : decode cX2_readManyBytes 24 = .ok (.aload_n 0, 1) := by decide +kernel
theorem dX2_readManyBytes_25 : decode cX2_readManyBytes 25 = .ok (.iload_n 3, 1) := by decide +kernel
theorem dX2_readManyBytes_26 : decode cX2_readManyBytes 26 = .ok (.invokestatic 200, 3) := by decide +kernel
theorem dX2_readManyBytes_29 : decode cX2_readManyBytes 29 = .ok (.istore 4, 2) := by decide +kernel
theorem dX2_readManyBytes_31 : decode cX2_readManyBytes 31 = .ok (.iload 4, 2) := by decide +kernel
theorem dX2_readManyBytes_33 : decode cX2_readManyBytes 33 = .ok (.iconst (-1), 1) := by decide +kernel
theorem dX2_readManyBytes_34 : decode cX2_readManyBytes 34 = .ok (.if_icmp .ne 5, 3) := by decide +kernel
theorem dX2_readManyBytes_37 : decode cX2_readManyBytes 37 = .ok (.iload_n 3, 1) := by decide +kernel
theorem dX2_readManyBytes_38 : decode cX2_readManyBytes 38 = .ok (.ireturn, 1) := by decide +kernel
theorem dX2_readManyBytes_39 : decode cX2_readManyBytes 39 = .ok (.aload_n 1, 1) := by decide +kernel
theorem dX2_readManyBytes_40 : decode cX2_readManyBytes 40 = .ok (.iload 4, 2) := by decide +kernel
theorem dX2_readManyBytes_42 : decode cX2_readManyBytes 42 = .ok (.invokevirtual 58, 3) := by decide +kernel
theorem dX2_readManyBytes_45 : decode cX2_readManyBytes 45 = .ok (.iload_n 3, 1) := by decide +kernel
theorem dX2_readManyBytes_46 : decode cX2_readManyBytes 46 = .ok (.aload_n 0, 1) := by decide +kernel
theorem dX2_readManyBytes_47 : decode cX2_readManyBytes 47 = .ok (.iload_n 3, 1) := by decide +kernel
theorem dX2_readManyBytes_48 : decode cX2_readManyBytes 48 = .ok (.iaload, 1) := by decide +kernel
theorem dX2_readManyBytes_49 : decode cX2_readManyBytes 49 = .ok (.invokestatic 204, 3) := by decide +kernel
theorem dX2_readManyBytes_52 : decode cX2_readManyBytes 52 = .ok (.iadd, 1) := by decide +kernel
theorem dX2_readManyBytes_53 : decode cX2_readManyBytes 53 = .ok (.istore_n 2, 1) := by decide +kernel
theorem dX2_readManyBytes_54 : decode cX2_readManyBytes 54 = .ok (.iinc 3 1, 3) := by decide +kernel
theorem dX2_readManyBytes_57 : decode cX2_readManyBytes 57 = .ok (.goto (-53), 3) := by decide +kernel
theorem dX2_readManyBytes_60 : decode cX2_readManyBytes 60 = .ok (.iconst (-1), 1) := by decide +kernel
theorem dX2_readManyBytes_61 : decode cX2_readManyBytes 61 = .ok (.ireturn, 1) := by decide +kernel
theorem dX2_byteCount_0 : decode cX2_byteCount 0 = .ok (.iload_n 0, 1) := by decide +kernel
theorem dX2_byteCount_1 : decode cX2_byteCount 1 = .ok (.sipush 128, 3) := by decide +kernel
theorem dX2_byteCount_4 : decode cX2_byteCount 4 = .ok (.if_icmp .ge 5, 3) := by decide +kernel
theorem dX2_byteCount_7 : decode cX2_byteCount 7 = .ok (.iconst 1, 1) := by decide +kernel
theorem dX2_byteCount_8 : decode cX2_byteCount 8 = .ok (.ireturn, 1) := by decide +kernel
theorem dX2_byteCount_9 : decode cX2_byteCount 9 = .ok (.iload_n 0, 1) := by decide +kernel
theorem dX2_byteCount_10 : decode cX2_byteCount 10 = .ok (.sipush 194, 3) := by decide +kernel
theorem dX2_byteCount_13 : decode cX2_byteCount 13 = .ok (.if_icmp .lt 10, 3) := by decide +kernel
theorem dX2_byteCount_16 : decode cX2_byteCount 16 = .ok (.iload_n 0, 1) := by decide +kernel
theorem dX2_byteCount_17 : decode cX2_byteCount 17 = .ok (.sipush 244, 3) := by decide +kernel
theorem dX2_byteCount_20 : decode cX2_byteCount 20 = .ok (.if_icmp .le 5, 3) := by decide +kernel
theorem dX2_byteCount_23 : decode cX2_byteCount 23 = .ok (.iconst 0, 1) := by decide +kernel
theorem dX2_byteCount_24 : decode cX2_byteCount 24 = .ok (.ireturn, 1) := by decide +kernel
theorem dX2_byteCount_25 : decode cX2_byteCount 25 = .ok (.iload_n 0, 1) := by decide +kernel
theorem dX2_byteCount_26 : decode cX2_byteCount 26 = .ok (.sipush 224, 3) := by decide +kernel
theorem dX2_byteCount_29 : decode cX2_byteCount 29 = .ok (.if_icmp .ge 5, 3) := by decide +kernel
theorem dX2_byteCount_32 : decode cX2_byteCount 32 = .ok (.iconst 2, 1) := by decide +kernel
theorem dX2_byteCount_33 : decode cX2_byteCount 33 = .ok (.ireturn, 1) := by decide +kernel
theorem dX2_byteCount_34 : decode cX2_byteCount 34 = .ok (.iload_n 0, 1) := by decide +kernel
theorem dX2_byteCount_35 : decode cX2_byteCount 35 = .ok (.sipush 240, 3) := by decide +kernel
theorem dX2_byteCount_38 : decode cX2_byteCount 38 = .ok (.if_icmp .ge 7, 3) := by decide +kernel
theorem dX2_byteCount_41 : decode cX2_byteCount 41 = .ok (.iconst 3, 1) := by decide +kernel
theorem dX2_byteCount_42 : decode cX2_byteCount 42 = .ok (.goto 4, 3) := by decide +kernel
theorem dX2_byteCount_45 : decode cX2_byteCount 45 = .ok (.iconst 4, 1) := by decide +kernel
theorem dX2_byteCount_46 : decode cX2_byteCount 46 = .ok (.ireturn, 1) := by decide +kernel
set_option maxRecDepth 20000 in
theorem ggX2_pointFrom_X2_byteCount : GoodIn wsX2_pointFrom wsX2_byteCount := goodIn_r _ [4] (by decide +kernel) (by decide +kernel)
set_option maxRecDepth 20000 in
theorem gX2_pointFrom_X2_byteCount : GoodIn wsX2_pointFrom (va_wsS RX2 204 yX2_byteCount wsX2_byteCount) := goodIn_app (goodIn_of _ (by decide +kernel)) ggX2_pointFrom_X2_byteCount
set_option maxRecDepth 20000 in
theorem ggX2_pointFrom_X2_firstByteOffset : GoodIn wsX2_pointFrom wsX2_firstByteOffset := goodIn_r _ [7] (by decide +kernel) (by decide +kernel)
set_option maxRecDepth 20000 in
theorem gX2_pointFrom_X2_firstByteOffset : GoodIn wsX2_pointFrom (va_wsS RX2 207 yX2_firstByteOffset wsX2_firstByteOffset) := goodIn_app (goodIn_of _ (by decide +kernel)) ggX2_pointFrom_X2_firstByteOffset
set_option maxRecDepth 20000 in
theorem ggX2_pointFrom_X2_isToldIn : GoodIn wsX2_pointFrom wsX2_isToldIn := goodIn_r _ [10, 11, 12, 13, 14, 3, 15, 16, 17, 18, 19, 20, 21] (by decide +kernel) (by decide +kernel)
set_option maxRecDepth 20000 in
theorem gX2_pointFrom_X2_isToldIn : GoodIn wsX2_pointFrom (va_wsS RX2 210 yX2_isToldIn wsX2_isToldIn) := goodIn_app (goodIn_of _ (by decide +kernel)) ggX2_pointFrom_X2_isToldIn
theorem dX2_pointFrom_0 : decode cX2_pointFrom 0 = .ok (.iload_n 1, 1) := by decide +kernel
theorem dX2_pointFrom_1 : decode cX2_pointFrom 1 = .ok (.ifCond .lt 9, 3) := by decide +kernel
theorem dX2_pointFrom_4 : decode cX2_pointFrom 4 = .ok (.iload_n 1, 1) := by decide +kernel
theorem dX2_pointFrom_5 : decode cX2_pointFrom 5 = .ok (.aload_n 0, 1) := by decide +kernel
theorem dX2_pointFrom_6 : decode cX2_pointFrom 6 = .ok (.arraylength, 1) := by decide +kernel
theorem dX2_pointFrom_7 : decode cX2_pointFrom 7 = .ok (.if_icmp .lt 5, 3) := by decide +kernel
theorem dX2_pointFrom_10 : decode cX2_pointFrom 10 = .ok (.iconst (-1), 1) := by decide +kernel
theorem dX2_pointFrom_11 : decode cX2_pointFrom 11 = .ok (.ireturn, 1) := by decide +kernel
theorem dX2_pointFrom_12 : decode cX2_pointFrom 12 = .ok (.aload_n 0, 1) := by decide +kernel
theorem dX2_pointFrom_13 : decode cX2_pointFrom 13 = .ok (.iload_n 1, 1) := by decide +kernel
theorem dX2_pointFrom_14 : decode cX2_pointFrom 14 = .ok (.iaload, 1) := by decide +kernel
theorem dX2_pointFrom_15 : decode cX2_pointFrom 15 = .ok (.invokestatic 204, 3) := by decide +kernel
theorem dX2_pointFrom_18 : decode cX2_pointFrom 18 = .ok (.istore_n 2, 1) := by decide +kernel
theorem dX2_pointFrom_19 : decode cX2_pointFrom 19 = .ok (.iload_n 2, 1) := by decide +kernel
theorem dX2_pointFrom_20 : decode cX2_pointFrom 20 = .ok (.ifCond .eq 11, 3) := by decide +kernel
theorem dX2_pointFrom_23 : decode cX2_pointFrom 23 = .ok (.iload_n 2, 1) := by decide +kernel
theorem dX2_pointFrom_24 : decode cX2_pointFrom 24 = .ok (.aload_n 0, 1) := by decide +kernel
theorem dX2_pointFrom_25 : decode cX2_pointFrom 25 = .ok (.arraylength, 1) := by decide +kernel
theorem dX2_pointFrom_26 : decode cX2_pointFrom 26 = .ok (.iload_n 1, 1) := by decide +kernel
theorem dX2_pointFrom_27 : decode cX2_pointFrom 27 = .ok (.isub, 1) := by decide +kernel
theorem dX2_pointFrom_28 : decode cX2_pointFrom 28 = .ok (.if_icmp .le 5, 3) := by decide +kernel
theorem dX2_pointFrom_31 : decode cX2_pointFrom 31 = .ok (.iconst (-1), 1) := by decide +kernel
theorem dX2_pointFrom_32 : decode cX2_pointFrom 32 = .ok (.ireturn, 1) := by decide +kernel
theorem dX2_pointFrom_33 : decode cX2_pointFrom 33 = .ok (.aload_n 0, 1) := by decide +kernel
theorem dX2_pointFrom_34 : decode cX2_pointFrom 34 = .ok (.iload_n 1, 1) := by decide +kernel
theorem dX2_pointFrom_35 : decode cX2_pointFrom 35 = .ok (.iaload, 1) := by decide +kernel
theorem dX2_pointFrom_36 : decode cX2_pointFrom 36 = .ok (.iload_n 2, 1) := by decide +kernel
theorem dX2_pointFrom_37 : decode cX2_pointFrom 37 = .ok (.invokestatic 207, 3) := by decide +kernel
theorem dX2_pointFrom_40 : decode cX2_pointFrom 40 = .ok (.isub, 1) := by decide +kernel
theorem dX2_pointFrom_41 : decode cX2_pointFrom 41 = .ok (.istore_n 3, 1) := by decide +kernel
theorem dX2_pointFrom_42 : decode cX2_pointFrom 42 = .ok (.iload_n 1, 1) := by decide +kernel
theorem dX2_pointFrom_43 : decode cX2_pointFrom 43 = .ok (.iconst 1, 1) := by decide +kernel
theorem dX2_pointFrom_44 : decode cX2_pointFrom 44 = .ok (.iadd, 1) := by decide +kernel
theorem dX2_pointFrom_45 : decode cX2_pointFrom 45 = .ok (.istore 4, 2) := by decide +kernel
theorem dX2_pointFrom_47 : decode cX2_pointFrom 47 = .ok (.iload 4, 2) := by decide +kernel
theorem dX2_pointFrom_49 : decode cX2_pointFrom 49 = .ok (.iload_n 1, 1) := by decide +kernel
theorem dX2_pointFrom_50 : decode cX2_pointFrom 50 = .ok (.iload_n 2, 1) := by decide +kernel
theorem dX2_pointFrom_51 : decode cX2_pointFrom 51 = .ok (.iadd, 1) := by decide +kernel
theorem dX2_pointFrom_52 : decode cX2_pointFrom 52 = .ok (.if_icmp .ge 52, 3) := by decide +kernel
theorem dX2_pointFrom_55 : decode cX2_pointFrom 55 = .ok (.iload 4, 2) := by decide +kernel
theorem dX2_pointFrom_57 : decode cX2_pointFrom 57 = .ok (.aload_n 0, 1) := by decide +kernel
theorem dX2_pointFrom_58 : decode cX2_pointFrom 58 = .ok (.arraylength, 1) := by decide +kernel
theorem dX2_pointFrom_59 : decode cX2_pointFrom 59 = .ok (.if_icmp .ge 45, 3) := by decide +kernel
theorem dX2_pointFrom_62 : decode cX2_pointFrom 62 = .ok (.aload_n 0, 1) := by decide +kernel
theorem dX2_pointFrom_63 : decode cX2_pointFrom 63 = .ok (.iload 4, 2) := by decide +kernel
theorem dX2_pointFrom_65 : decode cX2_pointFrom 65 = .ok (.iaload, 1) := by decide +kernel
theorem dX2_pointFrom_66 : decode cX2_pointFrom 66 = .ok (.sipush 128, 3) := by decide +kernel
theorem dX2_pointFrom_69 : decode cX2_pointFrom 69 = .ok (.if_icmp .lt 13, 3) := by decide +kernel
theorem dX2_pointFrom_72 : decode cX2_pointFrom 72 = .ok (.aload_n 0, 1) := by decide +kernel
theorem dX2_pointFrom_73 : decode cX2_pointFrom 73 = .ok (.iload 4, 2) := by decide +kernel
theorem dX2_pointFrom_75 : decode cX2_pointFrom 75 = .ok (.iaload, 1) := by decide +kernel
theorem dX2_pointFrom_76 : decode cX2_pointFrom 76 = .ok (.sipush 191, 3) := by decide +kernel
theorem dX2_pointFrom_79 : decode cX2_pointFrom 79 = .ok (.if_icmp .le 5, 3) := by decide +kernel
theorem dX2_pointFrom_82 : decode cX2_pointFrom 82 = .ok (.iconst (-1), 1) := by decide +kernel
theorem dX2_pointFrom_83 : decode cX2_pointFrom 83 = .ok (.ireturn, 1) := by decide +kernel
theorem dX2_pointFrom_84 : decode cX2_pointFrom 84 = .ok (.iload_n 3, 1) := by decide +kernel
theorem dX2_pointFrom_85 : decode cX2_pointFrom 85 = .ok (.bipush 64, 2) := by decide +kernel
theorem dX2_pointFrom_87 : decode cX2_pointFrom 87 = .ok (.imul, 1) := by decide +kernel
theorem dX2_pointFrom_88 : decode cX2_pointFrom 88 = .ok (.aload_n 0, 1) := by decide +kernel
theorem dX2_pointFrom_89 : decode cX2_pointFrom 89 = .ok (.iload 4, 2) := by decide +kernel
theorem dX2_pointFrom_91 : decode cX2_pointFrom 91 = .ok (.iaload, 1) := by decide +kernel
theorem dX2_pointFrom_92 : decode cX2_pointFrom 92 = .ok (.sipush 128, 3) := by decide +kernel
theorem dX2_pointFrom_95 : decode cX2_pointFrom 95 = .ok (.isub, 1) := by decide +kernel
theorem dX2_pointFrom_96 : decode cX2_pointFrom 96 = .ok (.iadd, 1) := by decide +kernel
theorem dX2_pointFrom_97 : decode cX2_pointFrom 97 = .ok (.istore_n 3, 1) := by decide +kernel
theorem dX2_pointFrom_98 : decode cX2_pointFrom 98 = .ok (.iinc 4 1, 3) := by decide +kernel
theorem dX2_pointFrom_101 : decode cX2_pointFrom 101 = .ok (.goto (-54), 3) := by decide +kernel
theorem dX2_pointFrom_104 : decode cX2_pointFrom 104 = .ok (.iload_n 3, 1) := by decide +kernel
theorem dX2_pointFrom_105 : decode cX2_pointFrom 105 = .ok (.iload_n 2, 1) := by decide +kernel
theorem dX2_pointFrom_106 : decode cX2_pointFrom 106 = .ok (.invokestatic 210, 3) := by decide +kernel
theorem dX2_pointFrom_109 : decode cX2_pointFrom 109 = .ok (.ifCond .eq 7, 3) := by decide +kernel
theorem dX2_pointFrom_112 : decode cX2_pointFrom 112 = .ok (.iload_n 3, 1) := by decide +kernel
theorem dX2_pointFrom_113 : decode cX2_pointFrom 113 = .ok (.goto 4, 3) := by decide +kernel
theorem dX2_pointFrom_116 : decode cX2_pointFrom 116 = .ok (.iconst (-1), 1) := by decide +kernel
theorem dX2_pointFrom_117 : decode cX2_pointFrom 117 = .ok (.ireturn, 1) := by decide +kernel
theorem dX2_firstByteOffset_0 : decode cX2_firstByteOffset 0 = .ok (.iload_n 0, 1) := by decide +kernel
theorem dX2_firstByteOffset_1 : decode cX2_firstByteOffset 1 = .ok (.tableswitch 39 2 4 #[27, 31, 35], 27) := by decide +kernel
theorem dX2_firstByteOffset_28 : decode cX2_firstByteOffset 28 = .ok (.sipush 192, 3) := by decide +kernel
theorem dX2_firstByteOffset_31 : decode cX2_firstByteOffset 31 = .ok (.ireturn, 1) := by decide +kernel
theorem dX2_firstByteOffset_32 : decode cX2_firstByteOffset 32 = .ok (.sipush 224, 3) := by decide +kernel
theorem dX2_firstByteOffset_35 : decode cX2_firstByteOffset 35 = .ok (.ireturn, 1) := by decide +kernel
theorem dX2_firstByteOffset_36 : decode cX2_firstByteOffset 36 = .ok (.sipush 240, 3) := by decide +kernel
theorem dX2_firstByteOffset_39 : decode cX2_firstByteOffset 39 = .ok (.ireturn, 1) := by decide +kernel
theorem dX2_firstByteOffset_40 : decode cX2_firstByteOffset 40 = .ok (.iconst 0, 1) := by decide +kernel
theorem dX2_firstByteOffset_41 : decode cX2_firstByteOffset 41 = .ok (.ireturn, 1) := by decide +kernel
set_option maxRecDepth 20000 in
theorem ggX2_isToldIn_X2_isHigh : GoodIn wsX2_isToldIn wsX2_isHigh := goodIn_r _ [6, 7, 8] (by decide +kernel) (by decide +kernel)
set_option maxRecDepth 20000 in
theorem gX2_isToldIn_X2_isHigh : GoodIn wsX2_isToldIn (va_wsS RX2 167 yX2_isHigh wsX2_isHigh) := goodIn_app (goodIn_of _ (by decide +kernel)) ggX2_isToldIn_X2_isHigh
set_option maxRecDepth 20000 in
theorem ggX2_isToldIn_X2_isLow : GoodIn wsX2_isToldIn wsX2_isLow := goodIn_r _ [11, 8, 12] (by decide +kernel) (by decide +kernel)
set_option maxRecDepth 20000 in
theorem gX2_isToldIn_X2_isLow : GoodIn wsX2_isToldIn (va_wsS RX2 170 yX2_isLow wsX2_isLow) := goodIn_app (goodIn_of _ (by decide +kernel)) ggX2_isToldIn_X2_isLow
theorem dX2_isToldIn_0 : decode cX2_isToldIn 0 = .ok (.iload_n 1, 1) := by decide +kernel
theorem dX2_isToldIn_1 : decode cX2_isToldIn 1 = .ok (.iconst 3, 1) := by decide +kernel
theorem dX2_isToldIn_2 : decode cX2_isToldIn 2 = .ok (.if_icmp .ne 30, 3) := by decide +kernel
theorem dX2_isToldIn_5 : decode cX2_isToldIn 5 = .ok (.iload_n 0, 1) := by decide +kernel
theorem dX2_isToldIn_6 : decode cX2_isToldIn 6 = .ok (.sipush 2048, 3) := by decide +kernel
theorem dX2_isToldIn_9 : decode cX2_isToldIn 9 = .ok (.if_icmp .lt 21, 3) := by decide +kernel
theorem dX2_isToldIn_12 : decode cX2_isToldIn 12 = .ok (.iload_n 0, 1) := by decide +kernel
theorem dX2_isToldIn_13 : decode cX2_isToldIn 13 = .ok (.invokestatic 167, 3) := by decide +kernel
theorem dX2_isToldIn_16 : decode cX2_isToldIn 16 = .ok (.ifCond .ne 14, 3) := by decide +kernel
theorem dX2_isToldIn_19 : decode cX2_isToldIn 19 = .ok (.iload_n 0, 1) := by decide +kernel
theorem dX2_isToldIn_20 : decode cX2_isToldIn 20 = .ok (.invokestatic 170, 3) := by decide +kernel
theorem dX2_isToldIn_23 : decode cX2_isToldIn 23 = .ok (.ifCond .ne 7, 3) := by decide +kernel
theorem dX2_isToldIn_26 : decode cX2_isToldIn 26 = .ok (.iconst 1, 1) := by decide +kernel
theorem dX2_isToldIn_27 : decode cX2_isToldIn 27 = .ok (.goto 4, 3) := by decide +kernel
theorem dX2_isToldIn_30 : decode cX2_isToldIn 30 = .ok (.iconst 0, 1) := by decide +kernel
theorem dX2_isToldIn_31 : decode cX2_isToldIn 31 = .ok (.ireturn, 1) := by decide +kernel
theorem dX2_isToldIn_32 : decode cX2_isToldIn 32 = .ok (.iload_n 1, 1) := by decide +kernel
theorem dX2_isToldIn_33 : decode cX2_isToldIn 33 = .ok (.iconst 4, 1) := by decide +kernel
theorem dX2_isToldIn_34 : decode cX2_isToldIn 34 = .ok (.if_icmp .ne 21, 3) := by decide +kernel
theorem dX2_isToldIn_37 : decode cX2_isToldIn 37 = .ok (.iload_n 0, 1) := by decide +kernel
theorem dX2_isToldIn_38 : decode cX2_isToldIn 38 = .ok (.ldc 173, 2) := by decide +kernel
theorem dX2_isToldIn_40 : decode cX2_isToldIn 40 = .ok (.if_icmp .lt 13, 3) := by decide +kernel
theorem dX2_isToldIn_43 : decode cX2_isToldIn 43 = .ok (.iload_n 0, 1) := by decide +kernel
theorem dX2_isToldIn_44 : decode cX2_isToldIn 44 = .ok (.ldc 181, 2) := by decide +kernel
theorem dX2_isToldIn_46 : decode cX2_isToldIn 46 = .ok (.if_icmp .gt 7, 3) := by decide +kernel
theorem dX2_isToldIn_49 : decode cX2_isToldIn 49 = .ok (.iconst 1, 1) := by decide +kernel
theorem dX2_isToldIn_50 : decode cX2_isToldIn 50 = .ok (.goto 4, 3) := by decide +kernel
theorem dX2_isToldIn_53 : decode cX2_isToldIn 53 = .ok (.iconst 0, 1) := by decide +kernel
theorem dX2_isToldIn_54 : decode cX2_isToldIn 54 = .ok (.ireturn, 1) := by decide +kernel
theorem dX2_isToldIn_55 : decode cX2_isToldIn 55 = .ok (.iconst 1, 1) := by decide +kernel
theorem dX2_isToldIn_56 : decode cX2_isToldIn 56 = .ok (.ireturn, 1) := by decide +kernel
set_option maxRecDepth 20000 in
theorem ggX2_standsAt_X2_isBeyond : GoodIn wsX2_standsAt wsX2_isBeyond := goodIn_r _ [5, 1, 22, 23] (by decide +kernel) (by decide +kernel)
set_option maxRecDepth 20000 in
theorem gX2_standsAt_X2_isBeyond : GoodIn wsX2_standsAt (va_wsS RX2 128 yX2_isBeyond wsX2_isBeyond) := goodIn_app (goodIn_of _ (by decide +kernel)) ggX2_standsAt_X2_isBeyond
set_option maxRecDepth 20000 in
theorem ggX2_standsAt_X2_partsPair : GoodIn wsX2_standsAt wsX2_partsPair := goodIn_r _ [8, 9, 1, 10, 11, 4, 12, 13, 14, 15, 16, 17, 18, 19, 20, 21, 22, 23] (by decide +kernel) (by decide +kernel)
set_option maxRecDepth 20000 in
theorem gX2_standsAt_X2_partsPair : GoodIn wsX2_standsAt (va_wsS RX2 132 yX2_partsPair wsX2_partsPair) := goodIn_app (goodIn_of _ (by decide +kernel)) ggX2_standsAt_X2_partsPair
theorem dX2_standsAt_0 : decode cX2_standsAt 0 = .ok (.aload_n 1, 1) := by decide +kernel
theorem dX2_standsAt_1 : decode cX2_standsAt 1 = .ok (.getfield 93, 3) := by decide +kernel
theorem dX2_standsAt_4 : decode cX2_standsAt 4 = .ok (.arraylength, 1) := by decide +kernel
theorem dX2_standsAt_5 : decode cX2_standsAt 5 = .ok (.istore_n 3, 1) := by decide +kernel
theorem dX2_standsAt_6 : decode cX2_standsAt 6 = .ok (.aload_n 0, 1) := by decide +kernel
theorem dX2_standsAt_7 : decode cX2_standsAt 7 = .ok (.iload_n 2, 1) := by decide +kernel
theorem dX2_standsAt_8 : decode cX2_standsAt 8 = .ok (.iload_n 3, 1) := by decide +kernel
theorem dX2_standsAt_9 : decode cX2_standsAt 9 = .ok (.invokestatic 128, 3) := by decide +kernel
theorem dX2_standsAt_12 : decode cX2_standsAt 12 = .ok (.ifCond .ne 21, 3) := by decide +kernel
theorem dX2_standsAt_15 : decode cX2_standsAt 15 = .ok (.aload_n 0, 1) := by decide +kernel
theorem dX2_standsAt_16 : decode cX2_standsAt 16 = .ok (.iload_n 2, 1) := by decide +kernel
theorem dX2_standsAt_17 : decode cX2_standsAt 17 = .ok (.invokestatic 132, 3) := by decide +kernel
theorem dX2_standsAt_20 : decode cX2_standsAt 20 = .ok (.ifCond .ne 13, 3) := by decide +kernel
theorem dX2_standsAt_23 : decode cX2_standsAt 23 = .ok (.aload_n 0, 1) := by decide +kernel
theorem dX2_standsAt_24 : decode cX2_standsAt 24 = .ok (.iload_n 2, 1) := by decide +kernel
theorem dX2_standsAt_25 : decode cX2_standsAt 25 = .ok (.iload_n 3, 1) := by decide +kernel
theorem dX2_standsAt_26 : decode cX2_standsAt 26 = .ok (.iadd, 1) := by decide +kernel
theorem dX2_standsAt_27 : decode cX2_standsAt 27 = .ok (.invokestatic 132, 3) := by decide +kernel
theorem dX2_standsAt_30 : decode cX2_standsAt 30 = .ok (.ifCond .eq 5, 3) := by decide +kernel
theorem dX2_standsAt_33 : decode cX2_standsAt 33 = .ok (.iconst 0, 1) := by decide +kernel
theorem dX2_standsAt_34 : decode cX2_standsAt 34 = .ok (.ireturn, 1) := by decide +kernel
theorem dX2_standsAt_35 : decode cX2_standsAt 35 = .ok (.iconst 0, 1) := by decide +kernel
theorem dX2_standsAt_36 : decode cX2_standsAt 36 = .ok (.istore 4, 2) := by decide +kernel
theorem dX2_standsAt_38 : decode cX2_standsAt 38 = .ok (.iload 4, 2) := by decide +kernel
theorem dX2_standsAt_40 : decode cX2_standsAt 40 = .ok (.iload_n 3, 1) := by decide +kernel
theorem dX2_standsAt_41 : decode cX2_standsAt 41 = .ok (.if_icmp .ge 30, 3) := by decide +kernel
theorem dX2_standsAt_44 : decode cX2_standsAt 44 = .ok (.aload_n 0, 1) := by decide +kernel
theorem dX2_standsAt_45 : decode cX2_standsAt 45 = .ok (.getfield 93, 3) := by decide +kernel
theorem dX2_standsAt_48 : decode cX2_standsAt 48 = .ok (.iload_n 2, 1) := by decide +kernel
theorem dX2_standsAt_49 : decode cX2_standsAt 49 = .ok (.iload 4, 2) := by decide +kernel
theorem dX2_standsAt_51 : decode cX2_standsAt 51 = .ok (.iadd, 1) := by decide +kernel
theorem dX2_standsAt_52 : decode cX2_standsAt 52 = .ok (.iaload, 1) := by decide +kernel
theorem dX2_standsAt_53 : decode cX2_standsAt 53 = .ok (.aload_n 1, 1) := by decide +kernel
theorem dX2_standsAt_54 : decode cX2_standsAt 54 = .ok (.getfield 93, 3) := by decide +kernel
theorem dX2_standsAt_57 : decode cX2_standsAt 57 = .ok (.iload 4, 2) := by decide +kernel
theorem dX2_standsAt_59 : decode cX2_standsAt 59 = .ok (.iaload, 1) := by decide +kernel
theorem dX2_standsAt_60 : decode cX2_standsAt 60 = .ok (.if_icmp .eq 5, 3) := by decide +kernel
theorem dX2_standsAt_63 : decode cX2_standsAt 63 = .ok (.iconst 0, 1) := by decide +kernel
theorem dX2_standsAt_64 : decode cX2_standsAt 64 = .ok (.ireturn, 1) := by decide +kernel
theorem dX2_standsAt_65 : decode cX2_standsAt 65 = .ok (.iinc 4 1, 3) := by decide +kernel
theorem dX2_standsAt_68 : decode cX2_standsAt 68 = .ok (.goto (-30), 3) := by decide +kernel
theorem dX2_standsAt_71 : decode cX2_standsAt 71 = .ok (.iconst 1, 1) := by decide +kernel
theorem dX2_standsAt_72 : decode cX2_standsAt 72 = .ok (.ireturn, 1) := by decide +kernel
theorem dX2_order_0 : decode cX2_order 0 = .ok (.aload_n 0, 1) := by decide +kernel
theorem dX2_order_1 : decode cX2_order 1 = .ok (.getfield 48, 3) := by decide +kernel
theorem dX2_order_4 : decode cX2_order 4 = .ok (.aload_n 0, 1) := by decide +kernel
theorem dX2_order_5 : decode cX2_order 5 = .ok (.getfield 74, 3) := by decide +kernel
theorem dX2_order_8 : decode cX2_order 8 = .ok (.arraylength, 1) := by decide +kernel
theorem dX2_order_9 : decode cX2_order 9 = .ok (.invokestatic 214, 3) := by decide +kernel
theorem dX2_order_12 : decode cX2_order 12 = .ok (.aload_n 1, 1) := by decide +kernel
theorem dX2_order_13 : decode cX2_order 13 = .ok (.getfield 48, 3) := by decide +kernel
theorem dX2_order_16 : decode cX2_order 16 = .ok (.aload_n 1, 1) := by decide +kernel
theorem dX2_order_17 : decode cX2_order 17 = .ok (.getfield 74, 3) := by decide +kernel
theorem dX2_order_20 : decode cX2_order 20 = .ok (.arraylength, 1) := by decide +kernel
theorem dX2_order_21 : decode cX2_order 21 = .ok (.invokestatic 214, 3) := by decide +kernel
theorem dX2_order_24 : decode cX2_order 24 = .ok (.invokestatic 214, 3) := by decide +kernel
theorem dX2_order_27 : decode cX2_order 27 = .ok (.istore_n 2, 1) := by decide +kernel
theorem dX2_order_28 : decode cX2_order 28 = .ok (.iconst 0, 1) := by decide +kernel
theorem dX2_order_29 : decode cX2_order 29 = .ok (.istore_n 3, 1) := by decide +kernel
theorem dX2_order_30 : decode cX2_order 30 = .ok (.iload_n 3, 1) := by decide +kernel
theorem dX2_order_31 : decode cX2_order 31 = .ok (.iload_n 2, 1) := by decide +kernel
theorem dX2_order_32 : decode cX2_order 32 = .ok (.if_icmp .ge 45, 3) := by decide +kernel
theorem dX2_order_35 : decode cX2_order 35 = .ok (.aload_n 0, 1) := by decide +kernel
theorem dX2_order_36 : decode cX2_order 36 = .ok (.getfield 74, 3) := by decide +kernel
theorem dX2_order_39 : decode cX2_order 39 = .ok (.iload_n 3, 1) := by decide +kernel
theorem dX2_order_40 : decode cX2_order 40 = .ok (.iaload, 1) := by decide +kernel
theorem dX2_order_41 : decode cX2_order 41 = .ok (.aload_n 1, 1) := by decide +kernel
theorem dX2_order_42 : decode cX2_order 42 = .ok (.getfield 74, 3) := by decide +kernel
theorem dX2_order_45 : decode cX2_order 45 = .ok (.iload_n 3, 1) := by decide +kernel
theorem dX2_order_46 : decode cX2_order 46 = .ok (.iaload, 1) := by decide +kernel
theorem dX2_order_47 : decode cX2_order 47 = .ok (.if_icmp .eq 24, 3) := by decide +kernel
theorem dX2_order_50 : decode cX2_order 50 = .ok (.aload_n 0, 1) := by decide +kernel
theorem dX2_order_51 : decode cX2_order 51 = .ok (.getfield 74, 3) := by decide +kernel
theorem dX2_order_54 : decode cX2_order 54 = .ok (.iload_n 3, 1) := by decide +kernel
theorem dX2_order_55 : decode cX2_order 55 = .ok (.iaload, 1) := by decide +kernel
theorem dX2_order_56 : decode cX2_order 56 = .ok (.aload_n 1, 1) := by decide +kernel
theorem dX2_order_57 : decode cX2_order 57 = .ok (.getfield 74, 3) := by decide +kernel
theorem dX2_order_60 : decode cX2_order 60 = .ok (.iload_n 3, 1) := by decide +kernel
theorem dX2_order_61 : decode cX2_order 61 = .ok (.iaload, 1) := by decide +kernel
theorem dX2_order_62 : decode cX2_order 62 = .ok (.if_icmp .ge 7, 3) := by decide +kernel
theorem dX2_order_65 : decode cX2_order 65 = .ok (.iconst (-1), 1) := by decide +kernel
theorem dX2_order_66 : decode cX2_order 66 = .ok (.goto 4, 3) := by decide +kernel
theorem dX2_order_69 : decode cX2_order 69 = .ok (.iconst 1, 1) := by decide +kernel
theorem dX2_order_70 : decode cX2_order 70 = .ok (.ireturn, 1) := by decide +kernel
theorem dX2_order_71 : decode cX2_order 71 = .ok (.iinc 3 1, 3) := by decide +kernel
theorem dX2_order_74 : decode cX2_order 74 = .ok (.goto (-44), 3) := by decide +kernel
theorem dX2_order_77 : decode cX2_order 77 = .ok (.aload_n 0, 1) := by decide +kernel
theorem dX2_order_78 : decode cX2_order 78 = .ok (.getfield 48, 3) := by decide +kernel
theorem dX2_order_81 : decode cX2_order 81 = .ok (.aload_n 1, 1) := by decide +kernel
theorem dX2_order_82 : decode cX2_order 82 = .ok (.getfield 48, 3) := by decide +kernel
theorem dX2_order_85 : decode cX2_order 85 = .ok (.if_icmp .ne 7, 3) := by decide +kernel
theorem dX2_order_88 : decode cX2_order 88 = .ok (.iconst 0, 1) := by decide +kernel
theorem dX2_order_89 : decode cX2_order 89 = .ok (.goto 19, 3) := by decide +kernel
theorem dX2_order_92 : decode cX2_order 92 = .ok (.aload_n 0, 1) := by decide +kernel
theorem dX2_order_93 : decode cX2_order 93 = .ok (.getfield 48, 3) := by decide +kernel
theorem dX2_order_96 : decode cX2_order 96 = .ok (.aload_n 1, 1) := by decide +kernel
theorem dX2_order_97 : decode cX2_order 97 = .ok (.getfield 48, 3) := by decide +kernel
theorem dX2_order_100 : decode cX2_order 100 = .ok (.if_icmp .ge 7, 3) := by decide +kernel
theorem dX2_order_103 : decode cX2_order 103 = .ok (.iconst (-1), 1) := by decide +kernel
theorem dX2_order_104 : decode cX2_order 104 = .ok (.goto 4, 3) := by decide +kernel
theorem dX2_order_107 : decode cX2_order 107 = .ok (.iconst 1, 1) := by decide +kernel
theorem dX2_order_108 : decode cX2_order 108 = .ok (.ireturn, 1) := by decide +kernel
theorem dX2_hasSameItems_0 : decode cX2_hasSameItems 0 = .ok (.aload_n 0, 1) := by decide +kernel
theorem dX2_hasSameItems_1 : decode cX2_hasSameItems 1 = .ok (.ifnull 20, 3) := by decide +kernel
theorem dX2_hasSameItems_4 : decode cX2_hasSameItems 4 = .ok (.aload_n 1, 1) := by decide +kernel
theorem dX2_hasSameItems_5 : decode cX2_hasSameItems 5 = .ok (.ifnull 16, 3) := by decide +kernel
theorem dX2_hasSameItems_8 : decode cX2_hasSameItems 8 = .ok (.aload_n 0, 1) := by decide +kernel
theorem dX2_hasSameItems_9 : decode cX2_hasSameItems 9 = .ok (.getfield 93, 3) := by decide +kernel
theorem dX2_hasSameItems_12 : decode cX2_hasSameItems 12 = .ok (.arraylength, 1) := by decide +kernel
theorem dX2_hasSameItems_13 : decode cX2_hasSameItems 13 = .ok (.aload_n 1, 1) := by decide +kernel
theorem dX2_hasSameItems_14 : decode cX2_hasSameItems 14 = .ok (.getfield 93, 3) := by decide +kernel
theorem dX2_hasSameItems_17 : decode cX2_hasSameItems 17 = .ok (.arraylength, 1) := by decide +kernel
theorem dX2_hasSameItems_18 : decode cX2_hasSameItems 18 = .ok (.if_icmp .eq 5, 3) := by decide +kernel
theorem dX2_hasSameItems_21 : decode cX2_hasSameItems 21 = .ok (.iconst 0, 1) := by decide +kernel
theorem dX2_hasSameItems_22 : decode cX2_hasSameItems 22 = .ok (.ireturn, 1) := by decide +kernel
theorem dX2_hasSameItems_23 : decode cX2_hasSameItems 23 = .ok (.iconst 0, 1) := by decide +kernel
theorem dX2_hasSameItems_24 : decode cX2_hasSameItems 24 = .ok (.istore_n 2, 1) := by decide +kernel
theorem dX2_hasSameItems_25 : decode cX2_hasSameItems 25 = .ok (.iload_n 2, 1) := by decide +kernel
theorem dX2_hasSameItems_26 : decode cX2_hasSameItems 26 = .ok (.aload_n 0, 1) := by decide +kernel
theorem dX2_hasSameItems_27 : decode cX2_hasSameItems 27 = .ok (.getfield 93, 3) := by decide +kernel
theorem dX2_hasSameItems_30 : decode cX2_hasSameItems 30 = .ok (.arraylength, 1) := by decide +kernel
theorem dX2_hasSameItems_31 : decode cX2_hasSameItems 31 = .ok (.if_icmp .ge 35, 3) := by decide +kernel
theorem dX2_hasSameItems_34 : decode cX2_hasSameItems 34 = .ok (.iload_n 2, 1) := by decide +kernel
theorem dX2_hasSameItems_35 : decode cX2_hasSameItems 35 = .ok (.aload_n 1, 1) := by decide +kernel
theorem dX2_hasSameItems_36 : decode cX2_hasSameItems 36 = .ok (.getfield 93, 3) := by decide +kernel
theorem dX2_hasSameItems_39 : decode cX2_hasSameItems 39 = .ok (.arraylength, 1) := by decide +kernel
theorem dX2_hasSameItems_40 : decode cX2_hasSameItems 40 = .ok (.if_icmp .ge 26, 3) := by decide +kernel
theorem dX2_hasSameItems_43 : decode cX2_hasSameItems 43 = .ok (.aload_n 0, 1) := by decide +kernel
theorem dX2_hasSameItems_44 : decode cX2_hasSameItems 44 = .ok (.getfield 93, 3) := by decide +kernel
theorem dX2_hasSameItems_47 : decode cX2_hasSameItems 47 = .ok (.iload_n 2, 1) := by decide +kernel
theorem dX2_hasSameItems_48 : decode cX2_hasSameItems 48 = .ok (.iaload, 1) := by decide +kernel
theorem dX2_hasSameItems_49 : decode cX2_hasSameItems 49 = .ok (.aload_n 1, 1) := by decide +kernel
theorem dX2_hasSameItems_50 : decode cX2_hasSameItems 50 = .ok (.getfield 93, 3) := by decide +kernel
theorem dX2_hasSameItems_53 : decode cX2_hasSameItems 53 = .ok (.iload_n 2, 1) := by decide +kernel
theorem dX2_hasSameItems_54 : decode cX2_hasSameItems 54 = .ok (.iaload, 1) := by decide +kernel
theorem dX2_hasSameItems_55 : decode cX2_hasSameItems 55 = .ok (.if_icmp .eq 5, 3) := by decide +kernel
theorem dX2_hasSameItems_58 : decode cX2_hasSameItems 58 = .ok (.iconst 0, 1) := by decide +kernel
theorem dX2_hasSameItems_59 : decode cX2_hasSameItems 59 = .ok (.ireturn, 1) := by decide +kernel
theorem dX2_hasSameItems_60 : decode cX2_hasSameItems 60 = .ok (.iinc 2 1, 3) := by decide +kernel
theorem dX2_hasSameItems_63 : decode cX2_hasSameItems 63 = .ok (.goto (-38), 3) := by decide +kernel
theorem dX2_hasSameItems_66 : decode cX2_hasSameItems 66 = .ok (.iconst 1, 1) := by decide +kernel
theorem dX2_hasSameItems_67 : decode cX2_hasSameItems 67 = .ok (.ireturn, 1) := by decide +kernel
theorem dX2_greater_0 : decode cX2_greater 0 = .ok (.iload_n 0, 1) := by decide +kernel
theorem dX2_greater_1 : decode cX2_greater 1 = .ok (.bipush 97, 2) := by decide +kernel
theorem dX2_greater_3 : decode cX2_greater 3 = .ok (.if_icmp .lt 9, 3) := by decide +kernel
theorem dX2_greater_6 : decode cX2_greater 6 = .ok (.iload_n 0, 1) := by decide +kernel
theorem dX2_greater_7 : decode cX2_greater 7 = .ok (.bipush 122, 2) := by decide +kernel
theorem dX2_greater_9 : decode cX2_greater 9 = .ok (.if_icmp .le 24, 3) := by decide +kernel
theorem dX2_greater_12 : decode cX2_greater 12 = .ok (.iload_n 0, 1) := by decide +kernel
theorem dX2_greater_13 : decode cX2_greater 13 = .ok (.sipush 224, 3) := by decide +kernel
theorem dX2_greater_16 : decode cX2_greater 16 = .ok (.if_icmp .lt 22, 3) := by decide +kernel
theorem dX2_greater_19 : decode cX2_greater 19 = .ok (.iload_n 0, 1) := by decide +kernel
theorem dX2_greater_20 : decode cX2_greater 20 = .ok (.sipush 254, 3) := by decide +kernel
theorem dX2_greater_23 : decode cX2_greater 23 = .ok (.if_icmp .gt 15, 3) := by decide +kernel
theorem dX2_greater_26 : decode cX2_greater 26 = .ok (.iload_n 0, 1) := by decide +kernel
theorem dX2_greater_27 : decode cX2_greater 27 = .ok (.sipush 247, 3) := by decide +kernel
theorem dX2_greater_30 : decode cX2_greater 30 = .ok (.if_icmp .eq 8, 3) := by decide +kernel
theorem dX2_greater_33 : decode cX2_greater 33 = .ok (.iload_n 0, 1) := by decide +kernel
theorem dX2_greater_34 : decode cX2_greater 34 = .ok (.bipush 32, 2) := by decide +kernel
theorem dX2_greater_36 : decode cX2_greater 36 = .ok (.isub, 1) := by decide +kernel
theorem dX2_greater_37 : decode cX2_greater 37 = .ok (.ireturn, 1) := by decide +kernel
theorem dX2_greater_38 : decode cX2_greater 38 = .ok (.iload_n 0, 1) := by decide +kernel
theorem dX2_greater_39 : decode cX2_greater 39 = .ok (.sipush 255, 3) := by decide +kernel
theorem dX2_greater_42 : decode cX2_greater 42 = .ok (.if_icmp .ne 9, 3) := by decide +kernel
theorem dX2_greater_45 : decode cX2_greater 45 = .ok (.sipush 376, 3) := by decide +kernel
theorem dX2_greater_48 : decode cX2_greater 48 = .ok (.goto 4, 3) := by decide +kernel
theorem dX2_greater_51 : decode cX2_greater 51 = .ok (.iload_n 0, 1) := by decide +kernel
theorem dX2_greater_52 : decode cX2_greater 52 = .ok (.ireturn, 1) := by decide +kernel
theorem dX2_lesser_0 : decode cX2_lesser 0 = .ok (.iload_n 0, 1) := by decide +kernel
theorem dX2_lesser_1 : decode cX2_lesser 1 = .ok (.bipush 65, 2) := by decide +kernel
theorem dX2_lesser_3 : decode cX2_lesser 3 = .ok (.if_icmp .lt 9, 3) := by decide +kernel
theorem dX2_lesser_6 : decode cX2_lesser 6 = .ok (.iload_n 0, 1) := by decide +kernel
theorem dX2_lesser_7 : decode cX2_lesser 7 = .ok (.bipush 90, 2) := by decide +kernel
theorem dX2_lesser_9 : decode cX2_lesser 9 = .ok (.if_icmp .le 24, 3) := by decide +kernel
theorem dX2_lesser_12 : decode cX2_lesser 12 = .ok (.iload_n 0, 1) := by decide +kernel
theorem dX2_lesser_13 : decode cX2_lesser 13 = .ok (.sipush 192, 3) := by decide +kernel
theorem dX2_lesser_16 : decode cX2_lesser 16 = .ok (.if_icmp .lt 22, 3) := by decide +kernel
theorem dX2_lesser_19 : decode cX2_lesser 19 = .ok (.iload_n 0, 1) := by decide +kernel
theorem dX2_lesser_20 : decode cX2_lesser 20 = .ok (.sipush 222, 3) := by decide +kernel
theorem dX2_lesser_23 : decode cX2_lesser 23 = .ok (.if_icmp .gt 15, 3) := by decide +kernel
theorem dX2_lesser_26 : decode cX2_lesser 26 = .ok (.iload_n 0, 1) := by decide +kernel
theorem dX2_lesser_27 : decode cX2_lesser 27 = .ok (.sipush 215, 3) := by decide +kernel
theorem dX2_lesser_30 : decode cX2_lesser 30 = .ok (.if_icmp .eq 8, 3) := by decide +kernel
theorem dX2_lesser_33 : decode cX2_lesser 33 = .ok (.iload_n 0, 1) := by decide +kernel
theorem dX2_lesser_34 : decode cX2_lesser 34 = .ok (.bipush 32, 2) := by decide +kernel
theorem dX2_lesser_36 : decode cX2_lesser 36 = .ok (.iadd, 1) := by decide +kernel
theorem dX2_lesser_37 : decode cX2_lesser 37 = .ok (.ireturn, 1) := by decide +kernel
theorem dX2_lesser_38 : decode cX2_lesser 38 = .ok (.iload_n 0, 1) := by decide +kernel
theorem dX2_lesser_39 : decode cX2_lesser 39 = .ok (.sipush 376, 3) := by decide +kernel
theorem dX2_lesser_42 : decode cX2_lesser 42 = .ok (.if_icmp .ne 9, 3) := by decide +kernel
theorem dX2_lesser_45 : decode cX2_lesser 45 = .ok (.sipush 255, 3) := by decide +kernel
theorem dX2_lesser_48 : decode cX2_lesser 48 = .ok (.goto 4, 3) := by decide +kernel
theorem dX2_lesser_51 : decode cX2_lesser 51 = .ok (.iload_n 0, 1) := by decide +kernel
theorem dX2_lesser_52 : decode cX2_lesser 52 = .ok (.ireturn, 1) := by decide +kernel
theorem dX3_init_0 : decode cX3_init 0 = .ok (.aload_n 0, 1) := by decide +kernel
theorem dX3_init_1 : decode cX3_init 1 = .ok (.invokespecial 1, 3) := by decide +kernel
theorem dX3_init_4 : decode cX3_init 4 = .ok (.aload_n 0, 1) := by decide +kernel
theorem dX3_init_5 : decode cX3_init 5 = .ok (.bipush 10, 2) := by decide +kernel
theorem dX3_init_7 : decode cX3_init 7 = .ok (.newarray .int, 2) := by decide +kernel
theorem dX3_init_9 : decode cX3_init 9 = .ok (.putfield 7, 3) := by decide +kernel
theorem dX3_init_12 : decode cX3_init 12 = .ok (.aload_n 0, 1) := by decide +kernel
theorem dX3_init_13 : decode cX3_init 13 = .ok (.bipush 12, 2) := by decide +kernel
theorem dX3_init_15 : decode cX3_init 15 = .ok (.newarray .int, 2) := by decide +kernel
theorem dX3_init_17 : decode cX3_init 17 = .ok (.putfield 13, 3) := by decide +kernel
theorem dX3_init_20 : decode cX3_init 20 = .ok (.aload_n 0, 1) := by decide +kernel
theorem dX3_init_21 : decode cX3_init 21 = .ok (.bipush 24, 2) := by decide +kernel
theorem dX3_init_23 : decode cX3_init 23 = .ok (.newarray .int, 2) := by decide +kernel
theorem dX3_init_25 : decode cX3_init 25 = .ok (.putfield 16, 3) := by decide +kernel
theorem dX3_init_28 : decode cX3_init 28 = .ok (.aload_n 0, 1) := by decide +kernel
theorem dX3_init_29 : decode cX3_init 29 = .ok (.bipush 24, 2) := by decide +kernel
theorem dX3_init_31 : decode cX3_init 31 = .ok (.newarray .int, 2) := by decide +kernel
theorem dX3_init_33 : decode cX3_init 33 = .ok (.putfield 19, 3) := by decide +kernel
theorem dX3_init_36 : decode cX3_init 36 = .ok (.aload_n 0, 1) := by decide +kernel
theorem dX3_init_37 : decode cX3_init 37 = .ok (.sipush 5760, 3) := by decide +kernel
theorem dX3_init_40 : decode cX3_init 40 = .ok (.newarray .int, 2) := by decide +kernel
theorem dX3_init_42 : decode cX3_init 42 = .ok (.putfield 22, 3) := by decide +kernel
theorem dX3_init_45 : decode cX3_init 45 = .ok (.aload_n 0, 1) := by decide +kernel
theorem dX3_init_46 : decode cX3_init 46 = .ok (.bipush 60, 2) := by decide +kernel
theorem dX3_init_48 : decode cX3_init 48 = .ok (.newarray .int, 2) := by decide +kernel
theorem dX3_init_50 : decode cX3_init 50 = .ok (.putfield 25, 3) := by decide +kernel
theorem dX3_init_53 : decode cX3_init 53 = .ok (.aload_n 0, 1) := by decide +kernel
theorem dX3_init_54 : decode cX3_init 54 = .ok (.iconst (-1), 1) := by decide +kernel
theorem dX3_init_55 : decode cX3_init 55 = .ok (.putfield 28, 3) := by decide +kernel
theorem dX3_init_58 : decode cX3_init 58 = .ok (.aload_n 0, 1) := by decide +kernel
theorem dX3_init_59 : decode cX3_init 59 = .ok (.sipush 240, 3) := by decide +kernel
theorem dX3_init_62 : decode cX3_init 62 = .ok (.newarray .int, 2) := by decide +kernel
theorem dX3_init_64 : decode cX3_init 64 = .ok (.putfield 32, 3) := by decide +kernel
theorem dX3_init_67 : decode cX3_init 67 = .ok (.aload_n 0, 1) := by decide +kernel
theorem dX3_init_68 : decode cX3_init 68 = .ok (.sipush 480, 3) := by decide +kernel
theorem dX3_init_71 : decode cX3_init 71 = .ok (.newarray .int, 2) := by decide +kernel
theorem dX3_init_73 : decode cX3_init 73 = .ok (.putfield 35, 3) := by decide +kernel
theorem dX3_init_76 : decode cX3_init 76 = .ok (.aload_n 0, 1) := by decide +kernel
theorem dX3_init_77 : decode cX3_init 77 = .ok (.sipush 480, 3) := by decide +kernel
theorem dX3_init_80 : decode cX3_init 80 = .ok (.newarray .int, 2) := by decide +kernel
theorem dX3_init_82 : decode cX3_init 82 = .ok (.putfield 38, 3) := by decide +kernel
theorem dX3_init_85 : decode cX3_init 85 = .ok (.aload_n 0, 1) := by decide +kernel
theorem dX3_init_86 : decode cX3_init 86 = .ok (.sipush 480, 3) := by decide +kernel
theorem dX3_init_89 : decode cX3_init 89 = .ok (.newarray .int, 2) := by decide +kernel
theorem dX3_init_91 : decode cX3_init 91 = .ok (.putfield 41, 3) := by decide +kernel
theorem dX3_init_94 : decode cX3_init 94 = .ok (.iconst 0, 1) := by decide +kernel
theorem dX3_init_95 : decode cX3_init 95 = .ok (.istore_n 1, 1) := by decide +kernel
theorem dX3_init_96 : decode cX3_init 96 = .ok (.iload_n 1, 1) := by decide +kernel
theorem dX3_init_97 : decode cX3_init 97 = .ok (.bipush 10, 2) := by decide +kernel
theorem dX3_init_99 : decode cX3_init 99 = .ok (.if_icmp .ge 16, 3) := by decide +kernel
theorem dX3_init_102 : decode cX3_init 102 = .ok (.aload_n 0, 1) := by decide +kernel
theorem dX3_init_103 : decode cX3_init 103 = .ok (.getfield 7, 3) := by decide +kernel
theorem dX3_init_106 : decode cX3_init 106 = .ok (.iload_n 1, 1) := by decide +kernel
theorem dX3_init_107 : decode cX3_init 107 = .ok (.iconst (-1), 1) := by decide +kernel
theorem dX3_init_108 : decode cX3_init 108 = .ok (.iastore, 1) := by decide +kernel
theorem dX3_init_109 : decode cX3_init 109 = .ok (.iinc 1 1, 3) := by decide +kernel
theorem dX3_init_112 : decode cX3_init 112 = .ok (.goto (-16), 3) := by decide +kernel
theorem dX3_init_115 : decode cX3_init 115 = .ok (.return_, 1) := by decide +kernel
theorem dX3_within_0 : decode cX3_within 0 = .ok (.iload_n 0, 1) := by decide +kernel
theorem dX3_within_1 : decode cX3_within 1 = .ok (.iload_n 1, 1) := by decide +kernel
theorem dX3_within_2 : decode cX3_within 2 = .ok (.if_icmp .lt 12, 3) := by decide +kernel
theorem dX3_within_5 : decode cX3_within 5 = .ok (.iload_n 0, 1) := by decide +kernel
theorem dX3_within_6 : decode cX3_within 6 = .ok (.iload_n 2, 1) := by decide +kernel
theorem dX3_within_7 : decode cX3_within 7 = .ok (.if_icmp .gt 7, 3) := by decide +kernel
theorem dX3_within_10 : decode cX3_within 10 = .ok (.iconst 1, 1) := by decide +kernel
theorem dX3_within_11 : decode cX3_within 11 = .ok (.goto 4, 3) := by decide +kernel
theorem dX3_within_14 : decode cX3_within 14 = .ok (.iconst 0, 1) := by decide +kernel
theorem dX3_within_15 : decode cX3_within 15 = .ok (.ireturn, 1) := by decide +kernel
set_option maxRecDepth 20000 in
theorem ggX3_isText_X3_within : GoodIn wsX3_isText wsX3_within := goodIn_r _ [4] (by decide +kernel) (by decide +kernel)
set_option maxRecDepth 20000 in
theorem gX3_isText_X3_within : GoodIn wsX3_isText (va_wsS RX3 44 yX3_within wsX3_within) := goodIn_app (goodIn_of _ (by decide +kernel)) ggX3_isText_X3_within
theorem dX3_isText_0 : decode cX3_isText 0 = .ok (.iload_n 0, 1) := by decide +kernel
theorem dX3_isText_1 : decode cX3_isText 1 = .ok (.iconst 0, 1) := by decide +kernel
theorem dX3_isText_2 : decode cX3_isText 2 = .ok (.bipush 9, 2) := by decide +kernel
theorem dX3_isText_4 : decode cX3_isText 4 = .ok (.invokestatic 44, 3) := by decide +kernel
theorem dX3_isText_7 : decode cX3_isText 7 = .ok (.ireturn, 1) := by decide +kernel
set_option maxRecDepth 20000 in
theorem ggX3_isPoint_X3_within : GoodIn wsX3_isPoint wsX3_within := goodIn_r _ [5] (by decide +kernel) (by decide +kernel)
set_option maxRecDepth 20000 in
theorem gX3_isPoint_X3_within : GoodIn wsX3_isPoint (va_wsS RX3 44 yX3_within wsX3_within) := goodIn_app (goodIn_of _ (by decide +kernel)) ggX3_isPoint_X3_within
theorem dX3_isPoint_0 : decode cX3_isPoint 0 = .ok (.iload_n 0, 1) := by decide +kernel
theorem dX3_isPoint_1 : decode cX3_isPoint 1 = .ok (.iconst 0, 1) := by decide +kernel
theorem dX3_isPoint_2 : decode cX3_isPoint 2 = .ok (.ldc 48, 2) := by decide +kernel
theorem dX3_isPoint_4 : decode cX3_isPoint 4 = .ok (.invokestatic 44, 3) := by decide +kernel
theorem dX3_isPoint_7 : decode cX3_isPoint 7 = .ok (.ireturn, 1) := by decide +kernel
set_option maxRecDepth 20000 in
theorem ggX3_isHigh_X3_within : GoodIn wsX3_isHigh wsX3_within := goodIn_r _ [6] (by decide +kernel) (by decide +kernel)
set_option maxRecDepth 20000 in
theorem gX3_isHigh_X3_within : GoodIn wsX3_isHigh (va_wsS RX3 44 yX3_within wsX3_within) := goodIn_app (goodIn_of _ (by decide +kernel)) ggX3_isHigh_X3_within
end
section
theorem dX3_isHigh_0 : decode cX3_isHigh 0 = .ok (.iload_n 0, 1) := by decide +kernel
theorem dX3_isHigh_1 : decode cX3_isHigh 1 = .ok (.ldc 49, 2) := by decide +kernel
theorem dX3_isHigh_3 : decode cX3_isHigh 3 = .ok (.ldc 50, 2) := by decide +kernel
theorem dX3_isHigh_5 : decode cX3_isHigh 5 = .ok (.invokestatic 44, 3) := by decide +kernel
theorem dX3_isHigh_8 : decode cX3_isHigh 8 = .ok (.ireturn, 1) := by decide +kernel
set_option maxRecDepth 20000 in
theorem ggX3_isLow_X3_within : GoodIn wsX3_isLow wsX3_within := goodIn_r _ [6] (by decide +kernel) (by decide +kernel)
set_option maxRecDepth 20000 in
theorem gX3_isLow_X3_within : GoodIn wsX3_isLow (va_wsS RX3 44 yX3_within wsX3_within) := goodIn_app (goodIn_of _ (by decide +kernel)) ggX3_isLow_X3_within
theorem dX3_isLow_0 : decode cX3_isLow 0 = .ok (.iload_n 0, 1) := by decide +kernel
theorem dX3_isLow_1 : decode cX3_isLow 1 = .ok (.ldc 51, 2) := by decide +kernel
theorem dX3_isLow_3 : decode cX3_isLow 3 = .ok (.ldc 52, 2) := by decide +kernel
theorem dX3_isLow_5 : decode cX3_isLow 5 = .ok (.invokestatic 44, 3) := by decide +kernel
theorem dX3_isLow_8 : decode cX3_isLow 8 = .ok (.ireturn, 1) := by decide +kernel
theorem dX3_no_0 : decode cX3_no 0 = .ok (.aload_n 0, 1) := by decide +kernel
theorem dX3_no_1 : decode cX3_no 1 = .ok (.iload_n 1, 1) := by decide +kernel
theorem dX3_no_2 : decode cX3_no 2 = .ok (.putfield 53, 3) := by decide +kernel
theorem dX3_no_5 : decode cX3_no 5 = .ok (.iconst 0, 1) := by decide +kernel
theorem dX3_no_6 : decode cX3_no 6 = .ok (.ireturn, 1) := by decide +kernel
theorem dX3_yes_0 : decode cX3_yes 0 = .ok (.aload_n 0, 1) := by decide +kernel
theorem dX3_yes_1 : decode cX3_yes 1 = .ok (.iconst 0, 1) := by decide +kernel
theorem dX3_yes_2 : decode cX3_yes 2 = .ok (.putfield 53, 3) := by decide +kernel
theorem dX3_yes_5 : decode cX3_yes 5 = .ok (.iload_n 1, 1) := by decide +kernel
theorem dX3_yes_6 : decode cX3_yes 6 = .ok (.ireturn, 1) := by decide +kernel
set_option maxRecDepth 20000 in
theorem ggX3_breaks_X3_no : GoodIn wsX3_breaks wsX3_no := goodIn_r _ [6, 7, 8, 9, 10, 11, 12, 13, 14, 15, 16, 17, 18, 19, 20, 21, 22, 23, 24, 25] (by decide +kernel) (by decide +kernel)
set_option maxRecDepth 20000 in
theorem gX3_breaks_X3_no : GoodIn wsX3_breaks (wsV RX3 56 RX3 yX3_no wsX3_no) := goodIn_app (goodIn_of _ (by decide +kernel)) ggX3_breaks_X3_no
theorem dX3_breaks_0 : decode cX3_breaks 0 = .ok (.aload_n 0, 1) := by decide +kernel
theorem dX3_breaks_1 : decode cX3_breaks 1 = .ok (.iload_n 1, 1) := by decide +kernel
theorem dX3_breaks_2 : decode cX3_breaks 2 = .ok (.putfield 28, 3) := by decide +kernel
theorem dX3_breaks_5 : decode cX3_breaks 5 = .ok (.aload_n 0, 1) := by decide +kernel
theorem dX3_breaks_6 : decode cX3_breaks 6 = .ok (.iconst 5, 1) := by decide +kernel
theorem dX3_breaks_7 : decode cX3_breaks 7 = .ok (.invokevirtual 56, 3) := by decide +kernel
theorem dX3_breaks_10 : decode cX3_breaks 10 = .ok (.ireturn, 1) := by decide +kernel
theorem dX3_code_0 : decode cX3_code 0 = .ok (.aload_n 0, 1) := by decide +kernel
theorem dX3_code_1 : decode cX3_code 1 = .ok (.getfield 53, 3) := by decide +kernel
theorem dX3_code_4 : decode cX3_code 4 = .ok (.ireturn, 1) := by decide +kernel
theorem dX3_place_0 : decode cX3_place 0 = .ok (.aload_n 0, 1) := by decide +kernel
theorem dX3_place_1 : decode cX3_place 1 = .ok (.getfield 28, 3) := by decide +kernel
theorem dX3_place_4 : decode cX3_place 4 = .ok (.ireturn, 1) := by decide +kernel
theorem dX3_freeRow_0 : decode cX3_freeRow 0 = .ok (.iconst 0, 1) := by decide +kernel
theorem dX3_freeRow_1 : decode cX3_freeRow 1 = .ok (.istore_n 1, 1) := by decide +kernel
theorem dX3_freeRow_2 : decode cX3_freeRow 2 = .ok (.iload_n 1, 1) := by decide +kernel
theorem dX3_freeRow_3 : decode cX3_freeRow 3 = .ok (.bipush 24, 2) := by decide +kernel
theorem dX3_freeRow_5 : decode cX3_freeRow 5 = .ok (.if_icmp .ge 87, 3) := by decide +kernel
theorem dX3_freeRow_8 : decode cX3_freeRow 8 = .ok (.iconst 0, 1) := by decide +kernel
theorem dX3_freeRow_9 : decode cX3_freeRow 9 = .ok (.istore_n 2, 1) := by decide +kernel
theorem dX3_freeRow_10 : decode cX3_freeRow 10 = .ok (.iconst 0, 1) := by decide +kernel
theorem dX3_freeRow_11 : decode cX3_freeRow 11 = .ok (.istore_n 3, 1) := by decide +kernel
theorem dX3_freeRow_12 : decode cX3_freeRow 12 = .ok (.iload_n 3, 1) := by decide +kernel
theorem dX3_freeRow_13 : decode cX3_freeRow 13 = .ok (.bipush 10, 2) := by decide +kernel
theorem dX3_freeRow_15 : decode cX3_freeRow 15 = .ok (.if_icmp .ge 29, 3) := by decide +kernel
theorem dX3_freeRow_18 : decode cX3_freeRow 18 = .ok (.iload_n 2, 1) := by decide +kernel
theorem dX3_freeRow_19 : decode cX3_freeRow 19 = .ok (.ifCond .ne 13, 3) := by decide +kernel
theorem dX3_freeRow_22 : decode cX3_freeRow 22 = .ok (.aload_n 0, 1) := by decide +kernel
theorem dX3_freeRow_23 : decode cX3_freeRow 23 = .ok (.getfield 7, 3) := by decide +kernel
theorem dX3_freeRow_26 : decode cX3_freeRow 26 = .ok (.iload_n 3, 1) := by decide +kernel
theorem dX3_freeRow_27 : decode cX3_freeRow 27 = .ok (.iaload, 1) := by decide +kernel
theorem dX3_freeRow_28 : decode cX3_freeRow 28 = .ok (.iload_n 1, 1) := by decide +kernel
theorem dX3_freeRow_29 : decode cX3_freeRow 29 = .ok (.if_icmp .ne 7, 3) := by decide +kernel
theorem dX3_freeRow_32 : decode cX3_freeRow 32 = .ok (.iconst 1, 1) := by decide +kernel
theorem dX3_freeRow_33 : decode cX3_freeRow 33 = .ok (.goto 4, 3) := by decide +kernel
theorem dX3_freeRow_36 : decode cX3_freeRow 36 = .ok (.iconst 0, 1) := by decide +kernel
theorem dX3_freeRow_37 : decode cX3_freeRow 37 = .ok (.istore_n 2, 1) := by decide +kernel
theorem dX3_freeRow_38 : decode cX3_freeRow 38 = .ok (.iinc 3 1, 3) := by decide +kernel
theorem dX3_freeRow_41 : decode cX3_freeRow 41 = .ok (.goto (-29), 3) := by decide +kernel
theorem dX3_freeRow_44 : decode cX3_freeRow 44 = .ok (.iconst 0, 1) := by decide +kernel
theorem dX3_freeRow_45 : decode cX3_freeRow 45 = .ok (.istore_n 3, 1) := by decide +kernel
theorem dX3_freeRow_46 : decode cX3_freeRow 46 = .ok (.iload_n 3, 1) := by decide +kernel
theorem dX3_freeRow_47 : decode cX3_freeRow 47 = .ok (.aload_n 0, 1) := by decide +kernel
theorem dX3_freeRow_48 : decode cX3_freeRow 48 = .ok (.getfield 60, 3) := by decide +kernel
theorem dX3_freeRow_51 : decode cX3_freeRow 51 = .ok (.if_icmp .ge 29, 3) := by decide +kernel
theorem dX3_freeRow_54 : decode cX3_freeRow 54 = .ok (.iload_n 2, 1) := by decide +kernel
theorem dX3_freeRow_55 : decode cX3_freeRow 55 = .ok (.ifCond .ne 13, 3) := by decide +kernel
theorem dX3_freeRow_58 : decode cX3_freeRow 58 = .ok (.aload_n 0, 1) := by decide +kernel
theorem dX3_freeRow_59 : decode cX3_freeRow 59 = .ok (.getfield 13, 3) := by decide +kernel
theorem dX3_freeRow_62 : decode cX3_freeRow 62 = .ok (.iload_n 3, 1) := by decide +kernel
theorem dX3_freeRow_63 : decode cX3_freeRow 63 = .ok (.iaload, 1) := by decide +kernel
theorem dX3_freeRow_64 : decode cX3_freeRow 64 = .ok (.iload_n 1, 1) := by decide +kernel
theorem dX3_freeRow_65 : decode cX3_freeRow 65 = .ok (.if_icmp .ne 7, 3) := by decide +kernel
theorem dX3_freeRow_68 : decode cX3_freeRow 68 = .ok (.iconst 1, 1) := by decide +kernel
theorem dX3_freeRow_69 : decode cX3_freeRow 69 = .ok (.goto 4, 3) := by decide +kernel
theorem dX3_freeRow_72 : decode cX3_freeRow 72 = .ok (.iconst 0, 1) := by decide +kernel
theorem dX3_freeRow_73 : decode cX3_freeRow 73 = .ok (.istore_n 2, 1) := by decide +kernel
theorem dX3_freeRow_74 : decode cX3_freeRow 74 = .ok (.iinc 3 1, 3) := by decide +kernel
theorem dX3_freeRow_77 : decode cX3_freeRow 77 = .ok (.goto (-31), 3) := by decide +kernel
theorem dX3_freeRow_80 : decode cX3_freeRow 80 = .ok (.iload_n 2, 1) := by decide +kernel
theorem dX3_freeRow_81 : decode cX3_freeRow 81 = .ok (.ifCond .ne 5, 3) := by decide +kernel
theorem dX3_freeRow_84 : decode cX3_freeRow 84 = .ok (.iload_n 1, 1) := by decide +kernel
theorem dX3_freeRow_85 : decode cX3_freeRow 85 = .ok (.ireturn, 1) := by decide +kernel
theorem dX3_freeRow_86 : decode cX3_freeRow 86 = .ok (.iinc 1 1, 3) := by decide +kernel
theorem dX3_freeRow_89 : decode cX3_freeRow 89 = .ok (.goto (-87), 3) := by decide +kernel
theorem dX3_freeRow_92 : decode cX3_freeRow 92 = .ok (.iconst (-1), 1) := by decide +kernel
theorem dX3_freeRow_93 : decode cX3_freeRow 93 = .ok (.ireturn, 1) := by decide +kernel
set_option maxRecDepth 20000 in
theorem ggX3_become_X3_freeRow : GoodIn wsX3_become wsX3_freeRow := goodIn_r _ [9, 4, 10, 11, 17, 18, 19, 20, 21, 22, 23, 24, 25, 26, 27, 28, 29, 30, 31, 32, 33, 34] (by decide +kernel) (by decide +kernel)
set_option maxRecDepth 20000 in
theorem gX3_become_X3_freeRow : GoodIn wsX3_become (wsV RX3 63 RX3 yX3_freeRow wsX3_freeRow) := goodIn_app (goodIn_of _ (by decide +kernel)) ggX3_become_X3_freeRow
set_option maxRecDepth 20000 in
theorem ggX3_become_X3_yes : GoodIn wsX3_become wsX3_yes := goodIn_r _ [15, 16, 17, 18, 19, 20, 21, 22, 23, 24, 25, 26, 27, 28, 29, 30, 31, 32, 33, 34] (by decide +kernel) (by decide +kernel)
set_option maxRecDepth 20000 in
theorem gX3_become_X3_yes : GoodIn wsX3_become (wsV RX3 67 RX3 yX3_yes wsX3_yes) := goodIn_app (goodIn_of _ (by decide +kernel)) ggX3_become_X3_yes
theorem dX3_become_0 : decode cX3_become 0 = .ok (.aload_n 0, 1) := by decide +kernel
theorem dX3_become_1 : decode cX3_become 1 = .ok (.invokevirtual 63, 3) := by decide +kernel
theorem dX3_become_4 : decode cX3_become 4 = .ok (.istore 5, 2) := by decide +kernel
theorem dX3_become_6 : decode cX3_become 6 = .ok (.aload_n 0, 1) := by decide +kernel
theorem dX3_become_7 : decode cX3_become 7 = .ok (.getfield 16, 3) := by decide +kernel
theorem dX3_become_10 : decode cX3_become 10 = .ok (.iload 5, 2) := by decide +kernel
theorem dX3_become_12 : decode cX3_become 12 = .ok (.iload_n 2, 1) := by decide +kernel
theorem dX3_become_13 : decode cX3_become 13 = .ok (.iastore, 1) := by decide +kernel
theorem dX3_become_14 : decode cX3_become 14 = .ok (.aload_n 0, 1) := by decide +kernel
theorem dX3_become_15 : decode cX3_become 15 = .ok (.getfield 19, 3) := by decide +kernel
theorem dX3_become_18 : decode cX3_become 18 = .ok (.iload 5, 2) := by decide +kernel
theorem dX3_become_20 : decode cX3_become 20 = .ok (.iload 4, 2) := by decide +kernel
theorem dX3_become_22 : decode cX3_become 22 = .ok (.iastore, 1) := by decide +kernel
theorem dX3_become_23 : decode cX3_become 23 = .ok (.iconst 0, 1) := by decide +kernel
theorem dX3_become_24 : decode cX3_become 24 = .ok (.istore 6, 2) := by decide +kernel
theorem dX3_become_26 : decode cX3_become 26 = .ok (.iload 6, 2) := by decide +kernel
theorem dX3_become_28 : decode cX3_become 28 = .ok (.iload 4, 2) := by decide +kernel
theorem dX3_become_30 : decode cX3_become 30 = .ok (.if_icmp .ge 27, 3) := by decide +kernel
theorem dX3_become_33 : decode cX3_become 33 = .ok (.aload_n 0, 1) := by decide +kernel
theorem dX3_become_34 : decode cX3_become 34 = .ok (.getfield 22, 3) := by decide +kernel
theorem dX3_become_37 : decode cX3_become 37 = .ok (.sipush 240, 3) := by decide +kernel
theorem dX3_become_40 : decode cX3_become 40 = .ok (.iload 5, 2) := by decide +kernel
theorem dX3_become_42 : decode cX3_become 42 = .ok (.imul, 1) := by decide +kernel
theorem dX3_become_43 : decode cX3_become 43 = .ok (.iload 6, 2) := by decide +kernel
theorem dX3_become_45 : decode cX3_become 45 = .ok (.iadd, 1) := by decide +kernel
theorem dX3_become_46 : decode cX3_become 46 = .ok (.aload_n 3, 1) := by decide +kernel
theorem dX3_become_47 : decode cX3_become 47 = .ok (.iload 6, 2) := by decide +kernel
theorem dX3_become_49 : decode cX3_become 49 = .ok (.iaload, 1) := by decide +kernel
theorem dX3_become_50 : decode cX3_become 50 = .ok (.iastore, 1) := by decide +kernel
theorem dX3_become_51 : decode cX3_become 51 = .ok (.iinc 6 1, 3) := by decide +kernel
theorem dX3_become_54 : decode cX3_become 54 = .ok (.goto (-28), 3) := by decide +kernel
theorem dX3_become_57 : decode cX3_become 57 = .ok (.aload_n 0, 1) := by decide +kernel
theorem dX3_become_58 : decode cX3_become 58 = .ok (.getfield 7, 3) := by decide +kernel
theorem dX3_become_61 : decode cX3_become 61 = .ok (.iload_n 1, 1) := by decide +kernel
theorem dX3_become_62 : decode cX3_become 62 = .ok (.iload 5, 2) := by decide +kernel
theorem dX3_become_64 : decode cX3_become 64 = .ok (.iastore, 1) := by decide +kernel
theorem dX3_become_65 : decode cX3_become 65 = .ok (.aload_n 0, 1) := by decide +kernel
theorem dX3_become_66 : decode cX3_become 66 = .ok (.iload 4, 2) := by decide +kernel
theorem dX3_become_68 : decode cX3_become 68 = .ok (.invokevirtual 67, 3) := by decide +kernel
theorem dX3_become_71 : decode cX3_become 71 = .ok (.ireturn, 1) := by decide +kernel
theorem dX3_sortOf_0 : decode cX3_sortOf 0 = .ok (.aload_n 0, 1) := by decide +kernel
theorem dX3_sortOf_1 : decode cX3_sortOf 1 = .ok (.getfield 7, 3) := by decide +kernel
theorem dX3_sortOf_4 : decode cX3_sortOf 4 = .ok (.iload_n 1, 1) := by decide +kernel
theorem dX3_sortOf_5 : decode cX3_sortOf 5 = .ok (.iaload, 1) := by decide +kernel
theorem dX3_sortOf_6 : decode cX3_sortOf 6 = .ok (.iconst (-1), 1) := by decide +kernel
theorem dX3_sortOf_7 : decode cX3_sortOf 7 = .ok (.if_icmp .ne 7, 3) := by decide +kernel
theorem dX3_sortOf_10 : decode cX3_sortOf 10 = .ok (.iconst (-1), 1) := by decide +kernel
theorem dX3_sortOf_11 : decode cX3_sortOf 11 = .ok (.goto 14, 3) := by decide +kernel
theorem dX3_sortOf_14 : decode cX3_sortOf 14 = .ok (.aload_n 0, 1) := by decide +kernel
theorem dX3_sortOf_15 : decode cX3_sortOf 15 = .ok (.getfield 16, 3) := by decide +kernel
theorem dX3_sortOf_18 : decode cX3_sortOf 18 = .ok (.aload_n 0, 1) := by decide +kernel
theorem dX3_sortOf_19 : decode cX3_sortOf 19 = .ok (.getfield 7, 3) := by decide +kernel
theorem dX3_sortOf_22 : decode cX3_sortOf 22 = .ok (.iload_n 1, 1) := by decide +kernel
theorem dX3_sortOf_23 : decode cX3_sortOf 23 = .ok (.iaload, 1) := by decide +kernel
theorem dX3_sortOf_24 : decode cX3_sortOf 24 = .ok (.iaload, 1) := by decide +kernel
theorem dX3_sortOf_25 : decode cX3_sortOf 25 = .ok (.ireturn, 1) := by decide +kernel
theorem dX3_manyOf_0 : decode cX3_manyOf 0 = .ok (.aload_n 0, 1) := by decide +kernel
theorem dX3_manyOf_1 : decode cX3_manyOf 1 = .ok (.getfield 19, 3) := by decide +kernel
theorem dX3_manyOf_4 : decode cX3_manyOf 4 = .ok (.aload_n 0, 1) := by decide +kernel
theorem dX3_manyOf_5 : decode cX3_manyOf 5 = .ok (.getfield 7, 3) := by decide +kernel
theorem dX3_manyOf_8 : decode cX3_manyOf 8 = .ok (.iload_n 1, 1) := by decide +kernel
theorem dX3_manyOf_9 : decode cX3_manyOf 9 = .ok (.iaload, 1) := by decide +kernel
theorem dX3_manyOf_10 : decode cX3_manyOf 10 = .ok (.iaload, 1) := by decide +kernel
theorem dX3_manyOf_11 : decode cX3_manyOf 11 = .ok (.ireturn, 1) := by decide +kernel
theorem dX3_item_0 : decode cX3_item 0 = .ok (.aload_n 0, 1) := by decide +kernel
theorem dX3_item_1 : decode cX3_item 1 = .ok (.getfield 22, 3) := by decide +kernel
theorem dX3_item_4 : decode cX3_item 4 = .ok (.sipush 240, 3) := by decide +kernel
theorem dX3_item_7 : decode cX3_item 7 = .ok (.aload_n 0, 1) := by decide +kernel
theorem dX3_item_8 : decode cX3_item 8 = .ok (.getfield 7, 3) := by decide +kernel
theorem dX3_item_11 : decode cX3_item 11 = .ok (.iload_n 1, 1) := by decide +kernel
theorem dX3_item_12 : decode cX3_item 12 = .ok (.iaload, 1) := by decide +kernel
theorem dX3_item_13 : decode cX3_item 13 = .ok (.imul, 1) := by decide +kernel
theorem dX3_item_14 : decode cX3_item 14 = .ok (.iload_n 2, 1) := by decide +kernel
theorem dX3_item_15 : decode cX3_item 15 = .ok (.iadd, 1) := by decide +kernel
theorem dX3_item_16 : decode cX3_item 16 = .ok (.iaload, 1) := by decide +kernel
theorem dX3_item_17 : decode cX3_item 17 = .ok (.ireturn, 1) := by decide +kernel
theorem dX3_addUnits_0 : decode cX3_addUnits 0 = .ok (.iload_n 1, 1) := by decide +kernel
theorem dX3_addUnits_1 : decode cX3_addUnits 1 = .ok (.ldc 70, 2) := by decide +kernel
theorem dX3_addUnits_3 : decode cX3_addUnits 3 = .ok (.if_icmp .ge 26, 3) := by decide +kernel
theorem dX3_addUnits_6 : decode cX3_addUnits 6 = .ok (.aload_n 0, 1) := by decide +kernel
theorem dX3_addUnits_7 : decode cX3_addUnits 7 = .ok (.getfield 35, 3) := by decide +kernel
theorem dX3_addUnits_10 : decode cX3_addUnits 10 = .ok (.aload_n 0, 1) := by decide +kernel
theorem dX3_addUnits_11 : decode cX3_addUnits 11 = .ok (.getfield 71, 3) := by decide +kernel
theorem dX3_addUnits_14 : decode cX3_addUnits 14 = .ok (.iload_n 1, 1) := by decide +kernel
theorem dX3_addUnits_15 : decode cX3_addUnits 15 = .ok (.iastore, 1) := by decide +kernel
theorem dX3_addUnits_16 : decode cX3_addUnits 16 = .ok (.aload_n 0, 1) := by decide +kernel
theorem dX3_addUnits_17 : decode cX3_addUnits 17 = .ok (.dup, 1) := by decide +kernel
theorem dX3_addUnits_18 : decode cX3_addUnits 18 = .ok (.getfield 71, 3) := by decide +kernel
theorem dX3_addUnits_21 : decode cX3_addUnits 21 = .ok (.iconst 1, 1) := by decide +kernel
theorem dX3_addUnits_22 : decode cX3_addUnits 22 = .ok (.iadd, 1) := by decide +kernel
theorem dX3_addUnits_23 : decode cX3_addUnits 23 = .ok (.putfield 71, 3) := by decide +kernel
theorem dX3_addUnits_26 : decode cX3_addUnits 26 = .ok (.goto 55, 3) := by decide +kernel
theorem dX3_addUnits_29 : decode cX3_addUnits 29 = .ok (.aload_n 0, 1) := by decide +kernel
theorem dX3_addUnits_30 : decode cX3_addUnits 30 = .ok (.getfield 35, 3) := by decide +kernel
theorem dX3_addUnits_33 : decode cX3_addUnits 33 = .ok (.aload_n 0, 1) := by decide +kernel
theorem dX3_addUnits_34 : decode cX3_addUnits 34 = .ok (.getfield 71, 3) := by decide +kernel
theorem dX3_addUnits_37 : decode cX3_addUnits 37 = .ok (.ldc 49, 2) := by decide +kernel
theorem dX3_addUnits_39 : decode cX3_addUnits 39 = .ok (.iload_n 1, 1) := by decide +kernel
theorem dX3_addUnits_40 : decode cX3_addUnits 40 = .ok (.ldc 70, 2) := by decide +kernel
theorem dX3_addUnits_42 : decode cX3_addUnits 42 = .ok (.isub, 1) := by decide +kernel
theorem dX3_addUnits_43 : decode cX3_addUnits 43 = .ok (.sipush 1024, 3) := by decide +kernel
theorem dX3_addUnits_46 : decode cX3_addUnits 46 = .ok (.idiv, 1) := by decide +kernel
theorem dX3_addUnits_47 : decode cX3_addUnits 47 = .ok (.iadd, 1) := by decide +kernel
theorem dX3_addUnits_48 : decode cX3_addUnits 48 = .ok (.iastore, 1) := by decide +kernel
theorem dX3_addUnits_49 : decode cX3_addUnits 49 = .ok (.aload_n 0, 1) := by decide +kernel
theorem dX3_addUnits_50 : decode cX3_addUnits 50 = .ok (.getfield 35, 3) := by decide +kernel
theorem dX3_addUnits_53 : decode cX3_addUnits 53 = .ok (.aload_n 0, 1) := by decide +kernel
theorem dX3_addUnits_54 : decode cX3_addUnits 54 = .ok (.getfield 71, 3) := by decide +kernel
theorem dX3_addUnits_57 : decode cX3_addUnits 57 = .ok (.iconst 1, 1) := by decide +kernel
theorem dX3_addUnits_58 : decode cX3_addUnits 58 = .ok (.iadd, 1) := by decide +kernel
theorem dX3_addUnits_59 : decode cX3_addUnits 59 = .ok (.ldc 51, 2) := by decide +kernel
theorem dX3_addUnits_61 : decode cX3_addUnits 61 = .ok (.iload_n 1, 1) := by decide +kernel
theorem dX3_addUnits_62 : decode cX3_addUnits 62 = .ok (.ldc 70, 2) := by decide +kernel
theorem dX3_addUnits_64 : decode cX3_addUnits 64 = .ok (.isub, 1) := by decide +kernel
theorem dX3_addUnits_65 : decode cX3_addUnits 65 = .ok (.sipush 1024, 3) := by decide +kernel
theorem dX3_addUnits_68 : decode cX3_addUnits 68 = .ok (.irem, 1) := by decide +kernel
theorem dX3_addUnits_69 : decode cX3_addUnits 69 = .ok (.iadd, 1) := by decide +kernel
theorem dX3_addUnits_70 : decode cX3_addUnits 70 = .ok (.iastore, 1) := by decide +kernel
theorem dX3_addUnits_71 : decode cX3_addUnits 71 = .ok (.aload_n 0, 1) := by decide +kernel
theorem dX3_addUnits_72 : decode cX3_addUnits 72 = .ok (.dup, 1) := by decide +kernel
theorem dX3_addUnits_73 : decode cX3_addUnits 73 = .ok (.getfield 71, 3) := by decide +kernel
theorem dX3_addUnits_76 : decode cX3_addUnits 76 = .ok (.iconst 2, 1) := by decide +kernel
theorem dX3_addUnits_77 : decode cX3_addUnits 77 = .ok (.iadd, 1) := by decide +kernel
theorem dX3_addUnits_78 : decode cX3_addUnits 78 = .ok (.putfield 71, 3) := by decide +kernel
theorem dX3_addUnits_81 : decode cX3_addUnits 81 = .ok (.return_, 1) := by decide +kernel
set_option maxRecDepth 20000 in
theorem ggX3_unitsToPoints_X3_isHigh : GoodIn wsX3_unitsToPoints wsX3_isHigh := goodIn_r _ [11, 6, 12, 13, 14, 10, 15] (by decide +kernel) (by decide +kernel)
set_option maxRecDepth 20000 in
theorem gX3_unitsToPoints_X3_isHigh : GoodIn wsX3_unitsToPoints (va_wsS RX3 77 yX3_isHigh wsX3_isHigh) := goodIn_app (goodIn_of _ (by decide +kernel)) ggX3_unitsToPoints_X3_isHigh
set_option maxRecDepth 20000 in
theorem ggX3_unitsToPoints_X3_isLow : GoodIn wsX3_unitsToPoints wsX3_isLow := goodIn_r _ [18, 7, 19, 13, 14, 10, 15] (by decide +kernel) (by decide +kernel)
set_option maxRecDepth 20000 in
theorem gX3_unitsToPoints_X3_isLow : GoodIn wsX3_unitsToPoints (va_wsS RX3 81 yX3_isLow wsX3_isLow) := goodIn_app (goodIn_of _ (by decide +kernel)) ggX3_unitsToPoints_X3_isLow
theorem dX3_unitsToPoints_0 : decode cX3_unitsToPoints 0 = .ok (.aload_n 0, 1) := by decide +kernel
theorem dX3_unitsToPoints_1 : decode cX3_unitsToPoints 1 = .ok (.iconst 0, 1) := by decide +kernel
theorem dX3_unitsToPoints_2 : decode cX3_unitsToPoints 2 = .ok (.putfield 74, 3) := by decide +kernel
theorem dX3_unitsToPoints_5 : decode cX3_unitsToPoints 5 = .ok (.iconst 0, 1) := by decide +kernel
theorem dX3_unitsToPoints_6 : decode cX3_unitsToPoints 6 = .ok (.istore_n 1, 1) := by decide +kernel
theorem dX3_unitsToPoints_7 : decode cX3_unitsToPoints 7 = .ok (.iload_n 1, 1) := by decide +kernel
theorem dX3_unitsToPoints_8 : decode cX3_unitsToPoints 8 = .ok (.aload_n 0, 1) := by decide +kernel
theorem dX3_unitsToPoints_9 : decode cX3_unitsToPoints 9 = .ok (.getfield 71, 3) := by decide +kernel
theorem dX3_unitsToPoints_12 : decode cX3_unitsToPoints 12 = .ok (.if_icmp .ge 120, 3) := by decide +kernel
theorem dX3_unitsToPoints_15 : decode cX3_unitsToPoints 15 = .ok (.aload_n 0, 1) := by decide +kernel
theorem dX3_unitsToPoints_16 : decode cX3_unitsToPoints 16 = .ok (.getfield 35, 3) := by decide +kernel
theorem dX3_unitsToPoints_19 : decode cX3_unitsToPoints 19 = .ok (.iload_n 1, 1) := by decide +kernel
theorem dX3_unitsToPoints_20 : decode cX3_unitsToPoints 20 = .ok (.iaload, 1) := by decide +kernel
theorem dX3_unitsToPoints_21 : decode cX3_unitsToPoints 21 = .ok (.invokestatic 77, 3) := by decide +kernel
theorem dX3_unitsToPoints_24 : decode cX3_unitsToPoints 24 = .ok (.ifCond .eq 31, 3) := by decide +kernel
theorem dX3_unitsToPoints_27 : decode cX3_unitsToPoints 27 = .ok (.iload_n 1, 1) := by decide +kernel
theorem dX3_unitsToPoints_28 : decode cX3_unitsToPoints 28 = .ok (.iconst 1, 1) := by decide +kernel
theorem dX3_unitsToPoints_29 : decode cX3_unitsToPoints 29 = .ok (.iadd, 1) := by decide +kernel
theorem dX3_unitsToPoints_30 : decode cX3_unitsToPoints 30 = .ok (.aload_n 0, 1) := by decide +kernel
theorem dX3_unitsToPoints_31 : decode cX3_unitsToPoints 31 = .ok (.getfield 71, 3) := by decide +kernel
theorem dX3_unitsToPoints_34 : decode cX3_unitsToPoints 34 = .ok (.if_icmp .ge 21, 3) := by decide +kernel
theorem dX3_unitsToPoints_37 : decode cX3_unitsToPoints 37 = .ok (.aload_n 0, 1) := by decide +kernel
theorem dX3_unitsToPoints_38 : decode cX3_unitsToPoints 38 = .ok (.getfield 35, 3) := by decide +kernel
theorem dX3_unitsToPoints_41 : decode cX3_unitsToPoints 41 = .ok (.iload_n 1, 1) := by decide +kernel
theorem dX3_unitsToPoints_42 : decode cX3_unitsToPoints 42 = .ok (.iconst 1, 1) := by decide +kernel
theorem dX3_unitsToPoints_43 : decode cX3_unitsToPoints 43 = .ok (.iadd, 1) := by decide +kernel
theorem dX3_unitsToPoints_44 : decode cX3_unitsToPoints 44 = .ok (.iaload, 1) := by decide +kernel
theorem dX3_unitsToPoints_45 : decode cX3_unitsToPoints 45 = .ok (.invokestatic 81, 3) := by decide +kernel
theorem dX3_unitsToPoints_48 : decode cX3_unitsToPoints 48 = .ok (.ifCond .eq 7, 3) := by decide +kernel
theorem dX3_unitsToPoints_51 : decode cX3_unitsToPoints 51 = .ok (.iconst 1, 1) := by decide +kernel
theorem dX3_unitsToPoints_52 : decode cX3_unitsToPoints 52 = .ok (.goto 4, 3) := by decide +kernel
theorem dX3_unitsToPoints_55 : decode cX3_unitsToPoints 55 = .ok (.iconst 0, 1) := by decide +kernel
theorem dX3_unitsToPoints_56 : decode cX3_unitsToPoints 56 = .ok (.istore_n 2, 1) := by decide +kernel
theorem dX3_unitsToPoints_57 : decode cX3_unitsToPoints 57 = .ok (.aload_n 0, 1) := by decide +kernel
theorem dX3_unitsToPoints_58 : decode cX3_unitsToPoints 58 = .ok (.getfield 32, 3) := by decide +kernel
theorem dX3_unitsToPoints_61 : decode cX3_unitsToPoints 61 = .ok (.aload_n 0, 1) := by decide +kernel
theorem dX3_unitsToPoints_62 : decode cX3_unitsToPoints 62 = .ok (.getfield 74, 3) := by decide +kernel
theorem dX3_unitsToPoints_65 : decode cX3_unitsToPoints 65 = .ok (.iload_n 2, 1) := by decide +kernel
theorem dX3_unitsToPoints_66 : decode cX3_unitsToPoints 66 = .ok (.ifCond .eq 34, 3) := by decide +kernel
theorem dX3_unitsToPoints_69 : decode cX3_unitsToPoints 69 = .ok (.ldc 70, 2) := by decide +kernel
theorem dX3_unitsToPoints_71 : decode cX3_unitsToPoints 71 = .ok (.aload_n 0, 1) := by decide +kernel
theorem dX3_unitsToPoints_72 : decode cX3_unitsToPoints 72 = .ok (.getfield 35, 3) := by decide +kernel
theorem dX3_unitsToPoints_75 : decode cX3_unitsToPoints 75 = .ok (.iload_n 1, 1) := by decide +kernel
theorem dX3_unitsToPoints_76 : decode cX3_unitsToPoints 76 = .ok (.iaload, 1) := by decide +kernel
theorem dX3_unitsToPoints_77 : decode cX3_unitsToPoints 77 = .ok (.ldc 49, 2) := by decide +kernel
theorem dX3_unitsToPoints_79 : decode cX3_unitsToPoints 79 = .ok (.isub, 1) := by decide +kernel
theorem dX3_unitsToPoints_80 : decode cX3_unitsToPoints 80 = .ok (.sipush 1024, 3) := by decide +kernel
theorem dX3_unitsToPoints_83 : decode cX3_unitsToPoints 83 = .ok (.imul, 1) := by decide +kernel
theorem dX3_unitsToPoints_84 : decode cX3_unitsToPoints 84 = .ok (.iadd, 1) := by decide +kernel
theorem dX3_unitsToPoints_85 : decode cX3_unitsToPoints 85 = .ok (.aload_n 0, 1) := by decide +kernel
theorem dX3_unitsToPoints_86 : decode cX3_unitsToPoints 86 = .ok (.getfield 35, 3) := by decide +kernel
theorem dX3_unitsToPoints_89 : decode cX3_unitsToPoints 89 = .ok (.iload_n 1, 1) := by decide +kernel
theorem dX3_unitsToPoints_90 : decode cX3_unitsToPoints 90 = .ok (.iconst 1, 1) := by decide +kernel
theorem dX3_unitsToPoints_91 : decode cX3_unitsToPoints 91 = .ok (.iadd, 1) := by decide +kernel
theorem dX3_unitsToPoints_92 : decode cX3_unitsToPoints 92 = .ok (.iaload, 1) := by decide +kernel
theorem dX3_unitsToPoints_93 : decode cX3_unitsToPoints 93 = .ok (.iadd, 1) := by decide +kernel
theorem dX3_unitsToPoints_94 : decode cX3_unitsToPoints 94 = .ok (.ldc 51, 2) := by decide +kernel
theorem dX3_unitsToPoints_96 : decode cX3_unitsToPoints 96 = .ok (.isub, 1) := by decide +kernel
theorem dX3_unitsToPoints_97 : decode cX3_unitsToPoints 97 = .ok (.goto 9, 3) := by decide +kernel
theorem dX3_unitsToPoints_100 : decode cX3_unitsToPoints 100 = .ok (.aload_n 0, 1) := by decide +kernel
theorem dX3_unitsToPoints_101 : decode cX3_unitsToPoints 101 = .ok (.getfield 35, 3) := by decide +kernel
theorem dX3_unitsToPoints_104 : decode cX3_unitsToPoints 104 = .ok (.iload_n 1, 1) := by decide +kernel
theorem dX3_unitsToPoints_105 : decode cX3_unitsToPoints 105 = .ok (.iaload, 1) := by decide +kernel
theorem dX3_unitsToPoints_106 : decode cX3_unitsToPoints 106 = .ok (.iastore, 1) := by decide +kernel
theorem dX3_unitsToPoints_107 : decode cX3_unitsToPoints 107 = .ok (.aload_n 0, 1) := by decide +kernel
theorem dX3_unitsToPoints_108 : decode cX3_unitsToPoints 108 = .ok (.dup, 1) := by decide +kernel
theorem dX3_unitsToPoints_109 : decode cX3_unitsToPoints 109 = .ok (.getfield 74, 3) := by decide +kernel
theorem dX3_unitsToPoints_112 : decode cX3_unitsToPoints 112 = .ok (.iconst 1, 1) := by decide +kernel
theorem dX3_unitsToPoints_113 : decode cX3_unitsToPoints 113 = .ok (.iadd, 1) := by decide +kernel
theorem dX3_unitsToPoints_114 : decode cX3_unitsToPoints 114 = .ok (.putfield 74, 3) := by decide +kernel
theorem dX3_unitsToPoints_117 : decode cX3_unitsToPoints 117 = .ok (.iload_n 1, 1) := by decide +kernel
theorem dX3_unitsToPoints_118 : decode cX3_unitsToPoints 118 = .ok (.iload_n 2, 1) := by decide +kernel
theorem dX3_unitsToPoints_119 : decode cX3_unitsToPoints 119 = .ok (.ifCond .eq 7, 3) := by decide +kernel
theorem dX3_unitsToPoints_122 : decode cX3_unitsToPoints 122 = .ok (.iconst 2, 1) := by decide +kernel
theorem dX3_unitsToPoints_123 : decode cX3_unitsToPoints 123 = .ok (.goto 4, 3) := by decide +kernel
theorem dX3_unitsToPoints_126 : decode cX3_unitsToPoints 126 = .ok (.iconst 1, 1) := by decide +kernel
theorem dX3_unitsToPoints_127 : decode cX3_unitsToPoints 127 = .ok (.iadd, 1) := by decide +kernel
theorem dX3_unitsToPoints_128 : decode cX3_unitsToPoints 128 = .ok (.istore_n 1, 1) := by decide +kernel
theorem dX3_unitsToPoints_129 : decode cX3_unitsToPoints 129 = .ok (.goto (-122), 3) := by decide +kernel
theorem dX3_unitsToPoints_132 : decode cX3_unitsToPoints 132 = .ok (.return_, 1) := by decide +kernel
set_option maxRecDepth 20000 in
theorem ggX3_pointsToUnits_X3_addUnits : GoodIn wsX3_pointsToUnits wsX3_addUnits := goodIn_r _ [8, 9, 10, 1, 11, 12, 13, 14, 15, 16, 17, 18, 19, 20, 21, 22, 23, 24, 25, 26, 27, 28, 29, 30] (by decide +kernel) (by decide +kernel)
set_option maxRecDepth 20000 in
theorem gX3_pointsToUnits_X3_addUnits : GoodIn wsX3_pointsToUnits (wsV RX3 84 RX3 yX3_addUnits wsX3_addUnits) := goodIn_app (goodIn_of _ (by decide +kernel)) ggX3_pointsToUnits_X3_addUnits
theorem dX3_pointsToUnits_0 : decode cX3_pointsToUnits 0 = .ok (.aload_n 0, 1) := by decide +kernel
theorem dX3_pointsToUnits_1 : decode cX3_pointsToUnits 1 = .ok (.iconst 0, 1) := by decide +kernel
theorem dX3_pointsToUnits_2 : decode cX3_pointsToUnits 2 = .ok (.putfield 71, 3) := by decide +kernel
theorem dX3_pointsToUnits_5 : decode cX3_pointsToUnits 5 = .ok (.iconst 0, 1) := by decide +kernel
theorem dX3_pointsToUnits_6 : decode cX3_pointsToUnits 6 = .ok (.istore_n 1, 1) := by decide +kernel
theorem dX3_pointsToUnits_7 : decode cX3_pointsToUnits 7 = .ok (.iload_n 1, 1) := by decide +kernel
theorem dX3_pointsToUnits_8 : decode cX3_pointsToUnits 8 = .ok (.aload_n 0, 1) := by decide +kernel
theorem dX3_pointsToUnits_9 : decode cX3_pointsToUnits 9 = .ok (.getfield 74, 3) := by decide +kernel
theorem dX3_pointsToUnits_12 : decode cX3_pointsToUnits 12 = .ok (.if_icmp .ge 19, 3) := by decide +kernel
theorem dX3_pointsToUnits_15 : decode cX3_pointsToUnits 15 = .ok (.aload_n 0, 1) := by decide +kernel
theorem dX3_pointsToUnits_16 : decode cX3_pointsToUnits 16 = .ok (.aload_n 0, 1) := by decide +kernel
theorem dX3_pointsToUnits_17 : decode cX3_pointsToUnits 17 = .ok (.getfield 32, 3) := by decide +kernel
theorem dX3_pointsToUnits_20 : decode cX3_pointsToUnits 20 = .ok (.iload_n 1, 1) := by decide +kernel
theorem dX3_pointsToUnits_21 : decode cX3_pointsToUnits 21 = .ok (.iaload, 1) := by decide +kernel
theorem dX3_pointsToUnits_22 : decode cX3_pointsToUnits 22 = .ok (.invokevirtual 84, 3) := by decide +kernel
theorem dX3_pointsToUnits_25 : decode cX3_pointsToUnits 25 = .ok (.iinc 1 1, 3) := by decide +kernel
theorem dX3_pointsToUnits_28 : decode cX3_pointsToUnits 28 = .ok (.goto (-21), 3) := by decide +kernel
theorem dX3_pointsToUnits_31 : decode cX3_pointsToUnits 31 = .ok (.return_, 1) := by decide +kernel
set_option maxRecDepth 20000 in
theorem ggX3_take_X3_sortOf : GoodIn wsX3_take wsX3_sortOf := goodIn_r _ [9, 10, 11, 48, 49, 50, 51, 52, 53, 54, 55, 56, 57, 58, 59, 60, 61, 62, 63, 64, 65] (by decide +kernel) (by decide +kernel)
set_option maxRecDepth 20000 in
theorem gX3_take_X3_sortOf : GoodIn wsX3_take (wsV RX3 88 RX3 yX3_sortOf wsX3_sortOf) := goodIn_app (goodIn_of _ (by decide +kernel)) ggX3_take_X3_sortOf
set_option maxRecDepth 20000 in
theorem ggX3_take_X3_manyOf : GoodIn wsX3_take wsX3_manyOf := goodIn_r _ [15, 16, 10, 48, 49, 50, 51, 52, 53, 54, 55, 56, 57, 58, 59, 60, 61, 62, 63, 64, 65] (by decide +kernel) (by decide +kernel)
set_option maxRecDepth 20000 in
theorem gX3_take_X3_manyOf : GoodIn wsX3_take (wsV RX3 91 RX3 yX3_manyOf wsX3_manyOf) := goodIn_app (goodIn_of _ (by decide +kernel)) ggX3_take_X3_manyOf
set_option maxRecDepth 20000 in
theorem ggX3_take_X3_item : GoodIn wsX3_take wsX3_item := goodIn_r _ [20, 21, 10, 48, 49, 50, 51, 52, 53, 54, 55, 56, 57, 58, 59, 60, 61, 62, 63, 64, 65] (by decide +kernel) (by decide +kernel)
set_option maxRecDepth 20000 in
theorem gX3_take_X3_item : GoodIn wsX3_take (wsV RX3 94 RX3 yX3_item wsX3_item) := goodIn_app (goodIn_of _ (by decide +kernel)) ggX3_take_X3_item
set_option maxRecDepth 20000 in
theorem ggX3_take_X3_unitsToPoints : GoodIn wsX3_take wsX3_unitsToPoints := goodIn_r _ [25, 3, 1, 2, 4, 26, 27, 28, 29, 30, 8, 31, 32, 33, 34, 35, 36, 37, 38, 39, 48, 49, 50, 51, 52, 53, 54, 55, 56, 57, 58, 59, 60, 61, 62, 63, 64, 65] (by decide +kernel) (by decide +kernel)
set_option maxRecDepth 20000 in
theorem gX3_take_X3_unitsToPoints : GoodIn wsX3_take (wsV RX3 98 RX3 yX3_unitsToPoints wsX3_unitsToPoints) := goodIn_app (goodIn_of _ (by decide +kernel)) ggX3_take_X3_unitsToPoints
set_option maxRecDepth 20000 in
theorem ggX3_take_X3_pointsToUnits : GoodIn wsX3_take wsX3_pointsToUnits := goodIn_r _ [43, 1, 3, 4, 44, 45, 46, 8, 47, 26, 2, 27, 28, 48, 49, 50, 51, 52, 53, 54, 55, 56, 57, 58, 59, 60, 61, 62, 63, 64, 65] (by decide +kernel) (by decide +kernel)
set_option maxRecDepth 20000 in
theorem gX3_take_X3_pointsToUnits : GoodIn wsX3_take (wsV RX3 101 RX3 yX3_pointsToUnits wsX3_pointsToUnits) := goodIn_app (goodIn_of _ (by decide +kernel)) ggX3_take_X3_pointsToUnits
theorem dX3_take_0 : decode cX3_take 0 = .ok (.aload_n 0, 1) := by decide +kernel
theorem dX3_take_1 : decode cX3_take 1 = .ok (.iload_n 1, 1) := by decide +kernel
theorem dX3_take_2 : decode cX3_take 2 = .ok (.invokevirtual 88, 3) := by decide +kernel
theorem dX3_take_5 : decode cX3_take 5 = .ok (.ifCond .ne 47, 3) := by decide +kernel
theorem dX3_take_8 : decode cX3_take 8 = .ok (.aload_n 0, 1) := by decide +kernel
theorem dX3_take_9 : decode cX3_take 9 = .ok (.aload_n 0, 1) := by decide +kernel
theorem dX3_take_10 : decode cX3_take 10 = .ok (.iload_n 1, 1) := by decide +kernel
theorem dX3_take_11 : decode cX3_take 11 = .ok (.invokevirtual 91, 3) := by decide +kernel
theorem dX3_take_14 : decode cX3_take 14 = .ok (.putfield 71, 3) := by decide +kernel
theorem dX3_take_17 : decode cX3_take 17 = .ok (.iconst 0, 1) := by decide +kernel
theorem dX3_take_18 : decode cX3_take 18 = .ok (.istore_n 2, 1) := by decide +kernel
theorem dX3_take_19 : decode cX3_take 19 = .ok (.iload_n 2, 1) := by decide +kernel
theorem dX3_take_20 : decode cX3_take 20 = .ok (.aload_n 0, 1) := by decide +kernel
theorem dX3_take_21 : decode cX3_take 21 = .ok (.getfield 71, 3) := by decide +kernel
theorem dX3_take_24 : decode cX3_take 24 = .ok (.if_icmp .ge 21, 3) := by decide +kernel
theorem dX3_take_27 : decode cX3_take 27 = .ok (.aload_n 0, 1) := by decide +kernel
theorem dX3_take_28 : decode cX3_take 28 = .ok (.getfield 35, 3) := by decide +kernel
theorem dX3_take_31 : decode cX3_take 31 = .ok (.iload_n 2, 1) := by decide +kernel
theorem dX3_take_32 : decode cX3_take 32 = .ok (.aload_n 0, 1) := by decide +kernel
theorem dX3_take_33 : decode cX3_take 33 = .ok (.iload_n 1, 1) := by decide +kernel
theorem dX3_take_34 : decode cX3_take 34 = .ok (.iload_n 2, 1) := by decide +kernel
theorem dX3_take_35 : decode cX3_take 35 = .ok (.invokevirtual 94, 3) := by decide +kernel
theorem dX3_take_38 : decode cX3_take 38 = .ok (.iastore, 1) := by decide +kernel
theorem dX3_take_39 : decode cX3_take 39 = .ok (.iinc 2 1, 3) := by decide +kernel
theorem dX3_take_42 : decode cX3_take 42 = .ok (.goto (-23), 3) := by decide +kernel
theorem dX3_take_45 : decode cX3_take 45 = .ok (.aload_n 0, 1) := by decide +kernel
theorem dX3_take_46 : decode cX3_take 46 = .ok (.invokevirtual 98, 3) := by decide +kernel
theorem dX3_take_49 : decode cX3_take 49 = .ok (.goto 44, 3) := by decide +kernel
theorem dX3_take_52 : decode cX3_take 52 = .ok (.aload_n 0, 1) := by decide +kernel
theorem dX3_take_53 : decode cX3_take 53 = .ok (.aload_n 0, 1) := by decide +kernel
theorem dX3_take_54 : decode cX3_take 54 = .ok (.iload_n 1, 1) := by decide +kernel
theorem dX3_take_55 : decode cX3_take 55 = .ok (.invokevirtual 91, 3) := by decide +kernel
theorem dX3_take_58 : decode cX3_take 58 = .ok (.putfield 74, 3) := by decide +kernel
theorem dX3_take_61 : decode cX3_take 61 = .ok (.iconst 0, 1) := by decide +kernel
theorem dX3_take_62 : decode cX3_take 62 = .ok (.istore_n 2, 1) := by decide +kernel
theorem dX3_take_63 : decode cX3_take 63 = .ok (.iload_n 2, 1) := by decide +kernel
theorem dX3_take_64 : decode cX3_take 64 = .ok (.aload_n 0, 1) := by decide +kernel
theorem dX3_take_65 : decode cX3_take 65 = .ok (.getfield 74, 3) := by decide +kernel
theorem dX3_take_68 : decode cX3_take 68 = .ok (.if_icmp .ge 21, 3) := by decide +kernel
theorem dX3_take_71 : decode cX3_take 71 = .ok (.aload_n 0, 1) := by decide +kernel
theorem dX3_take_72 : decode cX3_take 72 = .ok (.getfield 32, 3) := by decide +kernel
theorem dX3_take_75 : decode cX3_take 75 = .ok (.iload_n 2, 1) := by decide +kernel
theorem dX3_take_76 : decode cX3_take 76 = .ok (.aload_n 0, 1) := by decide +kernel
theorem dX3_take_77 : decode cX3_take 77 = .ok (.iload_n 1, 1) := by decide +kernel
theorem dX3_take_78 : decode cX3_take 78 = .ok (.iload_n 2, 1) := by decide +kernel
theorem dX3_take_79 : decode cX3_take 79 = .ok (.invokevirtual 94, 3) := by decide +kernel
theorem dX3_take_82 : decode cX3_take 82 = .ok (.iastore, 1) := by decide +kernel
theorem dX3_take_83 : decode cX3_take 83 = .ok (.iinc 2 1, 3) := by decide +kernel
theorem dX3_take_86 : decode cX3_take 86 = .ok (.goto (-23), 3) := by decide +kernel
theorem dX3_take_89 : decode cX3_take 89 = .ok (.aload_n 0, 1) := by decide +kernel
theorem dX3_take_90 : decode cX3_take 90 = .ok (.invokevirtual 101, 3) := by decide +kernel
theorem dX3_take_93 : decode cX3_take 93 = .ok (.return_, 1) := by decide +kernel
set_option maxRecDepth 20000 in
theorem ggX3_point_X3_isPoint : GoodIn wsX3_point wsX3_isPoint := goodIn_r _ [10, 11, 12, 13, 9, 14] (by decide +kernel) (by decide +kernel)
set_option maxRecDepth 20000 in
theorem gX3_point_X3_isPoint : GoodIn wsX3_point (va_wsS RX3 104 yX3_isPoint wsX3_isPoint) := goodIn_app (goodIn_of _ (by decide +kernel)) ggX3_point_X3_isPoint
set_option maxRecDepth 20000 in
theorem ggX3_point_X3_no : GoodIn wsX3_point wsX3_no := goodIn_r _ [18, 19, 30, 31, 32, 33, 34, 35, 36, 37, 38, 39, 40, 41, 42, 43, 44, 45, 46, 47] (by decide +kernel) (by decide +kernel)
set_option maxRecDepth 20000 in
theorem gX3_point_X3_no : GoodIn wsX3_point (wsV RX3 56 RX3 yX3_no wsX3_no) := goodIn_app (goodIn_of _ (by decide +kernel)) ggX3_point_X3_no
set_option maxRecDepth 20000 in
theorem ggX3_point_X3_addUnits : GoodIn wsX3_point wsX3_addUnits := goodIn_r _ [23, 3, 6, 4, 24, 25, 30, 31, 32, 33, 34, 35, 36, 37, 38, 39, 40, 41, 42, 43, 44, 45, 46, 47] (by decide +kernel) (by decide +kernel)
set_option maxRecDepth 20000 in
theorem gX3_point_X3_addUnits : GoodIn wsX3_point (wsV RX3 84 RX3 yX3_addUnits wsX3_addUnits) := goodIn_app (goodIn_of _ (by decide +kernel)) ggX3_point_X3_addUnits
set_option maxRecDepth 20000 in
theorem ggX3_point_X3_yes : GoodIn wsX3_point wsX3_yes := goodIn_r _ [29, 19, 30, 31, 32, 33, 34, 35, 36, 37, 38, 39, 40, 41, 42, 43, 44, 45, 46, 47] (by decide +kernel) (by decide +kernel)
set_option maxRecDepth 20000 in
theorem gX3_point_X3_yes : GoodIn wsX3_point (wsV RX3 67 RX3 yX3_yes wsX3_yes) := goodIn_app (goodIn_of _ (by decide +kernel)) ggX3_point_X3_yes
theorem dX3_point_0 : decode cX3_point 0 = .ok (.iload_n 1, 1) := by decide +kernel
theorem dX3_point_1 : decode cX3_point 1 = .ok (.invokestatic 104, 3) := by decide +kernel
theorem dX3_point_4 : decode cX3_point 4 = .ok (.ifCond .ne 6, 3) := by decide +kernel
theorem dX3_point_7 : decode cX3_point 7 = .ok (.ldc 107, 2) := by decide +kernel
theorem dX3_point_9 : decode cX3_point 9 = .ok (.ireturn, 1) := by decide +kernel
theorem dX3_point_10 : decode cX3_point 10 = .ok (.aload_n 0, 1) := by decide +kernel
theorem dX3_point_11 : decode cX3_point 11 = .ok (.getfield 108, 3) := by decide +kernel
theorem dX3_point_14 : decode cX3_point 14 = .ok (.iload_n 1, 1) := by decide +kernel
theorem dX3_point_15 : decode cX3_point 15 = .ok (.ldc 70, 2) := by decide +kernel
theorem dX3_point_17 : decode cX3_point 17 = .ok (.if_icmp .ge 7, 3) := by decide +kernel
theorem dX3_point_20 : decode cX3_point 20 = .ok (.iconst 1, 1) := by decide +kernel
theorem dX3_point_21 : decode cX3_point 21 = .ok (.goto 4, 3) := by decide +kernel
theorem dX3_point_24 : decode cX3_point 24 = .ok (.iconst 2, 1) := by decide +kernel
theorem dX3_point_25 : decode cX3_point 25 = .ok (.iadd, 1) := by decide +kernel
theorem dX3_point_26 : decode cX3_point 26 = .ok (.bipush 60, 2) := by decide +kernel
theorem dX3_point_28 : decode cX3_point 28 = .ok (.if_icmp .le 10, 3) := by decide +kernel
theorem dX3_point_31 : decode cX3_point 31 = .ok (.aload_n 0, 1) := by decide +kernel
theorem dX3_point_32 : decode cX3_point 32 = .ok (.bipush 6, 2) := by decide +kernel
theorem dX3_point_34 : decode cX3_point 34 = .ok (.invokevirtual 56, 3) := by decide +kernel
theorem dX3_point_37 : decode cX3_point 37 = .ok (.ireturn, 1) := by decide +kernel
theorem dX3_point_38 : decode cX3_point 38 = .ok (.aload_n 0, 1) := by decide +kernel
theorem dX3_point_39 : decode cX3_point 39 = .ok (.iconst 0, 1) := by decide +kernel
theorem dX3_point_40 : decode cX3_point 40 = .ok (.putfield 71, 3) := by decide +kernel
theorem dX3_point_43 : decode cX3_point 43 = .ok (.aload_n 0, 1) := by decide +kernel
theorem dX3_point_44 : decode cX3_point 44 = .ok (.iload_n 1, 1) := by decide +kernel
theorem dX3_point_45 : decode cX3_point 45 = .ok (.invokevirtual 84, 3) := by decide +kernel
theorem dX3_point_48 : decode cX3_point 48 = .ok (.iconst 0, 1) := by decide +kernel
theorem dX3_point_49 : decode cX3_point 49 = .ok (.istore_n 2, 1) := by decide +kernel
theorem dX3_point_50 : decode cX3_point 50 = .ok (.iload_n 2, 1) := by decide +kernel
theorem dX3_point_51 : decode cX3_point 51 = .ok (.aload_n 0, 1) := by decide +kernel
theorem dX3_point_52 : decode cX3_point 52 = .ok (.getfield 71, 3) := by decide +kernel
theorem dX3_point_55 : decode cX3_point 55 = .ok (.if_icmp .ge 34, 3) := by decide +kernel
theorem dX3_point_58 : decode cX3_point 58 = .ok (.aload_n 0, 1) := by decide +kernel
theorem dX3_point_59 : decode cX3_point 59 = .ok (.getfield 25, 3) := by decide +kernel
theorem dX3_point_62 : decode cX3_point 62 = .ok (.aload_n 0, 1) := by decide +kernel
theorem dX3_point_63 : decode cX3_point 63 = .ok (.getfield 108, 3) := by decide +kernel
theorem dX3_point_66 : decode cX3_point 66 = .ok (.aload_n 0, 1) := by decide +kernel
theorem dX3_point_67 : decode cX3_point 67 = .ok (.getfield 35, 3) := by decide +kernel
theorem dX3_point_70 : decode cX3_point 70 = .ok (.iload_n 2, 1) := by decide +kernel
theorem dX3_point_71 : decode cX3_point 71 = .ok (.iaload, 1) := by decide +kernel
theorem dX3_point_72 : decode cX3_point 72 = .ok (.iastore, 1) := by decide +kernel
theorem dX3_point_73 : decode cX3_point 73 = .ok (.aload_n 0, 1) := by decide +kernel
theorem dX3_point_74 : decode cX3_point 74 = .ok (.dup, 1) := by decide +kernel
theorem dX3_point_75 : decode cX3_point 75 = .ok (.getfield 108, 3) := by decide +kernel
theorem dX3_point_78 : decode cX3_point 78 = .ok (.iconst 1, 1) := by decide +kernel
theorem dX3_point_79 : decode cX3_point 79 = .ok (.iadd, 1) := by decide +kernel
theorem dX3_point_80 : decode cX3_point 80 = .ok (.putfield 108, 3) := by decide +kernel
theorem dX3_point_83 : decode cX3_point 83 = .ok (.iinc 2 1, 3) := by decide +kernel
theorem dX3_point_86 : decode cX3_point 86 = .ok (.goto (-36), 3) := by decide +kernel
theorem dX3_point_89 : decode cX3_point 89 = .ok (.aload_n 0, 1) := by decide +kernel
theorem dX3_point_90 : decode cX3_point 90 = .ok (.aload_n 0, 1) := by decide +kernel
theorem dX3_point_91 : decode cX3_point 91 = .ok (.getfield 108, 3) := by decide +kernel
theorem dX3_point_94 : decode cX3_point 94 = .ok (.invokevirtual 67, 3) := by decide +kernel
theorem dX3_point_97 : decode cX3_point 97 = .ok (.ireturn, 1) := by decide +kernel
set_option maxRecDepth 20000 in
theorem ggX3_unit_X3_within : GoodIn wsX3_unit wsX3_within := goodIn_r _ [8] (by decide +kernel) (by decide +kernel)
set_option maxRecDepth 20000 in
theorem gX3_unit_X3_within : GoodIn wsX3_unit (va_wsS RX3 44 yX3_within wsX3_within) := goodIn_app (goodIn_of _ (by decide +kernel)) ggX3_unit_X3_within
set_option maxRecDepth 20000 in
theorem ggX3_unit_X3_no : GoodIn wsX3_unit wsX3_no := goodIn_r _ [12, 13, 18, 19, 20, 21, 22, 23, 24, 25, 26, 27, 28, 29, 30, 31, 32, 33, 34, 35] (by decide +kernel) (by decide +kernel)
set_option maxRecDepth 20000 in
theorem gX3_unit_X3_no : GoodIn wsX3_unit (wsV RX3 56 RX3 yX3_no wsX3_no) := goodIn_app (goodIn_of _ (by decide +kernel)) ggX3_unit_X3_no
set_option maxRecDepth 20000 in
theorem ggX3_unit_X3_yes : GoodIn wsX3_unit wsX3_yes := goodIn_r _ [17, 13, 18, 19, 20, 21, 22, 23, 24, 25, 26, 27, 28, 29, 30, 31, 32, 33, 34, 35] (by decide +kernel) (by decide +kernel)
set_option maxRecDepth 20000 in
theorem gX3_unit_X3_yes : GoodIn wsX3_unit (wsV RX3 67 RX3 yX3_yes wsX3_yes) := goodIn_app (goodIn_of _ (by decide +kernel)) ggX3_unit_X3_yes
theorem dX3_unit_0 : decode cX3_unit 0 = .ok (.iload_n 1, 1) := by decide +kernel
theorem dX3_unit_1 : decode cX3_unit 1 = .ok (.iconst 0, 1) := by decide +kernel
theorem dX3_unit_2 : decode cX3_unit 2 = .ok (.ldc 111, 2) := by decide +kernel
theorem dX3_unit_4 : decode cX3_unit 4 = .ok (.invokestatic 44, 3) := by decide +kernel
theorem dX3_unit_7 : decode cX3_unit 7 = .ok (.ifCond .ne 6, 3) := by decide +kernel
theorem dX3_unit_10 : decode cX3_unit 10 = .ok (.ldc 107, 2) := by decide +kernel
theorem dX3_unit_12 : decode cX3_unit 12 = .ok (.ireturn, 1) := by decide +kernel
theorem dX3_unit_13 : decode cX3_unit 13 = .ok (.aload_n 0, 1) := by decide +kernel
theorem dX3_unit_14 : decode cX3_unit 14 = .ok (.getfield 108, 3) := by decide +kernel
theorem dX3_unit_17 : decode cX3_unit 17 = .ok (.bipush 60, 2) := by decide +kernel
theorem dX3_unit_19 : decode cX3_unit 19 = .ok (.if_icmp .ne 10, 3) := by decide +kernel
theorem dX3_unit_22 : decode cX3_unit 22 = .ok (.aload_n 0, 1) := by decide +kernel
theorem dX3_unit_23 : decode cX3_unit 23 = .ok (.bipush 6, 2) := by decide +kernel
theorem dX3_unit_25 : decode cX3_unit 25 = .ok (.invokevirtual 56, 3) := by decide +kernel
theorem dX3_unit_28 : decode cX3_unit 28 = .ok (.ireturn, 1) := by decide +kernel
theorem dX3_unit_29 : decode cX3_unit 29 = .ok (.aload_n 0, 1) := by decide +kernel
theorem dX3_unit_30 : decode cX3_unit 30 = .ok (.getfield 25, 3) := by decide +kernel
theorem dX3_unit_33 : decode cX3_unit 33 = .ok (.aload_n 0, 1) := by decide +kernel
theorem dX3_unit_34 : decode cX3_unit 34 = .ok (.getfield 108, 3) := by decide +kernel
theorem dX3_unit_37 : decode cX3_unit 37 = .ok (.iload_n 1, 1) := by decide +kernel
theorem dX3_unit_38 : decode cX3_unit 38 = .ok (.iastore, 1) := by decide +kernel
theorem dX3_unit_39 : decode cX3_unit 39 = .ok (.aload_n 0, 1) := by decide +kernel
theorem dX3_unit_40 : decode cX3_unit 40 = .ok (.dup, 1) := by decide +kernel
theorem dX3_unit_41 : decode cX3_unit 41 = .ok (.getfield 108, 3) := by decide +kernel
theorem dX3_unit_44 : decode cX3_unit 44 = .ok (.iconst 1, 1) := by decide +kernel
theorem dX3_unit_45 : decode cX3_unit 45 = .ok (.iadd, 1) := by decide +kernel
theorem dX3_unit_46 : decode cX3_unit 46 = .ok (.putfield 108, 3) := by decide +kernel
theorem dX3_unit_49 : decode cX3_unit 49 = .ok (.aload_n 0, 1) := by decide +kernel
theorem dX3_unit_50 : decode cX3_unit 50 = .ok (.aload_n 0, 1) := by decide +kernel
theorem dX3_unit_51 : decode cX3_unit 51 = .ok (.getfield 108, 3) := by decide +kernel
theorem dX3_unit_54 : decode cX3_unit 54 = .ok (.invokevirtual 67, 3) := by decide +kernel
theorem dX3_unit_57 : decode cX3_unit 57 = .ok (.ireturn, 1) := by decide +kernel
theorem dX3_fresh_0 : decode cX3_fresh 0 = .ok (.aload_n 0, 1) := by decide +kernel
theorem dX3_fresh_1 : decode cX3_fresh 1 = .ok (.getfield 108, 3) := by decide +kernel
theorem dX3_fresh_4 : decode cX3_fresh 4 = .ok (.istore_n 1, 1) := by decide +kernel
theorem dX3_fresh_5 : decode cX3_fresh 5 = .ok (.aload_n 0, 1) := by decide +kernel
theorem dX3_fresh_6 : decode cX3_fresh 6 = .ok (.iconst 0, 1) := by decide +kernel
theorem dX3_fresh_7 : decode cX3_fresh 7 = .ok (.putfield 108, 3) := by decide +kernel
theorem dX3_fresh_10 : decode cX3_fresh 10 = .ok (.iload_n 1, 1) := by decide +kernel
theorem dX3_fresh_11 : decode cX3_fresh 11 = .ok (.ireturn, 1) := by decide +kernel
set_option maxRecDepth 20000 in
theorem ggX3_lay_X3_isText : GoodIn wsX3_lay wsX3_isText := goodIn_r _ [11, 12, 13, 10, 14] (by decide +kernel) (by decide +kernel)
set_option maxRecDepth 20000 in
theorem gX3_lay_X3_isText : GoodIn wsX3_lay (va_wsS RX3 112 yX3_isText wsX3_isText) := goodIn_app (goodIn_of _ (by decide +kernel)) ggX3_lay_X3_isText
set_option maxRecDepth 20000 in
theorem ggX3_lay_X3_within : GoodIn wsX3_lay wsX3_within := goodIn_r _ [14] (by decide +kernel) (by decide +kernel)
set_option maxRecDepth 20000 in
theorem gX3_lay_X3_within : GoodIn wsX3_lay (va_wsS RX3 44 yX3_within wsX3_within) := goodIn_app (goodIn_of _ (by decide +kernel)) ggX3_lay_X3_within
set_option maxRecDepth 20000 in
theorem ggX3_lay_X3_become : GoodIn wsX3_lay wsX3_become := goodIn_r _ [18, 19, 20, 21, 22, 23, 24, 25, 10, 26, 27, 28, 29, 30, 31, 32, 33, 49, 50, 51, 52, 53, 54, 55, 56, 57, 58, 59, 60, 61, 62, 63, 64, 65, 66] (by decide +kernel) (by decide +kernel)
set_option maxRecDepth 20000 in
theorem gX3_lay_X3_become : GoodIn wsX3_lay (wsV RX3 115 RX3 yX3_become wsX3_become) := goodIn_app (goodIn_of _ (by decide +kernel)) ggX3_lay_X3_become
set_option maxRecDepth 20000 in
theorem ggX3_lay_X3_unitsToPoints : GoodIn wsX3_lay wsX3_unitsToPoints := goodIn_r _ [37, 7, 3, 4, 6, 38, 39, 40, 41, 42, 10, 43, 44, 12, 13, 14, 45, 46, 47, 48, 49, 50, 51, 52, 53, 54, 55, 56, 57, 58, 59, 60, 61, 62, 63, 64, 65, 66] (by decide +kernel) (by decide +kernel)
set_option maxRecDepth 20000 in
theorem gX3_lay_X3_unitsToPoints : GoodIn wsX3_lay (wsV RX3 98 RX3 yX3_unitsToPoints wsX3_unitsToPoints) := goodIn_app (goodIn_of _ (by decide +kernel)) ggX3_lay_X3_unitsToPoints
theorem dX3_lay_0 : decode cX3_lay 0 = .ok (.iload_n 1, 1) := by decide +kernel
theorem dX3_lay_1 : decode cX3_lay 1 = .ok (.invokestatic 112, 3) := by decide +kernel
theorem dX3_lay_4 : decode cX3_lay 4 = .ok (.ifCond .eq 12, 3) := by decide +kernel
theorem dX3_lay_7 : decode cX3_lay 7 = .ok (.iload_n 2, 1) := by decide +kernel
theorem dX3_lay_8 : decode cX3_lay 8 = .ok (.iconst 0, 1) := by decide +kernel
theorem dX3_lay_9 : decode cX3_lay 9 = .ok (.iconst 2, 1) := by decide +kernel
theorem dX3_lay_10 : decode cX3_lay 10 = .ok (.invokestatic 44, 3) := by decide +kernel
theorem dX3_lay_13 : decode cX3_lay 13 = .ok (.ifCond .ne 6, 3) := by decide +kernel
theorem dX3_lay_16 : decode cX3_lay 16 = .ok (.ldc 107, 2) := by decide +kernel
theorem dX3_lay_18 : decode cX3_lay 18 = .ok (.ireturn, 1) := by decide +kernel
theorem dX3_lay_19 : decode cX3_lay 19 = .ok (.aload_n 0, 1) := by decide +kernel
theorem dX3_lay_20 : decode cX3_lay 20 = .ok (.aload_n 0, 1) := by decide +kernel
theorem dX3_lay_21 : decode cX3_lay 21 = .ok (.getfield 108, 3) := by decide +kernel
theorem dX3_lay_24 : decode cX3_lay 24 = .ok (.putfield 71, 3) := by decide +kernel
theorem dX3_lay_27 : decode cX3_lay 27 = .ok (.iconst 0, 1) := by decide +kernel
theorem dX3_lay_28 : decode cX3_lay 28 = .ok (.istore_n 3, 1) := by decide +kernel
theorem dX3_lay_29 : decode cX3_lay 29 = .ok (.iload_n 3, 1) := by decide +kernel
theorem dX3_lay_30 : decode cX3_lay 30 = .ok (.aload_n 0, 1) := by decide +kernel
theorem dX3_lay_31 : decode cX3_lay 31 = .ok (.getfield 108, 3) := by decide +kernel
theorem dX3_lay_34 : decode cX3_lay 34 = .ok (.if_icmp .ge 39, 3) := by decide +kernel
theorem dX3_lay_37 : decode cX3_lay 37 = .ok (.aload_n 0, 1) := by decide +kernel
theorem dX3_lay_38 : decode cX3_lay 38 = .ok (.getfield 35, 3) := by decide +kernel
theorem dX3_lay_41 : decode cX3_lay 41 = .ok (.iload_n 3, 1) := by decide +kernel
theorem dX3_lay_42 : decode cX3_lay 42 = .ok (.iload_n 2, 1) := by decide +kernel
theorem dX3_lay_43 : decode cX3_lay 43 = .ok (.iconst 2, 1) := by decide +kernel
theorem dX3_lay_44 : decode cX3_lay 44 = .ok (.if_icmp .ne 16, 3) := by decide +kernel
theorem dX3_lay_47 : decode cX3_lay 47 = .ok (.aload_n 0, 1) := by decide +kernel
theorem dX3_lay_48 : decode cX3_lay 48 = .ok (.getfield 25, 3) := by decide +kernel
theorem dX3_lay_51 : decode cX3_lay 51 = .ok (.iload_n 3, 1) := by decide +kernel
theorem dX3_lay_52 : decode cX3_lay 52 = .ok (.iaload, 1) := by decide +kernel
theorem dX3_lay_53 : decode cX3_lay 53 = .ok (.sipush 255, 3) := by decide +kernel
theorem dX3_lay_56 : decode cX3_lay 56 = .ok (.iand, 1) := by decide +kernel
theorem dX3_lay_57 : decode cX3_lay 57 = .ok (.goto 9, 3) := by decide +kernel
theorem dX3_lay_60 : decode cX3_lay 60 = .ok (.aload_n 0, 1) := by decide +kernel
theorem dX3_lay_61 : decode cX3_lay 61 = .ok (.getfield 25, 3) := by decide +kernel
theorem dX3_lay_64 : decode cX3_lay 64 = .ok (.iload_n 3, 1) := by decide +kernel
theorem dX3_lay_65 : decode cX3_lay 65 = .ok (.iaload, 1) := by decide +kernel
theorem dX3_lay_66 : decode cX3_lay 66 = .ok (.iastore, 1) := by decide +kernel
theorem dX3_lay_67 : decode cX3_lay 67 = .ok (.iinc 3 1, 3) := by decide +kernel
theorem dX3_lay_70 : decode cX3_lay 70 = .ok (.goto (-41), 3) := by decide +kernel
theorem dX3_lay_73 : decode cX3_lay 73 = .ok (.iload_n 2, 1) := by decide +kernel
theorem dX3_lay_74 : decode cX3_lay 74 = .ok (.iconst 1, 1) := by decide +kernel
theorem dX3_lay_75 : decode cX3_lay 75 = .ok (.if_icmp .eq 18, 3) := by decide +kernel
theorem dX3_lay_78 : decode cX3_lay 78 = .ok (.aload_n 0, 1) := by decide +kernel
theorem dX3_lay_79 : decode cX3_lay 79 = .ok (.iload_n 1, 1) := by decide +kernel
theorem dX3_lay_80 : decode cX3_lay 80 = .ok (.iload_n 2, 1) := by decide +kernel
theorem dX3_lay_81 : decode cX3_lay 81 = .ok (.aload_n 0, 1) := by decide +kernel
theorem dX3_lay_82 : decode cX3_lay 82 = .ok (.getfield 35, 3) := by decide +kernel
theorem dX3_lay_85 : decode cX3_lay 85 = .ok (.aload_n 0, 1) := by decide +kernel
theorem dX3_lay_86 : decode cX3_lay 86 = .ok (.getfield 71, 3) := by decide +kernel
theorem dX3_lay_89 : decode cX3_lay 89 = .ok (.invokevirtual 115, 3) := by decide +kernel
theorem dX3_lay_92 : decode cX3_lay 92 = .ok (.ireturn, 1) := by decide +kernel
theorem dX3_lay_93 : decode cX3_lay 93 = .ok (.aload_n 0, 1) := by decide +kernel
theorem dX3_lay_94 : decode cX3_lay 94 = .ok (.invokevirtual 98, 3) := by decide +kernel
theorem dX3_lay_97 : decode cX3_lay 97 = .ok (.aload_n 0, 1) := by decide +kernel
theorem dX3_lay_98 : decode cX3_lay 98 = .ok (.iload_n 1, 1) := by decide +kernel
theorem dX3_lay_99 : decode cX3_lay 99 = .ok (.iconst 1, 1) := by decide +kernel
theorem dX3_lay_100 : decode cX3_lay 100 = .ok (.aload_n 0, 1) := by decide +kernel
theorem dX3_lay_101 : decode cX3_lay 101 = .ok (.getfield 32, 3) := by decide +kernel
theorem dX3_lay_104 : decode cX3_lay 104 = .ok (.aload_n 0, 1) := by decide +kernel
theorem dX3_lay_105 : decode cX3_lay 105 = .ok (.getfield 74, 3) := by decide +kernel
theorem dX3_lay_108 : decode cX3_lay 108 = .ok (.invokevirtual 115, 3) := by decide +kernel
theorem dX3_lay_111 : decode cX3_lay 111 = .ok (.ireturn, 1) := by decide +kernel
set_option maxRecDepth 20000 in
theorem ggX3_share_X3_isText : GoodIn wsX3_share wsX3_isText := goodIn_r _ [6, 7, 8, 5, 9] (by decide +kernel) (by decide +kernel)
set_option maxRecDepth 20000 in
theorem gX3_share_X3_isText : GoodIn wsX3_share (va_wsS RX3 112 yX3_isText wsX3_isText) := goodIn_app (goodIn_of _ (by decide +kernel)) ggX3_share_X3_isText
set_option maxRecDepth 20000 in
theorem ggX3_share_X3_sortOf : GoodIn wsX3_share wsX3_sortOf := goodIn_r _ [13, 2, 14, 15, 16, 17, 18, 19, 20, 21, 22, 23, 24, 25, 26, 27, 28, 29, 30, 31, 32] (by decide +kernel) (by decide +kernel)
set_option maxRecDepth 20000 in
theorem gX3_share_X3_sortOf : GoodIn wsX3_share (wsV RX3 88 RX3 yX3_sortOf wsX3_sortOf) := goodIn_app (goodIn_of _ (by decide +kernel)) ggX3_share_X3_sortOf
theorem dX3_share_0 : decode cX3_share 0 = .ok (.iload_n 1, 1) := by decide +kernel
theorem dX3_share_1 : decode cX3_share 1 = .ok (.invokestatic 112, 3) := by decide +kernel
theorem dX3_share_4 : decode cX3_share 4 = .ok (.ifCond .eq 10, 3) := by decide +kernel
theorem dX3_share_7 : decode cX3_share 7 = .ok (.iload_n 2, 1) := by decide +kernel
theorem dX3_share_8 : decode cX3_share 8 = .ok (.invokestatic 112, 3) := by decide +kernel
theorem dX3_share_11 : decode cX3_share 11 = .ok (.ifCond .ne 6, 3) := by decide +kernel
theorem dX3_share_14 : decode cX3_share 14 = .ok (.ldc 107, 2) := by decide +kernel
theorem dX3_share_16 : decode cX3_share 16 = .ok (.ireturn, 1) := by decide +kernel
theorem dX3_share_17 : decode cX3_share 17 = .ok (.aload_n 0, 1) := by decide +kernel
theorem dX3_share_18 : decode cX3_share 18 = .ok (.getfield 7, 3) := by decide +kernel
theorem dX3_share_21 : decode cX3_share 21 = .ok (.iload_n 1, 1) := by decide +kernel
theorem dX3_share_22 : decode cX3_share 22 = .ok (.aload_n 0, 1) := by decide +kernel
theorem dX3_share_23 : decode cX3_share 23 = .ok (.getfield 7, 3) := by decide +kernel
theorem dX3_share_26 : decode cX3_share 26 = .ok (.iload_n 2, 1) := by decide +kernel
theorem dX3_share_27 : decode cX3_share 27 = .ok (.iaload, 1) := by decide +kernel
theorem dX3_share_28 : decode cX3_share 28 = .ok (.iastore, 1) := by decide +kernel
theorem dX3_share_29 : decode cX3_share 29 = .ok (.aload_n 0, 1) := by decide +kernel
theorem dX3_share_30 : decode cX3_share 30 = .ok (.iload_n 1, 1) := by decide +kernel
theorem dX3_share_31 : decode cX3_share 31 = .ok (.invokevirtual 88, 3) := by decide +kernel
theorem dX3_share_34 : decode cX3_share 34 = .ok (.ireturn, 1) := by decide +kernel
set_option maxRecDepth 20000 in
theorem ggX3_nothing_X3_isText : GoodIn wsX3_nothing wsX3_isText := goodIn_r _ [6, 7, 8, 5, 9] (by decide +kernel) (by decide +kernel)
set_option maxRecDepth 20000 in
theorem gX3_nothing_X3_isText : GoodIn wsX3_nothing (va_wsS RX3 112 yX3_isText wsX3_isText) := goodIn_app (goodIn_of _ (by decide +kernel)) ggX3_nothing_X3_isText
set_option maxRecDepth 20000 in
theorem ggX3_nothing_X3_sortOf : GoodIn wsX3_nothing wsX3_sortOf := goodIn_r _ [13, 2, 14, 15, 16, 17, 18, 19, 20, 21, 22, 23, 24, 25, 26, 27, 28, 29, 30, 31, 32] (by decide +kernel) (by decide +kernel)
set_option maxRecDepth 20000 in
theorem gX3_nothing_X3_sortOf : GoodIn wsX3_nothing (wsV RX3 88 RX3 yX3_sortOf wsX3_sortOf) := goodIn_app (goodIn_of _ (by decide +kernel)) ggX3_nothing_X3_sortOf
theorem dX3_nothing_0 : decode cX3_nothing 0 = .ok (.iload_n 1, 1) := by decide +kernel
theorem dX3_nothing_1 : decode cX3_nothing 1 = .ok (.invokestatic 112, 3) := by decide +kernel
theorem dX3_nothing_4 : decode cX3_nothing 4 = .ok (.ifCond .ne 6, 3) := by decide +kernel
theorem dX3_nothing_7 : decode cX3_nothing 7 = .ok (.ldc 107, 2) := by decide +kernel
theorem dX3_nothing_9 : decode cX3_nothing 9 = .ok (.ireturn, 1) := by decide +kernel
theorem dX3_nothing_10 : decode cX3_nothing 10 = .ok (.aload_n 0, 1) := by decide +kernel
theorem dX3_nothing_11 : decode cX3_nothing 11 = .ok (.iload_n 1, 1) := by decide +kernel
theorem dX3_nothing_12 : decode cX3_nothing 12 = .ok (.invokevirtual 88, 3) := by decide +kernel
theorem dX3_nothing_15 : decode cX3_nothing 15 = .ok (.istore_n 2, 1) := by decide +kernel
theorem dX3_nothing_16 : decode cX3_nothing 16 = .ok (.aload_n 0, 1) := by decide +kernel
theorem dX3_nothing_17 : decode cX3_nothing 17 = .ok (.getfield 7, 3) := by decide +kernel
theorem dX3_nothing_20 : decode cX3_nothing 20 = .ok (.iload_n 1, 1) := by decide +kernel
theorem dX3_nothing_21 : decode cX3_nothing 21 = .ok (.iconst (-1), 1) := by decide +kernel
theorem dX3_nothing_22 : decode cX3_nothing 22 = .ok (.iastore, 1) := by decide +kernel
theorem dX3_nothing_23 : decode cX3_nothing 23 = .ok (.iload_n 2, 1) := by decide +kernel
theorem dX3_nothing_24 : decode cX3_nothing 24 = .ok (.ireturn, 1) := by decide +kernel
set_option maxRecDepth 20000 in
theorem ggX3_sort_X3_isText : GoodIn wsX3_sort wsX3_isText := goodIn_r _ [5, 6, 7, 4, 8] (by decide +kernel) (by decide +kernel)
set_option maxRecDepth 20000 in
theorem gX3_sort_X3_isText : GoodIn wsX3_sort (va_wsS RX3 112 yX3_isText wsX3_isText) := goodIn_app (goodIn_of _ (by decide +kernel)) ggX3_sort_X3_isText
set_option maxRecDepth 20000 in
theorem ggX3_sort_X3_sortOf : GoodIn wsX3_sort wsX3_sortOf := goodIn_r _ [12, 13, 14, 15, 16, 17, 18, 19, 20, 21, 22, 23, 24, 25, 26, 27, 28, 29, 30, 31, 32] (by decide +kernel) (by decide +kernel)
set_option maxRecDepth 20000 in
theorem gX3_sort_X3_sortOf : GoodIn wsX3_sort (wsV RX3 88 RX3 yX3_sortOf wsX3_sortOf) := goodIn_app (goodIn_of _ (by decide +kernel)) ggX3_sort_X3_sortOf
theorem dX3_sort_0 : decode cX3_sort 0 = .ok (.iload_n 1, 1) := by decide +kernel
theorem dX3_sort_1 : decode cX3_sort 1 = .ok (.invokestatic 112, 3) := by decide +kernel
theorem dX3_sort_4 : decode cX3_sort 4 = .ok (.ifCond .eq 11, 3) := by decide +kernel
theorem dX3_sort_7 : decode cX3_sort 7 = .ok (.aload_n 0, 1) := by decide +kernel
theorem dX3_sort_8 : decode cX3_sort 8 = .ok (.iload_n 1, 1) := by decide +kernel
theorem dX3_sort_9 : decode cX3_sort 9 = .ok (.invokevirtual 88, 3) := by decide +kernel
theorem dX3_sort_12 : decode cX3_sort 12 = .ok (.goto 5, 3) := by decide +kernel
theorem dX3_sort_15 : decode cX3_sort 15 = .ok (.ldc 107, 2) := by decide +kernel
theorem dX3_sort_17 : decode cX3_sort 17 = .ok (.ireturn, 1) := by decide +kernel
set_option maxRecDepth 20000 in
theorem ggX3_length_X3_isText : GoodIn wsX3_length wsX3_isText := goodIn_r _ [5, 6, 7, 4, 8] (by decide +kernel) (by decide +kernel)
set_option maxRecDepth 20000 in
theorem gX3_length_X3_isText : GoodIn wsX3_length (va_wsS RX3 112 yX3_isText wsX3_isText) := goodIn_app (goodIn_of _ (by decide +kernel)) ggX3_length_X3_isText
set_option maxRecDepth 20000 in
theorem ggX3_length_X3_sortOf : GoodIn wsX3_length wsX3_sortOf := goodIn_r _ [12, 13, 14, 29, 30, 31, 32, 33, 34, 35, 36, 37, 38, 39, 40, 41, 42, 43, 44, 45, 46] (by decide +kernel) (by decide +kernel)
set_option maxRecDepth 20000 in
theorem gX3_length_X3_sortOf : GoodIn wsX3_length (wsV RX3 88 RX3 yX3_sortOf wsX3_sortOf) := goodIn_app (goodIn_of _ (by decide +kernel)) ggX3_length_X3_sortOf
set_option maxRecDepth 20000 in
theorem ggX3_length_X3_no : GoodIn wsX3_length wsX3_no := goodIn_r _ [18, 19, 29, 30, 31, 32, 33, 34, 35, 36, 37, 38, 39, 40, 41, 42, 43, 44, 45, 46] (by decide +kernel) (by decide +kernel)
set_option maxRecDepth 20000 in
theorem gX3_length_X3_no : GoodIn wsX3_length (wsV RX3 56 RX3 yX3_no wsX3_no) := goodIn_app (goodIn_of _ (by decide +kernel)) ggX3_length_X3_no
set_option maxRecDepth 20000 in
theorem ggX3_length_X3_manyOf : GoodIn wsX3_length wsX3_manyOf := goodIn_r _ [23, 24, 13, 29, 30, 31, 32, 33, 34, 35, 36, 37, 38, 39, 40, 41, 42, 43, 44, 45, 46] (by decide +kernel) (by decide +kernel)
set_option maxRecDepth 20000 in
theorem gX3_length_X3_manyOf : GoodIn wsX3_length (wsV RX3 91 RX3 yX3_manyOf wsX3_manyOf) := goodIn_app (goodIn_of _ (by decide +kernel)) ggX3_length_X3_manyOf
set_option maxRecDepth 20000 in
theorem ggX3_length_X3_yes : GoodIn wsX3_length wsX3_yes := goodIn_r _ [28, 19, 29, 30, 31, 32, 33, 34, 35, 36, 37, 38, 39, 40, 41, 42, 43, 44, 45, 46] (by decide +kernel) (by decide +kernel)
set_option maxRecDepth 20000 in
theorem gX3_length_X3_yes : GoodIn wsX3_length (wsV RX3 67 RX3 yX3_yes wsX3_yes) := goodIn_app (goodIn_of _ (by decide +kernel)) ggX3_length_X3_yes
theorem dX3_length_0 : decode cX3_length 0 = .ok (.iload_n 1, 1) := by decide +kernel
theorem dX3_length_1 : decode cX3_length 1 = .ok (.invokestatic 112, 3) := by decide +kernel
theorem dX3_length_4 : decode cX3_length 4 = .ok (.ifCond .ne 6, 3) := by decide +kernel
theorem dX3_length_7 : decode cX3_length 7 = .ok (.ldc 107, 2) := by decide +kernel
theorem dX3_length_9 : decode cX3_length 9 = .ok (.ireturn, 1) := by decide +kernel
theorem dX3_length_10 : decode cX3_length 10 = .ok (.aload_n 0, 1) := by decide +kernel
theorem dX3_length_11 : decode cX3_length 11 = .ok (.iload_n 1, 1) := by decide +kernel
theorem dX3_length_12 : decode cX3_length 12 = .ok (.invokevirtual 88, 3) := by decide +kernel
theorem dX3_length_15 : decode cX3_length 15 = .ok (.iconst (-1), 1) := by decide +kernel
theorem dX3_length_16 : decode cX3_length 16 = .ok (.if_icmp .ne 11, 3) := by decide +kernel
theorem dX3_length_19 : decode cX3_length 19 = .ok (.aload_n 0, 1) := by decide +kernel
theorem dX3_length_20 : decode cX3_length 20 = .ok (.iconst 1, 1) := by decide +kernel
theorem dX3_length_21 : decode cX3_length 21 = .ok (.invokevirtual 56, 3) := by decide +kernel
theorem dX3_length_24 : decode cX3_length 24 = .ok (.goto 12, 3) := by decide +kernel
theorem dX3_length_27 : decode cX3_length 27 = .ok (.aload_n 0, 1) := by decide +kernel
theorem dX3_length_28 : decode cX3_length 28 = .ok (.aload_n 0, 1) := by decide +kernel
theorem dX3_length_29 : decode cX3_length 29 = .ok (.iload_n 1, 1) := by decide +kernel
theorem dX3_length_30 : decode cX3_length 30 = .ok (.invokevirtual 91, 3) := by decide +kernel
theorem dX3_length_33 : decode cX3_length 33 = .ok (.invokevirtual 67, 3) := by decide +kernel
theorem dX3_length_36 : decode cX3_length 36 = .ok (.ireturn, 1) := by decide +kernel
set_option maxRecDepth 20000 in
theorem ggX3_wantsPoints_X3_sortOf : GoodIn wsX3_wantsPoints wsX3_sortOf := goodIn_r _ [5, 6, 7, 8, 9, 10, 11, 12, 13, 14, 15, 16, 17, 18, 19, 20, 21, 22, 23, 24, 25] (by decide +kernel) (by decide +kernel)
set_option maxRecDepth 20000 in
theorem gX3_wantsPoints_X3_sortOf : GoodIn wsX3_wantsPoints (wsV RX3 88 RX3 yX3_sortOf wsX3_sortOf) := goodIn_app (goodIn_of _ (by decide +kernel)) ggX3_wantsPoints_X3_sortOf
theorem dX3_wantsPoints_0 : decode cX3_wantsPoints 0 = .ok (.aload_n 0, 1) := by decide +kernel
theorem dX3_wantsPoints_1 : decode cX3_wantsPoints 1 = .ok (.iload_n 1, 1) := by decide +kernel
theorem dX3_wantsPoints_2 : decode cX3_wantsPoints 2 = .ok (.invokevirtual 88, 3) := by decide +kernel
theorem dX3_wantsPoints_5 : decode cX3_wantsPoints 5 = .ok (.iconst (-1), 1) := by decide +kernel
theorem dX3_wantsPoints_6 : decode cX3_wantsPoints 6 = .ok (.if_icmp .ne 7, 3) := by decide +kernel
theorem dX3_wantsPoints_9 : decode cX3_wantsPoints 9 = .ok (.iconst 1, 1) := by decide +kernel
theorem dX3_wantsPoints_10 : decode cX3_wantsPoints 10 = .ok (.goto 17, 3) := by decide +kernel
theorem dX3_wantsPoints_13 : decode cX3_wantsPoints 13 = .ok (.aload_n 0, 1) := by decide +kernel
theorem dX3_wantsPoints_14 : decode cX3_wantsPoints 14 = .ok (.iload_n 1, 1) := by decide +kernel
theorem dX3_wantsPoints_15 : decode cX3_wantsPoints 15 = .ok (.invokevirtual 88, 3) := by decide +kernel
theorem dX3_wantsPoints_18 : decode cX3_wantsPoints 18 = .ok (.iconst 2, 1) := by decide +kernel
theorem dX3_wantsPoints_19 : decode cX3_wantsPoints 19 = .ok (.if_icmp .ne 7, 3) := by decide +kernel
theorem dX3_wantsPoints_22 : decode cX3_wantsPoints 22 = .ok (.iconst 2, 1) := by decide +kernel
theorem dX3_wantsPoints_23 : decode cX3_wantsPoints 23 = .ok (.goto 4, 3) := by decide +kernel
theorem dX3_wantsPoints_26 : decode cX3_wantsPoints 26 = .ok (.iconst 0, 1) := by decide +kernel
theorem dX3_wantsPoints_27 : decode cX3_wantsPoints 27 = .ok (.ireturn, 1) := by decide +kernel
set_option maxRecDepth 20000 in
theorem ggX3_points_X3_isText : GoodIn wsX3_points wsX3_isText := goodIn_r _ [6, 7, 8, 5, 9] (by decide +kernel) (by decide +kernel)
set_option maxRecDepth 20000 in
theorem gX3_points_X3_isText : GoodIn wsX3_points (va_wsS RX3 112 yX3_isText wsX3_isText) := goodIn_app (goodIn_of _ (by decide +kernel)) ggX3_points_X3_isText
set_option maxRecDepth 20000 in
theorem ggX3_points_X3_wantsPoints : GoodIn wsX3_points wsX3_wantsPoints := goodIn_r _ [13, 14, 15, 16, 5, 17, 18, 19, 69, 70, 71, 72, 73, 74, 75, 76, 77, 78, 79, 80, 81, 82, 83, 84, 85, 86] (by decide +kernel) (by decide +kernel)
set_option maxRecDepth 20000 in
theorem gX3_points_X3_wantsPoints : GoodIn wsX3_points (wsV RX3 119 RX3 yX3_wantsPoints wsX3_wantsPoints) := goodIn_app (goodIn_of _ (by decide +kernel)) ggX3_points_X3_wantsPoints
set_option maxRecDepth 20000 in
theorem ggX3_points_X3_no : GoodIn wsX3_points wsX3_no := goodIn_r _ [23, 24, 69, 70, 71, 72, 73, 74, 75, 76, 77, 78, 79, 80, 81, 82, 83, 84, 85, 86] (by decide +kernel) (by decide +kernel)
set_option maxRecDepth 20000 in
theorem gX3_points_X3_no : GoodIn wsX3_points (wsV RX3 56 RX3 yX3_no wsX3_no) := goodIn_app (goodIn_of _ (by decide +kernel)) ggX3_points_X3_no
set_option maxRecDepth 20000 in
theorem ggX3_points_X3_take : GoodIn wsX3_points wsX3_take := goodIn_r _ [28, 29, 30, 2, 31, 14, 15, 16, 5, 17, 18, 19, 32, 33, 34, 35, 36, 37, 38, 39, 40, 41, 42, 43, 44, 45, 46, 47, 48, 49, 50, 51, 52, 7, 8, 9, 53, 54, 55, 56, 57, 58, 59, 60, 61, 62, 63, 64, 69, 70, 71, 72, 73, 74, 75, 76, 77, 78, 79, 80, 81, 82, 83, 84, 85, 86] (by decide +kernel) (by decide +kernel)
set_option maxRecDepth 20000 in
theorem gX3_points_X3_take : GoodIn wsX3_points (wsV RX3 122 RX3 yX3_take wsX3_take) := goodIn_app (goodIn_of _ (by decide +kernel)) ggX3_points_X3_take
set_option maxRecDepth 20000 in
theorem ggX3_points_X3_yes : GoodIn wsX3_points wsX3_yes := goodIn_r _ [68, 24, 69, 70, 71, 72, 73, 74, 75, 76, 77, 78, 79, 80, 81, 82, 83, 84, 85, 86] (by decide +kernel) (by decide +kernel)
set_option maxRecDepth 20000 in
theorem gX3_points_X3_yes : GoodIn wsX3_points (wsV RX3 67 RX3 yX3_yes wsX3_yes) := goodIn_app (goodIn_of _ (by decide +kernel)) ggX3_points_X3_yes
theorem dX3_points_0 : decode cX3_points 0 = .ok (.iload_n 1, 1) := by decide +kernel
theorem dX3_points_1 : decode cX3_points 1 = .ok (.invokestatic 112, 3) := by decide +kernel
theorem dX3_points_4 : decode cX3_points 4 = .ok (.ifCond .ne 6, 3) := by decide +kernel
theorem dX3_points_7 : decode cX3_points 7 = .ok (.ldc 107, 2) := by decide +kernel
theorem dX3_points_9 : decode cX3_points 9 = .ok (.ireturn, 1) := by decide +kernel
theorem dX3_points_10 : decode cX3_points 10 = .ok (.aload_n 0, 1) := by decide +kernel
theorem dX3_points_11 : decode cX3_points 11 = .ok (.iload_n 1, 1) := by decide +kernel
theorem dX3_points_12 : decode cX3_points 12 = .ok (.invokevirtual 119, 3) := by decide +kernel
theorem dX3_points_15 : decode cX3_points 15 = .ok (.istore_n 2, 1) := by decide +kernel
theorem dX3_points_16 : decode cX3_points 16 = .ok (.iload_n 2, 1) := by decide +kernel
theorem dX3_points_17 : decode cX3_points 17 = .ok (.ifCond .eq 9, 3) := by decide +kernel
theorem dX3_points_20 : decode cX3_points 20 = .ok (.aload_n 0, 1) := by decide +kernel
theorem dX3_points_21 : decode cX3_points 21 = .ok (.iload_n 2, 1) := by decide +kernel
theorem dX3_points_22 : decode cX3_points 22 = .ok (.invokevirtual 56, 3) := by decide +kernel
theorem dX3_points_25 : decode cX3_points 25 = .ok (.ireturn, 1) := by decide +kernel
theorem dX3_points_26 : decode cX3_points 26 = .ok (.aload_n 0, 1) := by decide +kernel
theorem dX3_points_27 : decode cX3_points 27 = .ok (.iload_n 1, 1) := by decide +kernel
theorem dX3_points_28 : decode cX3_points 28 = .ok (.invokevirtual 122, 3) := by decide +kernel
theorem dX3_points_31 : decode cX3_points 31 = .ok (.aload_n 0, 1) := by decide +kernel
theorem dX3_points_32 : decode cX3_points 32 = .ok (.aload_n 0, 1) := by decide +kernel
theorem dX3_points_33 : decode cX3_points 33 = .ok (.getfield 74, 3) := by decide +kernel
theorem dX3_points_36 : decode cX3_points 36 = .ok (.invokevirtual 67, 3) := by decide +kernel
theorem dX3_points_39 : decode cX3_points 39 = .ok (.ireturn, 1) := by decide +kernel
set_option maxRecDepth 20000 in
theorem ggX3_at_X3_isText : GoodIn wsX3_at wsX3_isText := goodIn_r _ [5, 6, 7, 4, 8] (by decide +kernel) (by decide +kernel)
set_option maxRecDepth 20000 in
theorem gX3_at_X3_isText : GoodIn wsX3_at (va_wsS RX3 112 yX3_isText wsX3_isText) := goodIn_app (goodIn_of _ (by decide +kernel)) ggX3_at_X3_isText
set_option maxRecDepth 20000 in
theorem ggX3_at_X3_sortOf : GoodIn wsX3_at wsX3_sortOf := goodIn_r _ [12, 13, 14, 34, 35, 36, 37, 38, 39, 40, 41, 42, 43, 44, 45, 46, 47, 48, 49, 50, 51] (by decide +kernel) (by decide +kernel)
set_option maxRecDepth 20000 in
theorem gX3_at_X3_sortOf : GoodIn wsX3_at (wsV RX3 88 RX3 yX3_sortOf wsX3_sortOf) := goodIn_app (goodIn_of _ (by decide +kernel)) ggX3_at_X3_sortOf
set_option maxRecDepth 20000 in
theorem ggX3_at_X3_no : GoodIn wsX3_at wsX3_no := goodIn_r _ [18, 19, 34, 35, 36, 37, 38, 39, 40, 41, 42, 43, 44, 45, 46, 47, 48, 49, 50, 51] (by decide +kernel) (by decide +kernel)
set_option maxRecDepth 20000 in
theorem gX3_at_X3_no : GoodIn wsX3_at (wsV RX3 56 RX3 yX3_no wsX3_no) := goodIn_app (goodIn_of _ (by decide +kernel)) ggX3_at_X3_no
set_option maxRecDepth 20000 in
theorem ggX3_at_X3_manyOf : GoodIn wsX3_at wsX3_manyOf := goodIn_r _ [23, 24, 13, 34, 35, 36, 37, 38, 39, 40, 41, 42, 43, 44, 45, 46, 47, 48, 49, 50, 51] (by decide +kernel) (by decide +kernel)
set_option maxRecDepth 20000 in
theorem gX3_at_X3_manyOf : GoodIn wsX3_at (wsV RX3 91 RX3 yX3_manyOf wsX3_manyOf) := goodIn_app (goodIn_of _ (by decide +kernel)) ggX3_at_X3_manyOf
set_option maxRecDepth 20000 in
theorem ggX3_at_X3_within : GoodIn wsX3_at wsX3_within := goodIn_r _ [8] (by decide +kernel) (by decide +kernel)
set_option maxRecDepth 20000 in
theorem gX3_at_X3_within : GoodIn wsX3_at (va_wsS RX3 44 yX3_within wsX3_within) := goodIn_app (goodIn_of _ (by decide +kernel)) ggX3_at_X3_within
set_option maxRecDepth 20000 in
theorem ggX3_at_X3_item : GoodIn wsX3_at wsX3_item := goodIn_r _ [28, 29, 13, 34, 35, 36, 37, 38, 39, 40, 41, 42, 43, 44, 45, 46, 47, 48, 49, 50, 51] (by decide +kernel) (by decide +kernel)
set_option maxRecDepth 20000 in
theorem gX3_at_X3_item : GoodIn wsX3_at (wsV RX3 94 RX3 yX3_item wsX3_item) := goodIn_app (goodIn_of _ (by decide +kernel)) ggX3_at_X3_item
set_option maxRecDepth 20000 in
theorem ggX3_at_X3_yes : GoodIn wsX3_at wsX3_yes := goodIn_r _ [33, 19, 34, 35, 36, 37, 38, 39, 40, 41, 42, 43, 44, 45, 46, 47, 48, 49, 50, 51] (by decide +kernel) (by decide +kernel)
set_option maxRecDepth 20000 in
theorem gX3_at_X3_yes : GoodIn wsX3_at (wsV RX3 67 RX3 yX3_yes wsX3_yes) := goodIn_app (goodIn_of _ (by decide +kernel)) ggX3_at_X3_yes
theorem dX3_at_0 : decode cX3_at 0 = .ok (.iload_n 1, 1) := by decide +kernel
theorem dX3_at_1 : decode cX3_at 1 = .ok (.invokestatic 112, 3) := by decide +kernel
theorem dX3_at_4 : decode cX3_at 4 = .ok (.ifCond .ne 6, 3) := by decide +kernel
theorem dX3_at_7 : decode cX3_at 7 = .ok (.ldc 107, 2) := by decide +kernel
theorem dX3_at_9 : decode cX3_at 9 = .ok (.ireturn, 1) := by decide +kernel
theorem dX3_at_10 : decode cX3_at 10 = .ok (.aload_n 0, 1) := by decide +kernel
theorem dX3_at_11 : decode cX3_at 11 = .ok (.iload_n 1, 1) := by decide +kernel
theorem dX3_at_12 : decode cX3_at 12 = .ok (.invokevirtual 88, 3) := by decide +kernel
theorem dX3_at_15 : decode cX3_at 15 = .ok (.iconst (-1), 1) := by decide +kernel
theorem dX3_at_16 : decode cX3_at 16 = .ok (.if_icmp .ne 9, 3) := by decide +kernel
theorem dX3_at_19 : decode cX3_at 19 = .ok (.aload_n 0, 1) := by decide +kernel
theorem dX3_at_20 : decode cX3_at 20 = .ok (.iconst 1, 1) := by decide +kernel
theorem dX3_at_21 : decode cX3_at 21 = .ok (.invokevirtual 56, 3) := by decide +kernel
theorem dX3_at_24 : decode cX3_at 24 = .ok (.ireturn, 1) := by decide +kernel
theorem dX3_at_25 : decode cX3_at 25 = .ok (.iload_n 2, 1) := by decide +kernel
theorem dX3_at_26 : decode cX3_at 26 = .ok (.iconst 0, 1) := by decide +kernel
theorem dX3_at_27 : decode cX3_at 27 = .ok (.aload_n 0, 1) := by decide +kernel
theorem dX3_at_28 : decode cX3_at 28 = .ok (.iload_n 1, 1) := by decide +kernel
theorem dX3_at_29 : decode cX3_at 29 = .ok (.invokevirtual 91, 3) := by decide +kernel
theorem dX3_at_32 : decode cX3_at 32 = .ok (.iconst 1, 1) := by decide +kernel
theorem dX3_at_33 : decode cX3_at 33 = .ok (.isub, 1) := by decide +kernel
theorem dX3_at_34 : decode cX3_at 34 = .ok (.invokestatic 44, 3) := by decide +kernel
theorem dX3_at_37 : decode cX3_at 37 = .ok (.ifCond .eq 16, 3) := by decide +kernel
theorem dX3_at_40 : decode cX3_at 40 = .ok (.aload_n 0, 1) := by decide +kernel
theorem dX3_at_41 : decode cX3_at 41 = .ok (.aload_n 0, 1) := by decide +kernel
theorem dX3_at_42 : decode cX3_at 42 = .ok (.iload_n 1, 1) := by decide +kernel
theorem dX3_at_43 : decode cX3_at 43 = .ok (.iload_n 2, 1) := by decide +kernel
theorem dX3_at_44 : decode cX3_at 44 = .ok (.invokevirtual 94, 3) := by decide +kernel
theorem dX3_at_47 : decode cX3_at 47 = .ok (.invokevirtual 67, 3) := by decide +kernel
theorem dX3_at_50 : decode cX3_at 50 = .ok (.goto 8, 3) := by decide +kernel
theorem dX3_at_53 : decode cX3_at 53 = .ok (.aload_n 0, 1) := by decide +kernel
theorem dX3_at_54 : decode cX3_at 54 = .ok (.iconst 3, 1) := by decide +kernel
theorem dX3_at_55 : decode cX3_at 55 = .ok (.invokevirtual 56, 3) := by decide +kernel
theorem dX3_at_58 : decode cX3_at 58 = .ok (.ireturn, 1) := by decide +kernel
set_option maxRecDepth 20000 in
theorem ggX3_pointAt_X3_isText : GoodIn wsX3_pointAt wsX3_isText := goodIn_r _ [7, 8, 9, 6, 10] (by decide +kernel) (by decide +kernel)
set_option maxRecDepth 20000 in
theorem gX3_pointAt_X3_isText : GoodIn wsX3_pointAt (va_wsS RX3 112 yX3_isText wsX3_isText) := goodIn_app (goodIn_of _ (by decide +kernel)) ggX3_pointAt_X3_isText
set_option maxRecDepth 20000 in
theorem ggX3_pointAt_X3_wantsPoints : GoodIn wsX3_pointAt wsX3_wantsPoints := goodIn_r _ [14, 15, 16, 17, 6, 18, 19, 20, 69, 70, 71, 72, 73, 74, 75, 76, 77, 78, 79, 80, 81, 82, 83, 84, 85, 86] (by decide +kernel) (by decide +kernel)
set_option maxRecDepth 20000 in
theorem gX3_pointAt_X3_wantsPoints : GoodIn wsX3_pointAt (wsV RX3 119 RX3 yX3_wantsPoints wsX3_wantsPoints) := goodIn_app (goodIn_of _ (by decide +kernel)) ggX3_pointAt_X3_wantsPoints
set_option maxRecDepth 20000 in
theorem ggX3_pointAt_X3_no : GoodIn wsX3_pointAt wsX3_no := goodIn_r _ [24, 25, 69, 70, 71, 72, 73, 74, 75, 76, 77, 78, 79, 80, 81, 82, 83, 84, 85, 86] (by decide +kernel) (by decide +kernel)
set_option maxRecDepth 20000 in
theorem gX3_pointAt_X3_no : GoodIn wsX3_pointAt (wsV RX3 56 RX3 yX3_no wsX3_no) := goodIn_app (goodIn_of _ (by decide +kernel)) ggX3_pointAt_X3_no
set_option maxRecDepth 20000 in
theorem ggX3_pointAt_X3_take : GoodIn wsX3_pointAt wsX3_take := goodIn_r _ [29, 30, 31, 2, 3, 15, 16, 17, 6, 18, 19, 20, 32, 33, 34, 35, 36, 37, 38, 39, 40, 41, 42, 43, 44, 45, 46, 47, 48, 49, 50, 51, 52, 8, 9, 10, 53, 54, 55, 56, 57, 58, 59, 60, 61, 62, 63, 64, 69, 70, 71, 72, 73, 74, 75, 76, 77, 78, 79, 80, 81, 82, 83, 84, 85, 86] (by decide +kernel) (by decide +kernel)
set_option maxRecDepth 20000 in
theorem gX3_pointAt_X3_take : GoodIn wsX3_pointAt (wsV RX3 122 RX3 yX3_take wsX3_take) := goodIn_app (goodIn_of _ (by decide +kernel)) ggX3_pointAt_X3_take
set_option maxRecDepth 20000 in
theorem ggX3_pointAt_X3_within : GoodIn wsX3_pointAt wsX3_within := goodIn_r _ [10] (by decide +kernel) (by decide +kernel)
set_option maxRecDepth 20000 in
theorem gX3_pointAt_X3_within : GoodIn wsX3_pointAt (va_wsS RX3 44 yX3_within wsX3_within) := goodIn_app (goodIn_of _ (by decide +kernel)) ggX3_pointAt_X3_within
set_option maxRecDepth 20000 in
theorem ggX3_pointAt_X3_yes : GoodIn wsX3_pointAt wsX3_yes := goodIn_r _ [68, 25, 69, 70, 71, 72, 73, 74, 75, 76, 77, 78, 79, 80, 81, 82, 83, 84, 85, 86] (by decide +kernel) (by decide +kernel)
set_option maxRecDepth 20000 in
theorem gX3_pointAt_X3_yes : GoodIn wsX3_pointAt (wsV RX3 67 RX3 yX3_yes wsX3_yes) := goodIn_app (goodIn_of _ (by decide +kernel)) ggX3_pointAt_X3_yes
theorem dX3_pointAt_0 : decode cX3_pointAt 0 = .ok (.iload_n 1, 1) := by decide +kernel
theorem dX3_pointAt_1 : decode cX3_pointAt 1 = .ok (.invokestatic 112, 3) := by decide +kernel
theorem dX3_pointAt_4 : decode cX3_pointAt 4 = .ok (.ifCond .ne 6, 3) := by decide +kernel
theorem dX3_pointAt_7 : decode cX3_pointAt 7 = .ok (.ldc 107, 2) := by decide +kernel
theorem dX3_pointAt_9 : decode cX3_pointAt 9 = .ok (.ireturn, 1) := by decide +kernel
theorem dX3_pointAt_10 : decode cX3_pointAt 10 = .ok (.aload_n 0, 1) := by decide +kernel
theorem dX3_pointAt_11 : decode cX3_pointAt 11 = .ok (.iload_n 1, 1) := by decide +kernel
theorem dX3_pointAt_12 : decode cX3_pointAt 12 = .ok (.invokevirtual 119, 3) := by decide +kernel
theorem dX3_pointAt_15 : decode cX3_pointAt 15 = .ok (.istore_n 3, 1) := by decide +kernel
theorem dX3_pointAt_16 : decode cX3_pointAt 16 = .ok (.iload_n 3, 1) := by decide +kernel
theorem dX3_pointAt_17 : decode cX3_pointAt 17 = .ok (.ifCond .eq 9, 3) := by decide +kernel
theorem dX3_pointAt_20 : decode cX3_pointAt 20 = .ok (.aload_n 0, 1) := by decide +kernel
theorem dX3_pointAt_21 : decode cX3_pointAt 21 = .ok (.iload_n 3, 1) := by decide +kernel
theorem dX3_pointAt_22 : decode cX3_pointAt 22 = .ok (.invokevirtual 56, 3) := by decide +kernel
theorem dX3_pointAt_25 : decode cX3_pointAt 25 = .ok (.ireturn, 1) := by decide +kernel
theorem dX3_pointAt_26 : decode cX3_pointAt 26 = .ok (.aload_n 0, 1) := by decide +kernel
theorem dX3_pointAt_27 : decode cX3_pointAt 27 = .ok (.iload_n 1, 1) := by decide +kernel
theorem dX3_pointAt_28 : decode cX3_pointAt 28 = .ok (.invokevirtual 122, 3) := by decide +kernel
theorem dX3_pointAt_31 : decode cX3_pointAt 31 = .ok (.iload_n 2, 1) := by decide +kernel
theorem dX3_pointAt_32 : decode cX3_pointAt 32 = .ok (.iconst 0, 1) := by decide +kernel
theorem dX3_pointAt_33 : decode cX3_pointAt 33 = .ok (.aload_n 0, 1) := by decide +kernel
theorem dX3_pointAt_34 : decode cX3_pointAt 34 = .ok (.getfield 74, 3) := by decide +kernel
theorem dX3_pointAt_37 : decode cX3_pointAt 37 = .ok (.iconst 1, 1) := by decide +kernel
theorem dX3_pointAt_38 : decode cX3_pointAt 38 = .ok (.isub, 1) := by decide +kernel
theorem dX3_pointAt_39 : decode cX3_pointAt 39 = .ok (.invokestatic 44, 3) := by decide +kernel
theorem dX3_pointAt_42 : decode cX3_pointAt 42 = .ok (.ifCond .eq 16, 3) := by decide +kernel
theorem dX3_pointAt_45 : decode cX3_pointAt 45 = .ok (.aload_n 0, 1) := by decide +kernel
theorem dX3_pointAt_46 : decode cX3_pointAt 46 = .ok (.aload_n 0, 1) := by decide +kernel
theorem dX3_pointAt_47 : decode cX3_pointAt 47 = .ok (.getfield 32, 3) := by decide +kernel
theorem dX3_pointAt_50 : decode cX3_pointAt 50 = .ok (.iload_n 2, 1) := by decide +kernel
theorem dX3_pointAt_51 : decode cX3_pointAt 51 = .ok (.iaload, 1) := by decide +kernel
theorem dX3_pointAt_52 : decode cX3_pointAt 52 = .ok (.invokevirtual 67, 3) := by decide +kernel
theorem dX3_pointAt_55 : decode cX3_pointAt 55 = .ok (.goto 8, 3) := by decide +kernel
theorem dX3_pointAt_58 : decode cX3_pointAt 58 = .ok (.aload_n 0, 1) := by decide +kernel
theorem dX3_pointAt_59 : decode cX3_pointAt 59 = .ok (.iconst 3, 1) := by decide +kernel
theorem dX3_pointAt_60 : decode cX3_pointAt 60 = .ok (.invokevirtual 56, 3) := by decide +kernel
theorem dX3_pointAt_63 : decode cX3_pointAt 63 = .ok (.ireturn, 1) := by decide +kernel
set_option maxRecDepth 20000 in
theorem ggX3_put_X3_isText : GoodIn wsX3_put wsX3_isText := goodIn_r _ [8, 9, 10, 7, 11] (by decide +kernel) (by decide +kernel)
set_option maxRecDepth 20000 in
theorem gX3_put_X3_isText : GoodIn wsX3_put (va_wsS RX3 112 yX3_isText wsX3_isText) := goodIn_app (goodIn_of _ (by decide +kernel)) ggX3_put_X3_isText
set_option maxRecDepth 20000 in
theorem ggX3_put_X3_sortOf : GoodIn wsX3_put wsX3_sortOf := goodIn_r _ [15, 3, 16, 35, 36, 37, 38, 39, 40, 41, 42, 43, 44, 45, 46, 47, 48, 49, 50, 51, 52] (by decide +kernel) (by decide +kernel)
set_option maxRecDepth 20000 in
theorem gX3_put_X3_sortOf : GoodIn wsX3_put (wsV RX3 88 RX3 yX3_sortOf wsX3_sortOf) := goodIn_app (goodIn_of _ (by decide +kernel)) ggX3_put_X3_sortOf
set_option maxRecDepth 20000 in
theorem ggX3_put_X3_manyOf : GoodIn wsX3_put wsX3_manyOf := goodIn_r _ [20, 21, 3, 35, 36, 37, 38, 39, 40, 41, 42, 43, 44, 45, 46, 47, 48, 49, 50, 51, 52] (by decide +kernel) (by decide +kernel)
set_option maxRecDepth 20000 in
theorem gX3_put_X3_manyOf : GoodIn wsX3_put (wsV RX3 91 RX3 yX3_manyOf wsX3_manyOf) := goodIn_app (goodIn_of _ (by decide +kernel)) ggX3_put_X3_manyOf
set_option maxRecDepth 20000 in
theorem ggX3_put_X3_within : GoodIn wsX3_put wsX3_within := goodIn_r _ [11] (by decide +kernel) (by decide +kernel)
set_option maxRecDepth 20000 in
theorem gX3_put_X3_within : GoodIn wsX3_put (va_wsS RX3 44 yX3_within wsX3_within) := goodIn_app (goodIn_of _ (by decide +kernel)) ggX3_put_X3_within
set_option maxRecDepth 20000 in
theorem ggX3_put_X3_no : GoodIn wsX3_put wsX3_no := goodIn_r _ [25, 26, 35, 36, 37, 38, 39, 40, 41, 42, 43, 44, 45, 46, 47, 48, 49, 50, 51, 52] (by decide +kernel) (by decide +kernel)
set_option maxRecDepth 20000 in
theorem gX3_put_X3_no : GoodIn wsX3_put (wsV RX3 56 RX3 yX3_no wsX3_no) := goodIn_app (goodIn_of _ (by decide +kernel)) ggX3_put_X3_no
set_option maxRecDepth 20000 in
theorem ggX3_put_X3_item : GoodIn wsX3_put wsX3_item := goodIn_r _ [30, 2, 3, 35, 36, 37, 38, 39, 40, 41, 42, 43, 44, 45, 46, 47, 48, 49, 50, 51, 52] (by decide +kernel) (by decide +kernel)
set_option maxRecDepth 20000 in
theorem gX3_put_X3_item : GoodIn wsX3_put (wsV RX3 94 RX3 yX3_item wsX3_item) := goodIn_app (goodIn_of _ (by decide +kernel)) ggX3_put_X3_item
set_option maxRecDepth 20000 in
theorem ggX3_put_X3_yes : GoodIn wsX3_put wsX3_yes := goodIn_r _ [34, 26, 35, 36, 37, 38, 39, 40, 41, 42, 43, 44, 45, 46, 47, 48, 49, 50, 51, 52] (by decide +kernel) (by decide +kernel)
set_option maxRecDepth 20000 in
theorem gX3_put_X3_yes : GoodIn wsX3_put (wsV RX3 67 RX3 yX3_yes wsX3_yes) := goodIn_app (goodIn_of _ (by decide +kernel)) ggX3_put_X3_yes
theorem dX3_put_0 : decode cX3_put 0 = .ok (.iload_n 1, 1) := by decide +kernel
theorem dX3_put_1 : decode cX3_put 1 = .ok (.invokestatic 112, 3) := by decide +kernel
theorem dX3_put_4 : decode cX3_put 4 = .ok (.ifCond .ne 6, 3) := by decide +kernel
theorem dX3_put_7 : decode cX3_put 7 = .ok (.ldc 107, 2) := by decide +kernel
theorem dX3_put_9 : decode cX3_put 9 = .ok (.ireturn, 1) := by decide +kernel
theorem dX3_put_10 : decode cX3_put 10 = .ok (.aload_n 0, 1) := by decide +kernel
theorem dX3_put_11 : decode cX3_put 11 = .ok (.iload_n 1, 1) := by decide +kernel
theorem dX3_put_12 : decode cX3_put 12 = .ok (.invokevirtual 88, 3) := by decide +kernel
theorem dX3_put_15 : decode cX3_put 15 = .ok (.istore 4, 2) := by decide +kernel
theorem dX3_put_17 : decode cX3_put 17 = .ok (.iload 4, 2) := by decide +kernel
theorem dX3_put_19 : decode cX3_put 19 = .ok (.iconst (-1), 1) := by decide +kernel
theorem dX3_put_20 : decode cX3_put 20 = .ok (.if_icmp .ne 7, 3) := by decide +kernel
theorem dX3_put_23 : decode cX3_put 23 = .ok (.iconst 1, 1) := by decide +kernel
theorem dX3_put_24 : decode cX3_put 24 = .ok (.goto 33, 3) := by decide +kernel
theorem dX3_put_27 : decode cX3_put 27 = .ok (.iload 4, 2) := by decide +kernel
theorem dX3_put_29 : decode cX3_put 29 = .ok (.iconst 1, 1) := by decide +kernel
theorem dX3_put_30 : decode cX3_put 30 = .ok (.if_icmp .ne 7, 3) := by decide +kernel
theorem dX3_put_33 : decode cX3_put 33 = .ok (.iconst 2, 1) := by decide +kernel
theorem dX3_put_34 : decode cX3_put 34 = .ok (.goto 23, 3) := by decide +kernel
theorem dX3_put_37 : decode cX3_put 37 = .ok (.iload_n 2, 1) := by decide +kernel
theorem dX3_put_38 : decode cX3_put 38 = .ok (.iconst 0, 1) := by decide +kernel
theorem dX3_put_39 : decode cX3_put 39 = .ok (.aload_n 0, 1) := by decide +kernel
theorem dX3_put_40 : decode cX3_put 40 = .ok (.iload_n 1, 1) := by decide +kernel
theorem dX3_put_41 : decode cX3_put 41 = .ok (.invokevirtual 91, 3) := by decide +kernel
theorem dX3_put_44 : decode cX3_put 44 = .ok (.iconst 1, 1) := by decide +kernel
theorem dX3_put_45 : decode cX3_put 45 = .ok (.isub, 1) := by decide +kernel
theorem dX3_put_46 : decode cX3_put 46 = .ok (.invokestatic 44, 3) := by decide +kernel
theorem dX3_put_49 : decode cX3_put 49 = .ok (.ifCond .eq 7, 3) := by decide +kernel
theorem dX3_put_52 : decode cX3_put 52 = .ok (.iconst 0, 1) := by decide +kernel
theorem dX3_put_53 : decode cX3_put 53 = .ok (.goto 4, 3) := by decide +kernel
theorem dX3_put_56 : decode cX3_put 56 = .ok (.iconst 3, 1) := by decide +kernel
theorem dX3_put_57 : decode cX3_put 57 = .ok (.istore 5, 2) := by decide +kernel
theorem dX3_put_59 : decode cX3_put 59 = .ok (.iload 5, 2) := by decide +kernel
theorem dX3_put_61 : decode cX3_put 61 = .ok (.ifCond .eq 10, 3) := by decide +kernel
theorem dX3_put_64 : decode cX3_put 64 = .ok (.aload_n 0, 1) := by decide +kernel
theorem dX3_put_65 : decode cX3_put 65 = .ok (.iload 5, 2) := by decide +kernel
theorem dX3_put_67 : decode cX3_put 67 = .ok (.invokevirtual 56, 3) := by decide +kernel
theorem dX3_put_70 : decode cX3_put 70 = .ok (.ireturn, 1) := by decide +kernel
theorem dX3_put_71 : decode cX3_put 71 = .ok (.aload_n 0, 1) := by decide +kernel
theorem dX3_put_72 : decode cX3_put 72 = .ok (.iload_n 1, 1) := by decide +kernel
theorem dX3_put_73 : decode cX3_put 73 = .ok (.iload_n 2, 1) := by decide +kernel
theorem dX3_put_74 : decode cX3_put 74 = .ok (.invokevirtual 94, 3) := by decide +kernel
theorem dX3_put_77 : decode cX3_put 77 = .ok (.istore 6, 2) := by decide +kernel
theorem dX3_put_79 : decode cX3_put 79 = .ok (.aload_n 0, 1) := by decide +kernel
theorem dX3_put_80 : decode cX3_put 80 = .ok (.getfield 22, 3) := by decide +kernel
theorem dX3_put_83 : decode cX3_put 83 = .ok (.sipush 240, 3) := by decide +kernel
theorem dX3_put_86 : decode cX3_put 86 = .ok (.aload_n 0, 1) := by decide +kernel
theorem dX3_put_87 : decode cX3_put 87 = .ok (.getfield 7, 3) := by decide +kernel
theorem dX3_put_90 : decode cX3_put 90 = .ok (.iload_n 1, 1) := by decide +kernel
theorem dX3_put_91 : decode cX3_put 91 = .ok (.iaload, 1) := by decide +kernel
theorem dX3_put_92 : decode cX3_put 92 = .ok (.imul, 1) := by decide +kernel
theorem dX3_put_93 : decode cX3_put 93 = .ok (.iload_n 2, 1) := by decide +kernel
theorem dX3_put_94 : decode cX3_put 94 = .ok (.iadd, 1) := by decide +kernel
theorem dX3_put_95 : decode cX3_put 95 = .ok (.iload 4, 2) := by decide +kernel
theorem dX3_put_97 : decode cX3_put 97 = .ok (.ifCond .ne 10, 3) := by decide +kernel
theorem dX3_put_100 : decode cX3_put 100 = .ok (.iload_n 3, 1) := by decide +kernel
theorem dX3_put_101 : decode cX3_put 101 = .ok (.ldc 111, 2) := by decide +kernel
theorem dX3_put_103 : decode cX3_put 103 = .ok (.iand, 1) := by decide +kernel
theorem dX3_put_104 : decode cX3_put 104 = .ok (.goto 8, 3) := by decide +kernel
theorem dX3_put_107 : decode cX3_put 107 = .ok (.iload_n 3, 1) := by decide +kernel
theorem dX3_put_108 : decode cX3_put 108 = .ok (.sipush 255, 3) := by decide +kernel
theorem dX3_put_111 : decode cX3_put 111 = .ok (.iand, 1) := by decide +kernel
theorem dX3_put_112 : decode cX3_put 112 = .ok (.iastore, 1) := by decide +kernel
theorem dX3_put_113 : decode cX3_put 113 = .ok (.aload_n 0, 1) := by decide +kernel
theorem dX3_put_114 : decode cX3_put 114 = .ok (.iload 6, 2) := by decide +kernel
theorem dX3_put_116 : decode cX3_put 116 = .ok (.invokevirtual 67, 3) := by decide +kernel
theorem dX3_put_119 : decode cX3_put 119 = .ok (.ireturn, 1) := by decide +kernel
set_option maxRecDepth 20000 in
theorem ggX3_turnInto_X3_isText : GoodIn wsX3_turnInto wsX3_isText := goodIn_r _ [9, 10, 11, 8, 12] (by decide +kernel) (by decide +kernel)
set_option maxRecDepth 20000 in
theorem gX3_turnInto_X3_isText : GoodIn wsX3_turnInto (va_wsS RX3 112 yX3_isText wsX3_isText) := goodIn_app (goodIn_of _ (by decide +kernel)) ggX3_turnInto_X3_isText
set_option maxRecDepth 20000 in
theorem ggX3_turnInto_X3_within : GoodIn wsX3_turnInto wsX3_within := goodIn_r _ [12] (by decide +kernel) (by decide +kernel)
set_option maxRecDepth 20000 in
theorem gX3_turnInto_X3_within : GoodIn wsX3_turnInto (va_wsS RX3 44 yX3_within wsX3_within) := goodIn_app (goodIn_of _ (by decide +kernel)) ggX3_turnInto_X3_within
set_option maxRecDepth 20000 in
theorem ggX3_turnInto_X3_wantsPoints : GoodIn wsX3_turnInto wsX3_wantsPoints := goodIn_r _ [16, 17, 18, 19, 8, 20, 21, 22, 79, 80, 81, 82, 83, 84, 85, 86, 87, 88, 89, 90, 91, 92, 93, 94, 95, 96] (by decide +kernel) (by decide +kernel)
set_option maxRecDepth 20000 in
theorem gX3_turnInto_X3_wantsPoints : GoodIn wsX3_turnInto (wsV RX3 119 RX3 yX3_wantsPoints wsX3_wantsPoints) := goodIn_app (goodIn_of _ (by decide +kernel)) ggX3_turnInto_X3_wantsPoints
set_option maxRecDepth 20000 in
theorem ggX3_turnInto_X3_no : GoodIn wsX3_turnInto wsX3_no := goodIn_r _ [26, 27, 79, 80, 81, 82, 83, 84, 85, 86, 87, 88, 89, 90, 91, 92, 93, 94, 95, 96] (by decide +kernel) (by decide +kernel)
set_option maxRecDepth 20000 in
theorem gX3_turnInto_X3_no : GoodIn wsX3_turnInto (wsV RX3 56 RX3 yX3_no wsX3_no) := goodIn_app (goodIn_of _ (by decide +kernel)) ggX3_turnInto_X3_no
set_option maxRecDepth 20000 in
theorem ggX3_turnInto_X3_take : GoodIn wsX3_turnInto wsX3_take := goodIn_r _ [31, 4, 5, 3, 2, 17, 18, 19, 8, 20, 21, 22, 32, 33, 34, 35, 36, 37, 38, 39, 40, 41, 42, 43, 44, 45, 46, 47, 48, 49, 50, 51, 52, 10, 11, 12, 53, 54, 55, 56, 57, 58, 59, 60, 61, 62, 63, 64, 79, 80, 81, 82, 83, 84, 85, 86, 87, 88, 89, 90, 91, 92, 93, 94, 95, 96] (by decide +kernel) (by decide +kernel)
set_option maxRecDepth 20000 in
theorem gX3_turnInto_X3_take : GoodIn wsX3_turnInto (wsV RX3 122 RX3 yX3_take wsX3_take) := goodIn_app (goodIn_of _ (by decide +kernel)) ggX3_turnInto_X3_take
set_option maxRecDepth 20000 in
theorem ggX3_turnInto_X3_become : GoodIn wsX3_turnInto wsX3_become := goodIn_r _ [68, 22, 36, 41, 21, 69, 70, 71, 8, 72, 73, 74, 75, 76, 77, 78, 27, 79, 80, 81, 82, 83, 84, 85, 86, 87, 88, 89, 90, 91, 92, 93, 94, 95, 96] (by decide +kernel) (by decide +kernel)
set_option maxRecDepth 20000 in
theorem gX3_turnInto_X3_become : GoodIn wsX3_turnInto (wsV RX3 115 RX3 yX3_become wsX3_become) := goodIn_app (goodIn_of _ (by decide +kernel)) ggX3_turnInto_X3_become
theorem dX3_turnInto_0 : decode cX3_turnInto 0 = .ok (.iload_n 1, 1) := by decide +kernel
theorem dX3_turnInto_1 : decode cX3_turnInto 1 = .ok (.invokestatic 112, 3) := by decide +kernel
theorem dX3_turnInto_4 : decode cX3_turnInto 4 = .ok (.ifCond .eq 19, 3) := by decide +kernel
theorem dX3_turnInto_7 : decode cX3_turnInto 7 = .ok (.iload_n 2, 1) := by decide +kernel
theorem dX3_turnInto_8 : decode cX3_turnInto 8 = .ok (.invokestatic 112, 3) := by decide +kernel
theorem dX3_turnInto_11 : decode cX3_turnInto 11 = .ok (.ifCond .eq 12, 3) := by decide +kernel
theorem dX3_turnInto_14 : decode cX3_turnInto 14 = .ok (.iload_n 3, 1) := by decide +kernel
end
section
theorem dX3_turnInto_15 : decode cX3_turnInto 15 = .ok (.iconst 0, 1) := by decide +kernel
theorem dX3_turnInto_16 : decode cX3_turnInto 16 = .ok (.iconst 1, 1) := by decide +kernel
theorem dX3_turnInto_17 : decode cX3_turnInto 17 = .ok (.invokestatic 44, 3) := by decide +kernel
theorem dX3_turnInto_20 : decode cX3_turnInto 20 = .ok (.ifCond .ne 6, 3) := by decide +kernel
theorem dX3_turnInto_23 : decode cX3_turnInto 23 = .ok (.ldc 107, 2) := by decide +kernel
theorem dX3_turnInto_25 : decode cX3_turnInto 25 = .ok (.ireturn, 1) := by decide +kernel
theorem dX3_turnInto_26 : decode cX3_turnInto 26 = .ok (.aload_n 0, 1) := by decide +kernel
theorem dX3_turnInto_27 : decode cX3_turnInto 27 = .ok (.iload_n 2, 1) := by decide +kernel
theorem dX3_turnInto_28 : decode cX3_turnInto 28 = .ok (.invokevirtual 119, 3) := by decide +kernel
theorem dX3_turnInto_31 : decode cX3_turnInto 31 = .ok (.istore 4, 2) := by decide +kernel
theorem dX3_turnInto_33 : decode cX3_turnInto 33 = .ok (.iload 4, 2) := by decide +kernel
theorem dX3_turnInto_35 : decode cX3_turnInto 35 = .ok (.ifCond .eq 10, 3) := by decide +kernel
theorem dX3_turnInto_38 : decode cX3_turnInto 38 = .ok (.aload_n 0, 1) := by decide +kernel
theorem dX3_turnInto_39 : decode cX3_turnInto 39 = .ok (.iload 4, 2) := by decide +kernel
theorem dX3_turnInto_41 : decode cX3_turnInto 41 = .ok (.invokevirtual 56, 3) := by decide +kernel
theorem dX3_turnInto_44 : decode cX3_turnInto 44 = .ok (.ireturn, 1) := by decide +kernel
theorem dX3_turnInto_45 : decode cX3_turnInto 45 = .ok (.aload_n 0, 1) := by decide +kernel
theorem dX3_turnInto_46 : decode cX3_turnInto 46 = .ok (.iload_n 2, 1) := by decide +kernel
theorem dX3_turnInto_47 : decode cX3_turnInto 47 = .ok (.invokevirtual 122, 3) := by decide +kernel
theorem dX3_turnInto_50 : decode cX3_turnInto 50 = .ok (.iload_n 3, 1) := by decide +kernel
theorem dX3_turnInto_51 : decode cX3_turnInto 51 = .ok (.iconst 1, 1) := by decide +kernel
theorem dX3_turnInto_52 : decode cX3_turnInto 52 = .ok (.if_icmp .ne 18, 3) := by decide +kernel
theorem dX3_turnInto_55 : decode cX3_turnInto 55 = .ok (.aload_n 0, 1) := by decide +kernel
theorem dX3_turnInto_56 : decode cX3_turnInto 56 = .ok (.iload_n 1, 1) := by decide +kernel
theorem dX3_turnInto_57 : decode cX3_turnInto 57 = .ok (.iconst 1, 1) := by decide +kernel
theorem dX3_turnInto_58 : decode cX3_turnInto 58 = .ok (.aload_n 0, 1) := by decide +kernel
theorem dX3_turnInto_59 : decode cX3_turnInto 59 = .ok (.getfield 32, 3) := by decide +kernel
theorem dX3_turnInto_62 : decode cX3_turnInto 62 = .ok (.aload_n 0, 1) := by decide +kernel
theorem dX3_turnInto_63 : decode cX3_turnInto 63 = .ok (.getfield 74, 3) := by decide +kernel
theorem dX3_turnInto_66 : decode cX3_turnInto 66 = .ok (.invokevirtual 115, 3) := by decide +kernel
theorem dX3_turnInto_69 : decode cX3_turnInto 69 = .ok (.ireturn, 1) := by decide +kernel
theorem dX3_turnInto_70 : decode cX3_turnInto 70 = .ok (.aload_n 0, 1) := by decide +kernel
theorem dX3_turnInto_71 : decode cX3_turnInto 71 = .ok (.getfield 71, 3) := by decide +kernel
theorem dX3_turnInto_74 : decode cX3_turnInto 74 = .ok (.bipush 60, 2) := by decide +kernel
theorem dX3_turnInto_76 : decode cX3_turnInto 76 = .ok (.if_icmp .le 12, 3) := by decide +kernel
theorem dX3_turnInto_79 : decode cX3_turnInto 79 = .ok (.aload_n 0, 1) := by decide +kernel
theorem dX3_turnInto_80 : decode cX3_turnInto 80 = .ok (.bipush 6, 2) := by decide +kernel
theorem dX3_turnInto_82 : decode cX3_turnInto 82 = .ok (.invokevirtual 56, 3) := by decide +kernel
theorem dX3_turnInto_85 : decode cX3_turnInto 85 = .ok (.goto 17, 3) := by decide +kernel
theorem dX3_turnInto_88 : decode cX3_turnInto 88 = .ok (.aload_n 0, 1) := by decide +kernel
theorem dX3_turnInto_89 : decode cX3_turnInto 89 = .ok (.iload_n 1, 1) := by decide +kernel
theorem dX3_turnInto_90 : decode cX3_turnInto 90 = .ok (.iconst 0, 1) := by decide +kernel
theorem dX3_turnInto_91 : decode cX3_turnInto 91 = .ok (.aload_n 0, 1) := by decide +kernel
theorem dX3_turnInto_92 : decode cX3_turnInto 92 = .ok (.getfield 35, 3) := by decide +kernel
theorem dX3_turnInto_95 : decode cX3_turnInto 95 = .ok (.aload_n 0, 1) := by decide +kernel
theorem dX3_turnInto_96 : decode cX3_turnInto 96 = .ok (.getfield 71, 3) := by decide +kernel
theorem dX3_turnInto_99 : decode cX3_turnInto 99 = .ok (.invokevirtual 115, 3) := by decide +kernel
theorem dX3_turnInto_102 : decode cX3_turnInto 102 = .ok (.ireturn, 1) := by decide +kernel
theorem dX3_addByte_0 : decode cX3_addByte 0 = .ok (.aload_n 0, 1) := by decide +kernel
theorem dX3_addByte_1 : decode cX3_addByte 1 = .ok (.getfield 41, 3) := by decide +kernel
theorem dX3_addByte_4 : decode cX3_addByte 4 = .ok (.aload_n 0, 1) := by decide +kernel
theorem dX3_addByte_5 : decode cX3_addByte 5 = .ok (.getfield 125, 3) := by decide +kernel
theorem dX3_addByte_8 : decode cX3_addByte 8 = .ok (.iload_n 1, 1) := by decide +kernel
theorem dX3_addByte_9 : decode cX3_addByte 9 = .ok (.iastore, 1) := by decide +kernel
theorem dX3_addByte_10 : decode cX3_addByte 10 = .ok (.aload_n 0, 1) := by decide +kernel
theorem dX3_addByte_11 : decode cX3_addByte 11 = .ok (.dup, 1) := by decide +kernel
theorem dX3_addByte_12 : decode cX3_addByte 12 = .ok (.getfield 125, 3) := by decide +kernel
theorem dX3_addByte_15 : decode cX3_addByte 15 = .ok (.iconst 1, 1) := by decide +kernel
theorem dX3_addByte_16 : decode cX3_addByte 16 = .ok (.iadd, 1) := by decide +kernel
theorem dX3_addByte_17 : decode cX3_addByte 17 = .ok (.putfield 125, 3) := by decide +kernel
theorem dX3_addByte_20 : decode cX3_addByte 20 = .ok (.return_, 1) := by decide +kernel
set_option maxRecDepth 20000 in
theorem ggX3_addPoint_X3_addByte : GoodIn wsX3_addPoint wsX3_addByte := goodIn_r _ [7, 8, 9, 10, 11, 12, 13, 14, 15, 16, 17, 18, 19, 20, 21, 22, 23, 24, 25, 26, 27] (by decide +kernel) (by decide +kernel)
set_option maxRecDepth 20000 in
theorem gX3_addPoint_X3_addByte : GoodIn wsX3_addPoint (wsV RX3 128 RX3 yX3_addByte wsX3_addByte) := goodIn_app (goodIn_of _ (by decide +kernel)) ggX3_addPoint_X3_addByte
theorem dX3_addPoint_0 : decode cX3_addPoint 0 = .ok (.iload_n 1, 1) := by decide +kernel
theorem dX3_addPoint_1 : decode cX3_addPoint 1 = .ok (.sipush 128, 3) := by decide +kernel
theorem dX3_addPoint_4 : decode cX3_addPoint 4 = .ok (.if_icmp .ge 11, 3) := by decide +kernel
theorem dX3_addPoint_7 : decode cX3_addPoint 7 = .ok (.aload_n 0, 1) := by decide +kernel
theorem dX3_addPoint_8 : decode cX3_addPoint 8 = .ok (.iload_n 1, 1) := by decide +kernel
theorem dX3_addPoint_9 : decode cX3_addPoint 9 = .ok (.invokevirtual 128, 3) := by decide +kernel
theorem dX3_addPoint_12 : decode cX3_addPoint 12 = .ok (.goto 114, 3) := by decide +kernel
theorem dX3_addPoint_15 : decode cX3_addPoint 15 = .ok (.iload_n 1, 1) := by decide +kernel
theorem dX3_addPoint_16 : decode cX3_addPoint 16 = .ok (.sipush 2048, 3) := by decide +kernel
theorem dX3_addPoint_19 : decode cX3_addPoint 19 = .ok (.if_icmp .ge 30, 3) := by decide +kernel
theorem dX3_addPoint_22 : decode cX3_addPoint 22 = .ok (.aload_n 0, 1) := by decide +kernel
theorem dX3_addPoint_23 : decode cX3_addPoint 23 = .ok (.sipush 192, 3) := by decide +kernel
theorem dX3_addPoint_26 : decode cX3_addPoint 26 = .ok (.iload_n 1, 1) := by decide +kernel
theorem dX3_addPoint_27 : decode cX3_addPoint 27 = .ok (.bipush 64, 2) := by decide +kernel
theorem dX3_addPoint_29 : decode cX3_addPoint 29 = .ok (.idiv, 1) := by decide +kernel
theorem dX3_addPoint_30 : decode cX3_addPoint 30 = .ok (.iadd, 1) := by decide +kernel
theorem dX3_addPoint_31 : decode cX3_addPoint 31 = .ok (.invokevirtual 128, 3) := by decide +kernel
theorem dX3_addPoint_34 : decode cX3_addPoint 34 = .ok (.aload_n 0, 1) := by decide +kernel
theorem dX3_addPoint_35 : decode cX3_addPoint 35 = .ok (.sipush 128, 3) := by decide +kernel
theorem dX3_addPoint_38 : decode cX3_addPoint 38 = .ok (.iload_n 1, 1) := by decide +kernel
theorem dX3_addPoint_39 : decode cX3_addPoint 39 = .ok (.bipush 64, 2) := by decide +kernel
theorem dX3_addPoint_41 : decode cX3_addPoint 41 = .ok (.irem, 1) := by decide +kernel
theorem dX3_addPoint_42 : decode cX3_addPoint 42 = .ok (.iadd, 1) := by decide +kernel
theorem dX3_addPoint_43 : decode cX3_addPoint 43 = .ok (.invokevirtual 128, 3) := by decide +kernel
theorem dX3_addPoint_46 : decode cX3_addPoint 46 = .ok (.goto 80, 3) := by decide +kernel
theorem dX3_addPoint_49 : decode cX3_addPoint 49 = .ok (.iload_n 1, 1) := by decide +kernel
theorem dX3_addPoint_50 : decode cX3_addPoint 50 = .ok (.ldc 70, 2) := by decide +kernel
theorem dX3_addPoint_52 : decode cX3_addPoint 52 = .ok (.if_icmp .ge 19, 3) := by decide +kernel
theorem dX3_addPoint_55 : decode cX3_addPoint 55 = .ok (.aload_n 0, 1) := by decide +kernel
theorem dX3_addPoint_56 : decode cX3_addPoint 56 = .ok (.sipush 224, 3) := by decide +kernel
theorem dX3_addPoint_59 : decode cX3_addPoint 59 = .ok (.iload_n 1, 1) := by decide +kernel
theorem dX3_addPoint_60 : decode cX3_addPoint 60 = .ok (.sipush 4096, 3) := by decide +kernel
theorem dX3_addPoint_63 : decode cX3_addPoint 63 = .ok (.idiv, 1) := by decide +kernel
theorem dX3_addPoint_64 : decode cX3_addPoint 64 = .ok (.iadd, 1) := by decide +kernel
theorem dX3_addPoint_65 : decode cX3_addPoint 65 = .ok (.invokevirtual 128, 3) := by decide +kernel
theorem dX3_addPoint_68 : decode cX3_addPoint 68 = .ok (.goto 31, 3) := by decide +kernel
theorem dX3_addPoint_71 : decode cX3_addPoint 71 = .ok (.aload_n 0, 1) := by decide +kernel
theorem dX3_addPoint_72 : decode cX3_addPoint 72 = .ok (.sipush 240, 3) := by decide +kernel
theorem dX3_addPoint_75 : decode cX3_addPoint 75 = .ok (.iload_n 1, 1) := by decide +kernel
theorem dX3_addPoint_76 : decode cX3_addPoint 76 = .ok (.ldc 131, 2) := by decide +kernel
theorem dX3_addPoint_78 : decode cX3_addPoint 78 = .ok (.idiv, 1) := by decide +kernel
theorem dX3_addPoint_79 : decode cX3_addPoint 79 = .ok (.iadd, 1) := by decide +kernel
theorem dX3_addPoint_80 : decode cX3_addPoint 80 = .ok (.invokevirtual 128, 3) := by decide +kernel
theorem dX3_addPoint_83 : decode cX3_addPoint 83 = .ok (.aload_n 0, 1) := by decide +kernel
theorem dX3_addPoint_84 : decode cX3_addPoint 84 = .ok (.sipush 128, 3) := by decide +kernel
theorem dX3_addPoint_87 : decode cX3_addPoint 87 = .ok (.iload_n 1, 1) := by decide +kernel
theorem dX3_addPoint_88 : decode cX3_addPoint 88 = .ok (.sipush 4096, 3) := by decide +kernel
theorem dX3_addPoint_91 : decode cX3_addPoint 91 = .ok (.idiv, 1) := by decide +kernel
theorem dX3_addPoint_92 : decode cX3_addPoint 92 = .ok (.bipush 64, 2) := by decide +kernel
theorem dX3_addPoint_94 : decode cX3_addPoint 94 = .ok (.irem, 1) := by decide +kernel
theorem dX3_addPoint_95 : decode cX3_addPoint 95 = .ok (.iadd, 1) := by decide +kernel
theorem dX3_addPoint_96 : decode cX3_addPoint 96 = .ok (.invokevirtual 128, 3) := by decide +kernel
theorem dX3_addPoint_99 : decode cX3_addPoint 99 = .ok (.aload_n 0, 1) := by decide +kernel
theorem dX3_addPoint_100 : decode cX3_addPoint 100 = .ok (.sipush 128, 3) := by decide +kernel
theorem dX3_addPoint_103 : decode cX3_addPoint 103 = .ok (.iload_n 1, 1) := by decide +kernel
theorem dX3_addPoint_104 : decode cX3_addPoint 104 = .ok (.bipush 64, 2) := by decide +kernel
theorem dX3_addPoint_106 : decode cX3_addPoint 106 = .ok (.idiv, 1) := by decide +kernel
theorem dX3_addPoint_107 : decode cX3_addPoint 107 = .ok (.bipush 64, 2) := by decide +kernel
theorem dX3_addPoint_109 : decode cX3_addPoint 109 = .ok (.irem, 1) := by decide +kernel
theorem dX3_addPoint_110 : decode cX3_addPoint 110 = .ok (.iadd, 1) := by decide +kernel
theorem dX3_addPoint_111 : decode cX3_addPoint 111 = .ok (.invokevirtual 128, 3) := by decide +kernel
theorem dX3_addPoint_114 : decode cX3_addPoint 114 = .ok (.aload_n 0, 1) := by decide +kernel
theorem dX3_addPoint_115 : decode cX3_addPoint 115 = .ok (.sipush 128, 3) := by decide +kernel
theorem dX3_addPoint_118 : decode cX3_addPoint 118 = .ok (.iload_n 1, 1) := by decide +kernel
theorem dX3_addPoint_119 : decode cX3_addPoint 119 = .ok (.bipush 64, 2) := by decide +kernel
theorem dX3_addPoint_121 : decode cX3_addPoint 121 = .ok (.irem, 1) := by decide +kernel
theorem dX3_addPoint_122 : decode cX3_addPoint 122 = .ok (.iadd, 1) := by decide +kernel
theorem dX3_addPoint_123 : decode cX3_addPoint 123 = .ok (.invokevirtual 128, 3) := by decide +kernel
theorem dX3_addPoint_126 : decode cX3_addPoint 126 = .ok (.return_, 1) := by decide +kernel
set_option maxRecDepth 20000 in
theorem ggX3_tell_X3_isText : GoodIn wsX3_tell wsX3_isText := goodIn_r _ [11, 12, 13, 10, 14] (by decide +kernel) (by decide +kernel)
set_option maxRecDepth 20000 in
theorem gX3_tell_X3_isText : GoodIn wsX3_tell (va_wsS RX3 112 yX3_isText wsX3_isText) := goodIn_app (goodIn_of _ (by decide +kernel)) ggX3_tell_X3_isText
set_option maxRecDepth 20000 in
theorem ggX3_tell_X3_within : GoodIn wsX3_tell wsX3_within := goodIn_r _ [14] (by decide +kernel) (by decide +kernel)
set_option maxRecDepth 20000 in
theorem gX3_tell_X3_within : GoodIn wsX3_tell (va_wsS RX3 44 yX3_within wsX3_within) := goodIn_app (goodIn_of _ (by decide +kernel)) ggX3_tell_X3_within
set_option maxRecDepth 20000 in
theorem ggX3_tell_X3_wantsPoints : GoodIn wsX3_tell wsX3_wantsPoints := goodIn_r _ [18, 19, 20, 21, 10, 22, 23, 24, 95, 96, 97, 98, 99, 100, 101, 102, 103, 104, 105, 106, 107, 108, 109, 110, 111, 112] (by decide +kernel) (by decide +kernel)
set_option maxRecDepth 20000 in
theorem gX3_tell_X3_wantsPoints : GoodIn wsX3_tell (wsV RX3 119 RX3 yX3_wantsPoints wsX3_wantsPoints) := goodIn_app (goodIn_of _ (by decide +kernel)) ggX3_tell_X3_wantsPoints
set_option maxRecDepth 20000 in
theorem ggX3_tell_X3_no : GoodIn wsX3_tell wsX3_no := goodIn_r _ [28, 29, 95, 96, 97, 98, 99, 100, 101, 102, 103, 104, 105, 106, 107, 108, 109, 110, 111, 112] (by decide +kernel) (by decide +kernel)
set_option maxRecDepth 20000 in
theorem gX3_tell_X3_no : GoodIn wsX3_tell (wsV RX3 56 RX3 yX3_no wsX3_no) := goodIn_app (goodIn_of _ (by decide +kernel)) ggX3_tell_X3_no
set_option maxRecDepth 20000 in
theorem ggX3_tell_X3_take : GoodIn wsX3_tell wsX3_take := goodIn_r _ [33, 3, 4, 6, 7, 19, 20, 21, 10, 22, 23, 24, 34, 35, 36, 37, 38, 39, 40, 41, 42, 43, 44, 45, 46, 47, 48, 49, 50, 51, 52, 53, 54, 12, 13, 14, 55, 56, 57, 58, 59, 60, 61, 62, 63, 64, 65, 66, 95, 96, 97, 98, 99, 100, 101, 102, 103, 104, 105, 106, 107, 108, 109, 110, 111, 112] (by decide +kernel) (by decide +kernel)
set_option maxRecDepth 20000 in
theorem gX3_tell_X3_take : GoodIn wsX3_tell (wsV RX3 122 RX3 yX3_take wsX3_take) := goodIn_app (goodIn_of _ (by decide +kernel)) ggX3_tell_X3_take
set_option maxRecDepth 20000 in
theorem ggX3_tell_X3_addByte : GoodIn wsX3_tell wsX3_addByte := goodIn_r _ [70, 5, 2, 95, 96, 97, 98, 99, 100, 101, 102, 103, 104, 105, 106, 107, 108, 109, 110, 111, 112] (by decide +kernel) (by decide +kernel)
set_option maxRecDepth 20000 in
theorem gX3_tell_X3_addByte : GoodIn wsX3_tell (wsV RX3 128 RX3 yX3_addByte wsX3_addByte) := goodIn_app (goodIn_of _ (by decide +kernel)) ggX3_tell_X3_addByte
set_option maxRecDepth 20000 in
theorem ggX3_tell_X3_become : GoodIn wsX3_tell wsX3_become := goodIn_r _ [74, 24, 38, 43, 23, 75, 76, 77, 10, 78, 79, 80, 81, 82, 83, 84, 29, 95, 96, 97, 98, 99, 100, 101, 102, 103, 104, 105, 106, 107, 108, 109, 110, 111, 112] (by decide +kernel) (by decide +kernel)
set_option maxRecDepth 20000 in
theorem gX3_tell_X3_become : GoodIn wsX3_tell (wsV RX3 115 RX3 yX3_become wsX3_become) := goodIn_app (goodIn_of _ (by decide +kernel)) ggX3_tell_X3_become
set_option maxRecDepth 20000 in
theorem ggX3_tell_X3_isHigh : GoodIn wsX3_tell wsX3_isHigh := goodIn_r _ [53, 49, 54, 12, 13, 10, 14] (by decide +kernel) (by decide +kernel)
set_option maxRecDepth 20000 in
theorem gX3_tell_X3_isHigh : GoodIn wsX3_tell (va_wsS RX3 77 yX3_isHigh wsX3_isHigh) := goodIn_app (goodIn_of _ (by decide +kernel)) ggX3_tell_X3_isHigh
set_option maxRecDepth 20000 in
theorem ggX3_tell_X3_isLow : GoodIn wsX3_tell wsX3_isLow := goodIn_r _ [57, 50, 58, 12, 13, 10, 14] (by decide +kernel) (by decide +kernel)
set_option maxRecDepth 20000 in
theorem gX3_tell_X3_isLow : GoodIn wsX3_tell (va_wsS RX3 81 yX3_isLow wsX3_isLow) := goodIn_app (goodIn_of _ (by decide +kernel)) ggX3_tell_X3_isLow
set_option maxRecDepth 20000 in
theorem ggX3_tell_X3_breaks : GoodIn wsX3_tell wsX3_breaks := goodIn_r _ [88, 89, 25, 26, 27, 10, 28, 29, 95, 96, 97, 98, 99, 100, 101, 102, 103, 104, 105, 106, 107, 108, 109, 110, 111, 112] (by decide +kernel) (by decide +kernel)
set_option maxRecDepth 20000 in
theorem gX3_tell_X3_breaks : GoodIn wsX3_tell (wsV RX3 132 RX3 yX3_breaks wsX3_breaks) := goodIn_app (goodIn_of _ (by decide +kernel)) ggX3_tell_X3_breaks
set_option maxRecDepth 20000 in
theorem ggX3_tell_X3_addPoint : GoodIn wsX3_tell wsX3_addPoint := goodIn_r _ [93, 48, 94, 67, 68, 69, 10, 70, 5, 2, 95, 96, 97, 98, 99, 100, 101, 102, 103, 104, 105, 106, 107, 108, 109, 110, 111, 112] (by decide +kernel) (by decide +kernel)
set_option maxRecDepth 20000 in
theorem gX3_tell_X3_addPoint : GoodIn wsX3_tell (wsV RX3 135 RX3 yX3_addPoint wsX3_addPoint) := goodIn_app (goodIn_of _ (by decide +kernel)) ggX3_tell_X3_addPoint
theorem dX3_tell_0 : decode cX3_tell 0 = .ok (.iload_n 1, 1) := by decide +kernel
theorem dX3_tell_1 : decode cX3_tell 1 = .ok (.invokestatic 112, 3) := by decide +kernel
theorem dX3_tell_4 : decode cX3_tell 4 = .ok (.ifCond .eq 19, 3) := by decide +kernel
theorem dX3_tell_7 : decode cX3_tell 7 = .ok (.iload_n 2, 1) := by decide +kernel
theorem dX3_tell_8 : decode cX3_tell 8 = .ok (.invokestatic 112, 3) := by decide +kernel
theorem dX3_tell_11 : decode cX3_tell 11 = .ok (.ifCond .eq 12, 3) := by decide +kernel
theorem dX3_tell_14 : decode cX3_tell 14 = .ok (.iload_n 3, 1) := by decide +kernel
theorem dX3_tell_15 : decode cX3_tell 15 = .ok (.iconst 0, 1) := by decide +kernel
theorem dX3_tell_16 : decode cX3_tell 16 = .ok (.iconst 3, 1) := by decide +kernel
theorem dX3_tell_17 : decode cX3_tell 17 = .ok (.invokestatic 44, 3) := by decide +kernel
theorem dX3_tell_20 : decode cX3_tell 20 = .ok (.ifCond .ne 6, 3) := by decide +kernel
theorem dX3_tell_23 : decode cX3_tell 23 = .ok (.ldc 107, 2) := by decide +kernel
theorem dX3_tell_25 : decode cX3_tell 25 = .ok (.ireturn, 1) := by decide +kernel
theorem dX3_tell_26 : decode cX3_tell 26 = .ok (.aload_n 0, 1) := by decide +kernel
theorem dX3_tell_27 : decode cX3_tell 27 = .ok (.iload_n 2, 1) := by decide +kernel
theorem dX3_tell_28 : decode cX3_tell 28 = .ok (.invokevirtual 119, 3) := by decide +kernel
theorem dX3_tell_31 : decode cX3_tell 31 = .ok (.istore 4, 2) := by decide +kernel
theorem dX3_tell_33 : decode cX3_tell 33 = .ok (.iload 4, 2) := by decide +kernel
theorem dX3_tell_35 : decode cX3_tell 35 = .ok (.ifCond .eq 10, 3) := by decide +kernel
theorem dX3_tell_38 : decode cX3_tell 38 = .ok (.aload_n 0, 1) := by decide +kernel
theorem dX3_tell_39 : decode cX3_tell 39 = .ok (.iload 4, 2) := by decide +kernel
theorem dX3_tell_41 : decode cX3_tell 41 = .ok (.invokevirtual 56, 3) := by decide +kernel
theorem dX3_tell_44 : decode cX3_tell 44 = .ok (.ireturn, 1) := by decide +kernel
theorem dX3_tell_45 : decode cX3_tell 45 = .ok (.aload_n 0, 1) := by decide +kernel
theorem dX3_tell_46 : decode cX3_tell 46 = .ok (.iload_n 2, 1) := by decide +kernel
theorem dX3_tell_47 : decode cX3_tell 47 = .ok (.invokevirtual 122, 3) := by decide +kernel
theorem dX3_tell_50 : decode cX3_tell 50 = .ok (.aload_n 0, 1) := by decide +kernel
theorem dX3_tell_51 : decode cX3_tell 51 = .ok (.iconst 0, 1) := by decide +kernel
theorem dX3_tell_52 : decode cX3_tell 52 = .ok (.putfield 125, 3) := by decide +kernel
theorem dX3_tell_55 : decode cX3_tell 55 = .ok (.iload_n 3, 1) := by decide +kernel
theorem dX3_tell_56 : decode cX3_tell 56 = .ok (.iconst 1, 1) := by decide +kernel
theorem dX3_tell_57 : decode cX3_tell 57 = .ok (.if_icmp .eq 8, 3) := by decide +kernel
theorem dX3_tell_60 : decode cX3_tell 60 = .ok (.iload_n 3, 1) := by decide +kernel
theorem dX3_tell_61 : decode cX3_tell 61 = .ok (.iconst 2, 1) := by decide +kernel
theorem dX3_tell_62 : decode cX3_tell 62 = .ok (.if_icmp .ne 104, 3) := by decide +kernel
theorem dX3_tell_65 : decode cX3_tell 65 = .ok (.iconst 0, 1) := by decide +kernel
theorem dX3_tell_66 : decode cX3_tell 66 = .ok (.istore 5, 2) := by decide +kernel
theorem dX3_tell_68 : decode cX3_tell 68 = .ok (.iload 5, 2) := by decide +kernel
theorem dX3_tell_70 : decode cX3_tell 70 = .ok (.aload_n 0, 1) := by decide +kernel
theorem dX3_tell_71 : decode cX3_tell 71 = .ok (.getfield 71, 3) := by decide +kernel
theorem dX3_tell_74 : decode cX3_tell 74 = .ok (.if_icmp .ge 77, 3) := by decide +kernel
theorem dX3_tell_77 : decode cX3_tell 77 = .ok (.aload_n 0, 1) := by decide +kernel
theorem dX3_tell_78 : decode cX3_tell 78 = .ok (.iload_n 3, 1) := by decide +kernel
theorem dX3_tell_79 : decode cX3_tell 79 = .ok (.iconst 1, 1) := by decide +kernel
theorem dX3_tell_80 : decode cX3_tell 80 = .ok (.if_icmp .ne 17, 3) := by decide +kernel
theorem dX3_tell_83 : decode cX3_tell 83 = .ok (.aload_n 0, 1) := by decide +kernel
theorem dX3_tell_84 : decode cX3_tell 84 = .ok (.getfield 35, 3) := by decide +kernel
theorem dX3_tell_87 : decode cX3_tell 87 = .ok (.iload 5, 2) := by decide +kernel
theorem dX3_tell_89 : decode cX3_tell 89 = .ok (.iaload, 1) := by decide +kernel
theorem dX3_tell_90 : decode cX3_tell 90 = .ok (.sipush 256, 3) := by decide +kernel
theorem dX3_tell_93 : decode cX3_tell 93 = .ok (.idiv, 1) := by decide +kernel
theorem dX3_tell_94 : decode cX3_tell 94 = .ok (.goto 14, 3) := by decide +kernel
theorem dX3_tell_97 : decode cX3_tell 97 = .ok (.aload_n 0, 1) := by decide +kernel
theorem dX3_tell_98 : decode cX3_tell 98 = .ok (.getfield 35, 3) := by decide +kernel
theorem dX3_tell_101 : decode cX3_tell 101 = .ok (.iload 5, 2) := by decide +kernel
theorem dX3_tell_103 : decode cX3_tell 103 = .ok (.iaload, 1) := by decide +kernel
theorem dX3_tell_104 : decode cX3_tell 104 = .ok (.sipush 256, 3) := by decide +kernel
theorem dX3_tell_107 : decode cX3_tell 107 = .ok (.irem, 1) := by decide +kernel
theorem dX3_tell_108 : decode cX3_tell 108 = .ok (.invokevirtual 128, 3) := by decide +kernel
theorem dX3_tell_111 : decode cX3_tell 111 = .ok (.aload_n 0, 1) := by decide +kernel
theorem dX3_tell_112 : decode cX3_tell 112 = .ok (.iload_n 3, 1) := by decide +kernel
theorem dX3_tell_113 : decode cX3_tell 113 = .ok (.iconst 1, 1) := by decide +kernel
theorem dX3_tell_114 : decode cX3_tell 114 = .ok (.if_icmp .ne 17, 3) := by decide +kernel
theorem dX3_tell_117 : decode cX3_tell 117 = .ok (.aload_n 0, 1) := by decide +kernel
theorem dX3_tell_118 : decode cX3_tell 118 = .ok (.getfield 35, 3) := by decide +kernel
theorem dX3_tell_121 : decode cX3_tell 121 = .ok (.iload 5, 2) := by decide +kernel
theorem dX3_tell_123 : decode cX3_tell 123 = .ok (.iaload, 1) := by decide +kernel
theorem dX3_tell_124 : decode cX3_tell 124 = .ok (.sipush 256, 3) := by decide +kernel
theorem dX3_tell_127 : decode cX3_tell 127 = .ok (.irem, 1) := by decide +kernel
theorem dX3_tell_128 : decode cX3_tell 128 = .ok (.goto 14, 3) := by decide +kernel
theorem dX3_tell_131 : decode cX3_tell 131 = .ok (.aload_n 0, 1) := by decide +kernel
theorem dX3_tell_132 : decode cX3_tell 132 = .ok (.getfield 35, 3) := by decide +kernel
theorem dX3_tell_135 : decode cX3_tell 135 = .ok (.iload 5, 2) := by decide +kernel
theorem dX3_tell_137 : decode cX3_tell 137 = .ok (.iaload, 1) := by decide +kernel
theorem dX3_tell_138 : decode cX3_tell 138 = .ok (.sipush 256, 3) := by decide +kernel
theorem dX3_tell_141 : decode cX3_tell 141 = .ok (.idiv, 1) := by decide +kernel
theorem dX3_tell_142 : decode cX3_tell 142 = .ok (.invokevirtual 128, 3) := by decide +kernel
theorem dX3_tell_145 : decode cX3_tell 145 = .ok (.iinc 5 1, 3) := by decide +kernel
theorem dX3_tell_148 : decode cX3_tell 148 = .ok (.goto (-80), 3) := by decide +kernel
theorem dX3_tell_151 : decode cX3_tell 151 = .ok (.aload_n 0, 1) := by decide +kernel
theorem dX3_tell_152 : decode cX3_tell 152 = .ok (.iload_n 1, 1) := by decide +kernel
theorem dX3_tell_153 : decode cX3_tell 153 = .ok (.iconst 2, 1) := by decide +kernel
theorem dX3_tell_154 : decode cX3_tell 154 = .ok (.aload_n 0, 1) := by decide +kernel
theorem dX3_tell_155 : decode cX3_tell 155 = .ok (.getfield 41, 3) := by decide +kernel
theorem dX3_tell_158 : decode cX3_tell 158 = .ok (.aload_n 0, 1) := by decide +kernel
theorem dX3_tell_159 : decode cX3_tell 159 = .ok (.getfield 125, 3) := by decide +kernel
theorem dX3_tell_162 : decode cX3_tell 162 = .ok (.invokevirtual 115, 3) := by decide +kernel
theorem dX3_tell_165 : decode cX3_tell 165 = .ok (.ireturn, 1) := by decide +kernel
theorem dX3_tell_166 : decode cX3_tell 166 = .ok (.iconst 0, 1) := by decide +kernel
theorem dX3_tell_167 : decode cX3_tell 167 = .ok (.istore 5, 2) := by decide +kernel
theorem dX3_tell_169 : decode cX3_tell 169 = .ok (.iload 5, 2) := by decide +kernel
theorem dX3_tell_171 : decode cX3_tell 171 = .ok (.aload_n 0, 1) := by decide +kernel
theorem dX3_tell_172 : decode cX3_tell 172 = .ok (.getfield 74, 3) := by decide +kernel
theorem dX3_tell_175 : decode cX3_tell 175 = .ok (.if_icmp .ge 75, 3) := by decide +kernel
theorem dX3_tell_178 : decode cX3_tell 178 = .ok (.aload_n 0, 1) := by decide +kernel
theorem dX3_tell_179 : decode cX3_tell 179 = .ok (.getfield 32, 3) := by decide +kernel
theorem dX3_tell_182 : decode cX3_tell 182 = .ok (.iload 5, 2) := by decide +kernel
theorem dX3_tell_184 : decode cX3_tell 184 = .ok (.iaload, 1) := by decide +kernel
theorem dX3_tell_185 : decode cX3_tell 185 = .ok (.istore 6, 2) := by decide +kernel
theorem dX3_tell_187 : decode cX3_tell 187 = .ok (.iload_n 3, 1) := by decide +kernel
theorem dX3_tell_188 : decode cX3_tell 188 = .ok (.ifCond .ne 22, 3) := by decide +kernel
theorem dX3_tell_191 : decode cX3_tell 191 = .ok (.iload 6, 2) := by decide +kernel
theorem dX3_tell_193 : decode cX3_tell 193 = .ok (.invokestatic 77, 3) := by decide +kernel
theorem dX3_tell_196 : decode cX3_tell 196 = .ok (.ifCond .ne 22, 3) := by decide +kernel
theorem dX3_tell_199 : decode cX3_tell 199 = .ok (.iload 6, 2) := by decide +kernel
theorem dX3_tell_201 : decode cX3_tell 201 = .ok (.invokestatic 81, 3) := by decide +kernel
theorem dX3_tell_204 : decode cX3_tell 204 = .ok (.ifCond .eq 21, 3) := by decide +kernel
theorem dX3_tell_207 : decode cX3_tell 207 = .ok (.goto 11, 3) := by decide +kernel
theorem dX3_tell_210 : decode cX3_tell 210 = .ok (.iload 6, 2) := by decide +kernel
theorem dX3_tell_212 : decode cX3_tell 212 = .ok (.sipush 255, 3) := by decide +kernel
theorem dX3_tell_215 : decode cX3_tell 215 = .ok (.if_icmp .le 10, 3) := by decide +kernel
theorem dX3_tell_218 : decode cX3_tell 218 = .ok (.aload_n 0, 1) := by decide +kernel
theorem dX3_tell_219 : decode cX3_tell 219 = .ok (.iload 5, 2) := by decide +kernel
theorem dX3_tell_221 : decode cX3_tell 221 = .ok (.invokevirtual 132, 3) := by decide +kernel
theorem dX3_tell_224 : decode cX3_tell 224 = .ok (.ireturn, 1) := by decide +kernel
theorem dX3_tell_225 : decode cX3_tell 225 = .ok (.iload_n 3, 1) := by decide +kernel
theorem dX3_tell_226 : decode cX3_tell 226 = .ok (.ifCond .ne 12, 3) := by decide +kernel
theorem dX3_tell_229 : decode cX3_tell 229 = .ok (.aload_n 0, 1) := by decide +kernel
theorem dX3_tell_230 : decode cX3_tell 230 = .ok (.iload 6, 2) := by decide +kernel
theorem dX3_tell_232 : decode cX3_tell 232 = .ok (.invokevirtual 135, 3) := by decide +kernel
theorem dX3_tell_235 : decode cX3_tell 235 = .ok (.goto 9, 3) := by decide +kernel
theorem dX3_tell_238 : decode cX3_tell 238 = .ok (.aload_n 0, 1) := by decide +kernel
theorem dX3_tell_239 : decode cX3_tell 239 = .ok (.iload 6, 2) := by decide +kernel
theorem dX3_tell_241 : decode cX3_tell 241 = .ok (.invokevirtual 128, 3) := by decide +kernel
theorem dX3_tell_244 : decode cX3_tell 244 = .ok (.iinc 5 1, 3) := by decide +kernel
theorem dX3_tell_247 : decode cX3_tell 247 = .ok (.goto (-78), 3) := by decide +kernel
theorem dX3_tell_250 : decode cX3_tell 250 = .ok (.aload_n 0, 1) := by decide +kernel
theorem dX3_tell_251 : decode cX3_tell 251 = .ok (.iload_n 1, 1) := by decide +kernel
theorem dX3_tell_252 : decode cX3_tell 252 = .ok (.iconst 2, 1) := by decide +kernel
theorem dX3_tell_253 : decode cX3_tell 253 = .ok (.aload_n 0, 1) := by decide +kernel
theorem dX3_tell_254 : decode cX3_tell 254 = .ok (.getfield 41, 3) := by decide +kernel
theorem dX3_tell_257 : decode cX3_tell 257 = .ok (.aload_n 0, 1) := by decide +kernel
theorem dX3_tell_258 : decode cX3_tell 258 = .ok (.getfield 125, 3) := by decide +kernel
theorem dX3_tell_261 : decode cX3_tell 261 = .ok (.invokevirtual 115, 3) := by decide +kernel
theorem dX3_tell_264 : decode cX3_tell 264 = .ok (.ireturn, 1) := by decide +kernel
set_option maxRecDepth 20000 in
theorem ggX3_longOf_X3_within : GoodIn wsX3_longOf wsX3_within := goodIn_r _ [4] (by decide +kernel) (by decide +kernel)
set_option maxRecDepth 20000 in
theorem gX3_longOf_X3_within : GoodIn wsX3_longOf (va_wsS RX3 44 yX3_within wsX3_within) := goodIn_app (goodIn_of _ (by decide +kernel)) ggX3_longOf_X3_within
theorem dX3_longOf_0 : decode cX3_longOf 0 = .ok (.iload_n 0, 1) := by decide +kernel
theorem dX3_longOf_1 : decode cX3_longOf 1 = .ok (.sipush 128, 3) := by decide +kernel
theorem dX3_longOf_4 : decode cX3_longOf 4 = .ok (.if_icmp .ge 7, 3) := by decide +kernel
theorem dX3_longOf_7 : decode cX3_longOf 7 = .ok (.iconst 1, 1) := by decide +kernel
theorem dX3_longOf_8 : decode cX3_longOf 8 = .ok (.goto 55, 3) := by decide +kernel
theorem dX3_longOf_11 : decode cX3_longOf 11 = .ok (.iload_n 0, 1) := by decide +kernel
theorem dX3_longOf_12 : decode cX3_longOf 12 = .ok (.sipush 194, 3) := by decide +kernel
theorem dX3_longOf_15 : decode cX3_longOf 15 = .ok (.sipush 223, 3) := by decide +kernel
theorem dX3_longOf_18 : decode cX3_longOf 18 = .ok (.invokestatic 44, 3) := by decide +kernel
theorem dX3_longOf_21 : decode cX3_longOf 21 = .ok (.ifCond .eq 7, 3) := by decide +kernel
theorem dX3_longOf_24 : decode cX3_longOf 24 = .ok (.iconst 2, 1) := by decide +kernel
theorem dX3_longOf_25 : decode cX3_longOf 25 = .ok (.goto 38, 3) := by decide +kernel
theorem dX3_longOf_28 : decode cX3_longOf 28 = .ok (.iload_n 0, 1) := by decide +kernel
theorem dX3_longOf_29 : decode cX3_longOf 29 = .ok (.sipush 224, 3) := by decide +kernel
theorem dX3_longOf_32 : decode cX3_longOf 32 = .ok (.sipush 239, 3) := by decide +kernel
theorem dX3_longOf_35 : decode cX3_longOf 35 = .ok (.invokestatic 44, 3) := by decide +kernel
theorem dX3_longOf_38 : decode cX3_longOf 38 = .ok (.ifCond .eq 7, 3) := by decide +kernel
theorem dX3_longOf_41 : decode cX3_longOf 41 = .ok (.iconst 3, 1) := by decide +kernel
theorem dX3_longOf_42 : decode cX3_longOf 42 = .ok (.goto 21, 3) := by decide +kernel
theorem dX3_longOf_45 : decode cX3_longOf 45 = .ok (.iload_n 0, 1) := by decide +kernel
theorem dX3_longOf_46 : decode cX3_longOf 46 = .ok (.sipush 240, 3) := by decide +kernel
theorem dX3_longOf_49 : decode cX3_longOf 49 = .ok (.sipush 244, 3) := by decide +kernel
theorem dX3_longOf_52 : decode cX3_longOf 52 = .ok (.invokestatic 44, 3) := by decide +kernel
theorem dX3_longOf_55 : decode cX3_longOf 55 = .ok (.ifCond .eq 7, 3) := by decide +kernel
theorem dX3_longOf_58 : decode cX3_longOf 58 = .ok (.iconst 4, 1) := by decide +kernel
theorem dX3_longOf_59 : decode cX3_longOf 59 = .ok (.goto 4, 3) := by decide +kernel
theorem dX3_longOf_62 : decode cX3_longOf 62 = .ok (.iconst 0, 1) := by decide +kernel
theorem dX3_longOf_63 : decode cX3_longOf 63 = .ok (.ireturn, 1) := by decide +kernel
set_option maxRecDepth 20000 in
theorem ggX3_pointFrom_X3_manyOf : GoodIn wsX3_pointFrom wsX3_manyOf := goodIn_r _ [7, 8, 9, 28, 29, 30, 31, 32, 33, 34, 35, 36, 37, 38, 39, 40, 41, 42, 43, 44, 45] (by decide +kernel) (by decide +kernel)
set_option maxRecDepth 20000 in
theorem gX3_pointFrom_X3_manyOf : GoodIn wsX3_pointFrom (wsV RX3 91 RX3 yX3_manyOf wsX3_manyOf) := goodIn_app (goodIn_of _ (by decide +kernel)) ggX3_pointFrom_X3_manyOf
set_option maxRecDepth 20000 in
theorem ggX3_pointFrom_X3_item : GoodIn wsX3_pointFrom wsX3_item := goodIn_r _ [13, 14, 9, 28, 29, 30, 31, 32, 33, 34, 35, 36, 37, 38, 39, 40, 41, 42, 43, 44, 45] (by decide +kernel) (by decide +kernel)
set_option maxRecDepth 20000 in
theorem gX3_pointFrom_X3_item : GoodIn wsX3_pointFrom (wsV RX3 94 RX3 yX3_item wsX3_item) := goodIn_app (goodIn_of _ (by decide +kernel)) ggX3_pointFrom_X3_item
set_option maxRecDepth 20000 in
theorem ggX3_pointFrom_X3_within : GoodIn wsX3_pointFrom wsX3_within := goodIn_r _ [17] (by decide +kernel) (by decide +kernel)
set_option maxRecDepth 20000 in
theorem gX3_pointFrom_X3_within : GoodIn wsX3_pointFrom (va_wsS RX3 44 yX3_within wsX3_within) := goodIn_app (goodIn_of _ (by decide +kernel)) ggX3_pointFrom_X3_within
set_option maxRecDepth 20000 in
theorem ggX3_pointFrom_X3_isHigh : GoodIn wsX3_pointFrom wsX3_isHigh := goodIn_r _ [20, 21, 22, 15, 16, 6, 17] (by decide +kernel) (by decide +kernel)
set_option maxRecDepth 20000 in
theorem gX3_pointFrom_X3_isHigh : GoodIn wsX3_pointFrom (va_wsS RX3 77 yX3_isHigh wsX3_isHigh) := goodIn_app (goodIn_of _ (by decide +kernel)) ggX3_pointFrom_X3_isHigh
set_option maxRecDepth 20000 in
theorem ggX3_pointFrom_X3_isLow : GoodIn wsX3_pointFrom wsX3_isLow := goodIn_r _ [25, 26, 27, 15, 16, 6, 17] (by decide +kernel) (by decide +kernel)
set_option maxRecDepth 20000 in
theorem gX3_pointFrom_X3_isLow : GoodIn wsX3_pointFrom (va_wsS RX3 81 yX3_isLow wsX3_isLow) := goodIn_app (goodIn_of _ (by decide +kernel)) ggX3_pointFrom_X3_isLow
theorem dX3_pointFrom_0 : decode cX3_pointFrom 0 = .ok (.iload_n 3, 1) := by decide +kernel
theorem dX3_pointFrom_1 : decode cX3_pointFrom 1 = .ok (.ifCond .eq 14, 3) := by decide +kernel
theorem dX3_pointFrom_4 : decode cX3_pointFrom 4 = .ok (.iload_n 2, 1) := by decide +kernel
theorem dX3_pointFrom_5 : decode cX3_pointFrom 5 = .ok (.iload_n 3, 1) := by decide +kernel
theorem dX3_pointFrom_6 : decode cX3_pointFrom 6 = .ok (.iadd, 1) := by decide +kernel
theorem dX3_pointFrom_7 : decode cX3_pointFrom 7 = .ok (.aload_n 0, 1) := by decide +kernel
theorem dX3_pointFrom_8 : decode cX3_pointFrom 8 = .ok (.iload_n 1, 1) := by decide +kernel
theorem dX3_pointFrom_9 : decode cX3_pointFrom 9 = .ok (.invokevirtual 91, 3) := by decide +kernel
theorem dX3_pointFrom_12 : decode cX3_pointFrom 12 = .ok (.if_icmp .le 5, 3) := by decide +kernel
theorem dX3_pointFrom_15 : decode cX3_pointFrom 15 = .ok (.iconst (-1), 1) := by decide +kernel
theorem dX3_pointFrom_16 : decode cX3_pointFrom 16 = .ok (.ireturn, 1) := by decide +kernel
theorem dX3_pointFrom_17 : decode cX3_pointFrom 17 = .ok (.aload_n 0, 1) := by decide +kernel
theorem dX3_pointFrom_18 : decode cX3_pointFrom 18 = .ok (.iload_n 1, 1) := by decide +kernel
theorem dX3_pointFrom_19 : decode cX3_pointFrom 19 = .ok (.iload_n 2, 1) := by decide +kernel
theorem dX3_pointFrom_20 : decode cX3_pointFrom 20 = .ok (.invokevirtual 94, 3) := by decide +kernel
theorem dX3_pointFrom_23 : decode cX3_pointFrom 23 = .ok (.istore 4, 2) := by decide +kernel
theorem dX3_pointFrom_25 : decode cX3_pointFrom 25 = .ok (.iload_n 3, 1) := by decide +kernel
theorem dX3_pointFrom_26 : decode cX3_pointFrom 26 = .ok (.iconst 1, 1) := by decide +kernel
theorem dX3_pointFrom_27 : decode cX3_pointFrom 27 = .ok (.if_icmp .ne 8, 3) := by decide +kernel
theorem dX3_pointFrom_30 : decode cX3_pointFrom 30 = .ok (.iload 4, 2) := by decide +kernel
theorem dX3_pointFrom_32 : decode cX3_pointFrom 32 = .ok (.goto 37, 3) := by decide +kernel
theorem dX3_pointFrom_35 : decode cX3_pointFrom 35 = .ok (.iload_n 3, 1) := by decide +kernel
theorem dX3_pointFrom_36 : decode cX3_pointFrom 36 = .ok (.iconst 2, 1) := by decide +kernel
theorem dX3_pointFrom_37 : decode cX3_pointFrom 37 = .ok (.if_icmp .ne 12, 3) := by decide +kernel
theorem dX3_pointFrom_40 : decode cX3_pointFrom 40 = .ok (.iload 4, 2) := by decide +kernel
theorem dX3_pointFrom_42 : decode cX3_pointFrom 42 = .ok (.sipush 192, 3) := by decide +kernel
theorem dX3_pointFrom_45 : decode cX3_pointFrom 45 = .ok (.isub, 1) := by decide +kernel
theorem dX3_pointFrom_46 : decode cX3_pointFrom 46 = .ok (.goto 23, 3) := by decide +kernel
theorem dX3_pointFrom_49 : decode cX3_pointFrom 49 = .ok (.iload_n 3, 1) := by decide +kernel
theorem dX3_pointFrom_50 : decode cX3_pointFrom 50 = .ok (.iconst 3, 1) := by decide +kernel
theorem dX3_pointFrom_51 : decode cX3_pointFrom 51 = .ok (.if_icmp .ne 12, 3) := by decide +kernel
theorem dX3_pointFrom_54 : decode cX3_pointFrom 54 = .ok (.iload 4, 2) := by decide +kernel
theorem dX3_pointFrom_56 : decode cX3_pointFrom 56 = .ok (.sipush 224, 3) := by decide +kernel
theorem dX3_pointFrom_59 : decode cX3_pointFrom 59 = .ok (.isub, 1) := by decide +kernel
theorem dX3_pointFrom_60 : decode cX3_pointFrom 60 = .ok (.goto 9, 3) := by decide +kernel
theorem dX3_pointFrom_63 : decode cX3_pointFrom 63 = .ok (.iload 4, 2) := by decide +kernel
theorem dX3_pointFrom_65 : decode cX3_pointFrom 65 = .ok (.sipush 240, 3) := by decide +kernel
theorem dX3_pointFrom_68 : decode cX3_pointFrom 68 = .ok (.isub, 1) := by decide +kernel
theorem dX3_pointFrom_69 : decode cX3_pointFrom 69 = .ok (.istore 5, 2) := by decide +kernel
theorem dX3_pointFrom_71 : decode cX3_pointFrom 71 = .ok (.iconst 1, 1) := by decide +kernel
theorem dX3_pointFrom_72 : decode cX3_pointFrom 72 = .ok (.istore 6, 2) := by decide +kernel
theorem dX3_pointFrom_74 : decode cX3_pointFrom 74 = .ok (.iload 6, 2) := by decide +kernel
theorem dX3_pointFrom_76 : decode cX3_pointFrom 76 = .ok (.iload_n 3, 1) := by decide +kernel
theorem dX3_pointFrom_77 : decode cX3_pointFrom 77 = .ok (.if_icmp .ge 50, 3) := by decide +kernel
theorem dX3_pointFrom_80 : decode cX3_pointFrom 80 = .ok (.aload_n 0, 1) := by decide +kernel
theorem dX3_pointFrom_81 : decode cX3_pointFrom 81 = .ok (.iload_n 1, 1) := by decide +kernel
theorem dX3_pointFrom_82 : decode cX3_pointFrom 82 = .ok (.iload_n 2, 1) := by decide +kernel
theorem dX3_pointFrom_83 : decode cX3_pointFrom 83 = .ok (.iload 6, 2) := by decide +kernel
theorem dX3_pointFrom_85 : decode cX3_pointFrom 85 = .ok (.iadd, 1) := by decide +kernel
theorem dX3_pointFrom_86 : decode cX3_pointFrom 86 = .ok (.invokevirtual 94, 3) := by decide +kernel
theorem dX3_pointFrom_89 : decode cX3_pointFrom 89 = .ok (.istore 7, 2) := by decide +kernel
theorem dX3_pointFrom_91 : decode cX3_pointFrom 91 = .ok (.iload 7, 2) := by decide +kernel
theorem dX3_pointFrom_93 : decode cX3_pointFrom 93 = .ok (.sipush 128, 3) := by decide +kernel
theorem dX3_pointFrom_96 : decode cX3_pointFrom 96 = .ok (.sipush 191, 3) := by decide +kernel
theorem dX3_pointFrom_99 : decode cX3_pointFrom 99 = .ok (.invokestatic 44, 3) := by decide +kernel
theorem dX3_pointFrom_102 : decode cX3_pointFrom 102 = .ok (.ifCond .ne 5, 3) := by decide +kernel
theorem dX3_pointFrom_105 : decode cX3_pointFrom 105 = .ok (.iconst (-1), 1) := by decide +kernel
theorem dX3_pointFrom_106 : decode cX3_pointFrom 106 = .ok (.ireturn, 1) := by decide +kernel
theorem dX3_pointFrom_107 : decode cX3_pointFrom 107 = .ok (.bipush 64, 2) := by decide +kernel
theorem dX3_pointFrom_109 : decode cX3_pointFrom 109 = .ok (.iload 5, 2) := by decide +kernel
theorem dX3_pointFrom_111 : decode cX3_pointFrom 111 = .ok (.imul, 1) := by decide +kernel
theorem dX3_pointFrom_112 : decode cX3_pointFrom 112 = .ok (.iload 7, 2) := by decide +kernel
theorem dX3_pointFrom_114 : decode cX3_pointFrom 114 = .ok (.iadd, 1) := by decide +kernel
theorem dX3_pointFrom_115 : decode cX3_pointFrom 115 = .ok (.sipush 128, 3) := by decide +kernel
theorem dX3_pointFrom_118 : decode cX3_pointFrom 118 = .ok (.isub, 1) := by decide +kernel
theorem dX3_pointFrom_119 : decode cX3_pointFrom 119 = .ok (.istore 5, 2) := by decide +kernel
theorem dX3_pointFrom_121 : decode cX3_pointFrom 121 = .ok (.iinc 6 1, 3) := by decide +kernel
theorem dX3_pointFrom_124 : decode cX3_pointFrom 124 = .ok (.goto (-50), 3) := by decide +kernel
theorem dX3_pointFrom_127 : decode cX3_pointFrom 127 = .ok (.iload_n 3, 1) := by decide +kernel
theorem dX3_pointFrom_128 : decode cX3_pointFrom 128 = .ok (.iconst 3, 1) := by decide +kernel
theorem dX3_pointFrom_129 : decode cX3_pointFrom 129 = .ok (.if_icmp .lt 49, 3) := by decide +kernel
theorem dX3_pointFrom_132 : decode cX3_pointFrom 132 = .ok (.iload_n 3, 1) := by decide +kernel
theorem dX3_pointFrom_133 : decode cX3_pointFrom 133 = .ok (.iconst 3, 1) := by decide +kernel
theorem dX3_pointFrom_134 : decode cX3_pointFrom 134 = .ok (.if_icmp .ne 27, 3) := by decide +kernel
theorem dX3_pointFrom_137 : decode cX3_pointFrom 137 = .ok (.iload 5, 2) := by decide +kernel
theorem dX3_pointFrom_139 : decode cX3_pointFrom 139 = .ok (.sipush 2048, 3) := by decide +kernel
theorem dX3_pointFrom_142 : decode cX3_pointFrom 142 = .ok (.if_icmp .lt 19, 3) := by decide +kernel
theorem dX3_pointFrom_145 : decode cX3_pointFrom 145 = .ok (.iload 5, 2) := by decide +kernel
theorem dX3_pointFrom_147 : decode cX3_pointFrom 147 = .ok (.invokestatic 77, 3) := by decide +kernel
theorem dX3_pointFrom_150 : decode cX3_pointFrom 150 = .ok (.ifCond .ne 11, 3) := by decide +kernel
theorem dX3_pointFrom_153 : decode cX3_pointFrom 153 = .ok (.iload 5, 2) := by decide +kernel
theorem dX3_pointFrom_155 : decode cX3_pointFrom 155 = .ok (.invokestatic 81, 3) := by decide +kernel
theorem dX3_pointFrom_158 : decode cX3_pointFrom 158 = .ok (.ifCond .eq 20, 3) := by decide +kernel
theorem dX3_pointFrom_161 : decode cX3_pointFrom 161 = .ok (.iload_n 3, 1) := by decide +kernel
theorem dX3_pointFrom_162 : decode cX3_pointFrom 162 = .ok (.iconst 4, 1) := by decide +kernel
theorem dX3_pointFrom_163 : decode cX3_pointFrom 163 = .ok (.if_icmp .ne 19, 3) := by decide +kernel
theorem dX3_pointFrom_166 : decode cX3_pointFrom 166 = .ok (.iload 5, 2) := by decide +kernel
theorem dX3_pointFrom_168 : decode cX3_pointFrom 168 = .ok (.ldc 70, 2) := by decide +kernel
theorem dX3_pointFrom_170 : decode cX3_pointFrom 170 = .ok (.ldc 48, 2) := by decide +kernel
theorem dX3_pointFrom_172 : decode cX3_pointFrom 172 = .ok (.invokestatic 44, 3) := by decide +kernel
theorem dX3_pointFrom_175 : decode cX3_pointFrom 175 = .ok (.ifCond .eq 7, 3) := by decide +kernel
theorem dX3_pointFrom_178 : decode cX3_pointFrom 178 = .ok (.iconst 1, 1) := by decide +kernel
theorem dX3_pointFrom_179 : decode cX3_pointFrom 179 = .ok (.goto 4, 3) := by decide +kernel
theorem dX3_pointFrom_182 : decode cX3_pointFrom 182 = .ok (.iconst 0, 1) := by decide +kernel
theorem dX3_pointFrom_183 : decode cX3_pointFrom 183 = .ok (.istore 6, 2) := by decide +kernel
theorem dX3_pointFrom_185 : decode cX3_pointFrom 185 = .ok (.iload 6, 2) := by decide +kernel
theorem dX3_pointFrom_187 : decode cX3_pointFrom 187 = .ok (.ifCond .eq 8, 3) := by decide +kernel
theorem dX3_pointFrom_190 : decode cX3_pointFrom 190 = .ok (.iload 5, 2) := by decide +kernel
theorem dX3_pointFrom_192 : decode cX3_pointFrom 192 = .ok (.goto 4, 3) := by decide +kernel
theorem dX3_pointFrom_195 : decode cX3_pointFrom 195 = .ok (.iconst (-1), 1) := by decide +kernel
theorem dX3_pointFrom_196 : decode cX3_pointFrom 196 = .ok (.ireturn, 1) := by decide +kernel
set_option maxRecDepth 20000 in
theorem ggX3_read_X3_isText : GoodIn wsX3_read wsX3_isText := goodIn_r _ [7, 8, 9, 6, 10] (by decide +kernel) (by decide +kernel)
set_option maxRecDepth 20000 in
theorem gX3_read_X3_isText : GoodIn wsX3_read (va_wsS RX3 112 yX3_isText wsX3_isText) := goodIn_app (goodIn_of _ (by decide +kernel)) ggX3_read_X3_isText
set_option maxRecDepth 20000 in
theorem ggX3_read_X3_within : GoodIn wsX3_read wsX3_within := goodIn_r _ [10] (by decide +kernel) (by decide +kernel)
set_option maxRecDepth 20000 in
theorem gX3_read_X3_within : GoodIn wsX3_read (va_wsS RX3 44 yX3_within wsX3_within) := goodIn_app (goodIn_of _ (by decide +kernel)) ggX3_read_X3_within
set_option maxRecDepth 20000 in
theorem ggX3_read_X3_sortOf : GoodIn wsX3_read wsX3_sortOf := goodIn_r _ [14, 15, 16, 74, 75, 76, 77, 78, 79, 80, 81, 82, 83, 84, 85, 86, 87, 88, 89, 90, 91] (by decide +kernel) (by decide +kernel)
set_option maxRecDepth 20000 in
theorem gX3_read_X3_sortOf : GoodIn wsX3_read (wsV RX3 88 RX3 yX3_sortOf wsX3_sortOf) := goodIn_app (goodIn_of _ (by decide +kernel)) ggX3_read_X3_sortOf
set_option maxRecDepth 20000 in
theorem ggX3_read_X3_no : GoodIn wsX3_read wsX3_no := goodIn_r _ [20, 21, 74, 75, 76, 77, 78, 79, 80, 81, 82, 83, 84, 85, 86, 87, 88, 89, 90, 91] (by decide +kernel) (by decide +kernel)
set_option maxRecDepth 20000 in
theorem gX3_read_X3_no : GoodIn wsX3_read (wsV RX3 56 RX3 yX3_no wsX3_no) := goodIn_app (goodIn_of _ (by decide +kernel)) ggX3_read_X3_no
set_option maxRecDepth 20000 in
theorem ggX3_read_X3_manyOf : GoodIn wsX3_read wsX3_manyOf := goodIn_r _ [25, 26, 15, 74, 75, 76, 77, 78, 79, 80, 81, 82, 83, 84, 85, 86, 87, 88, 89, 90, 91] (by decide +kernel) (by decide +kernel)
set_option maxRecDepth 20000 in
theorem gX3_read_X3_manyOf : GoodIn wsX3_read (wsV RX3 91 RX3 yX3_manyOf wsX3_manyOf) := goodIn_app (goodIn_of _ (by decide +kernel)) ggX3_read_X3_manyOf
set_option maxRecDepth 20000 in
theorem ggX3_read_X3_item : GoodIn wsX3_read wsX3_item := goodIn_r _ [30, 31, 15, 74, 75, 76, 77, 78, 79, 80, 81, 82, 83, 84, 85, 86, 87, 88, 89, 90, 91] (by decide +kernel) (by decide +kernel)
set_option maxRecDepth 20000 in
theorem gX3_read_X3_item : GoodIn wsX3_read (wsV RX3 94 RX3 yX3_item wsX3_item) := goodIn_app (goodIn_of _ (by decide +kernel)) ggX3_read_X3_item
set_option maxRecDepth 20000 in
theorem ggX3_read_X3_longOf : GoodIn wsX3_read wsX3_longOf := goodIn_r _ [34, 8, 9, 6, 10] (by decide +kernel) (by decide +kernel)
set_option maxRecDepth 20000 in
theorem gX3_read_X3_longOf : GoodIn wsX3_read (va_wsS RX3 138 yX3_longOf wsX3_longOf) := goodIn_app (goodIn_of _ (by decide +kernel)) ggX3_read_X3_longOf
set_option maxRecDepth 20000 in
theorem ggX3_read_X3_pointFrom : GoodIn wsX3_read wsX3_pointFrom := goodIn_r _ [38, 39, 40, 22, 23, 24, 6, 25, 26, 15, 27, 28, 29, 30, 31, 8, 9, 10, 41, 42, 43, 44, 45, 46, 47, 48, 49, 50, 74, 75, 76, 77, 78, 79, 80, 81, 82, 83, 84, 85, 86, 87, 88, 89, 90, 91] (by decide +kernel) (by decide +kernel)
set_option maxRecDepth 20000 in
theorem gX3_read_X3_pointFrom : GoodIn wsX3_read (wsV RX3 141 RX3 yX3_pointFrom wsX3_pointFrom) := goodIn_app (goodIn_of _ (by decide +kernel)) ggX3_read_X3_pointFrom
set_option maxRecDepth 20000 in
theorem ggX3_read_X3_breaks : GoodIn wsX3_read wsX3_breaks := goodIn_r _ [54, 55, 17, 18, 19, 6, 20, 21, 74, 75, 76, 77, 78, 79, 80, 81, 82, 83, 84, 85, 86, 87, 88, 89, 90, 91] (by decide +kernel) (by decide +kernel)
set_option maxRecDepth 20000 in
theorem gX3_read_X3_breaks : GoodIn wsX3_read (wsV RX3 132 RX3 yX3_breaks wsX3_breaks) := goodIn_app (goodIn_of _ (by decide +kernel)) ggX3_read_X3_breaks
set_option maxRecDepth 20000 in
theorem ggX3_read_X3_addUnits : GoodIn wsX3_read wsX3_addUnits := goodIn_r _ [59, 39, 3, 2, 44, 49, 74, 75, 76, 77, 78, 79, 80, 81, 82, 83, 84, 85, 86, 87, 88, 89, 90, 91] (by decide +kernel) (by decide +kernel)
set_option maxRecDepth 20000 in
theorem gX3_read_X3_addUnits : GoodIn wsX3_read (wsV RX3 84 RX3 yX3_addUnits wsX3_addUnits) := goodIn_app (goodIn_of _ (by decide +kernel)) ggX3_read_X3_addUnits
set_option maxRecDepth 20000 in
theorem ggX3_read_X3_become : GoodIn wsX3_read wsX3_become := goodIn_r _ [63, 16, 26, 31, 15, 64, 65, 66, 6, 67, 68, 69, 70, 71, 72, 73, 21, 74, 75, 76, 77, 78, 79, 80, 81, 82, 83, 84, 85, 86, 87, 88, 89, 90, 91] (by decide +kernel) (by decide +kernel)
set_option maxRecDepth 20000 in
theorem gX3_read_X3_become : GoodIn wsX3_read (wsV RX3 115 RX3 yX3_become wsX3_become) := goodIn_app (goodIn_of _ (by decide +kernel)) ggX3_read_X3_become
theorem dX3_read_0 : decode cX3_read 0 = .ok (.iload_n 1, 1) := by decide +kernel
theorem dX3_read_1 : decode cX3_read 1 = .ok (.invokestatic 112, 3) := by decide +kernel
theorem dX3_read_4 : decode cX3_read 4 = .ok (.ifCond .eq 19, 3) := by decide +kernel
theorem dX3_read_7 : decode cX3_read 7 = .ok (.iload_n 2, 1) := by decide +kernel
theorem dX3_read_8 : decode cX3_read 8 = .ok (.invokestatic 112, 3) := by decide +kernel
theorem dX3_read_11 : decode cX3_read 11 = .ok (.ifCond .eq 12, 3) := by decide +kernel
theorem dX3_read_14 : decode cX3_read 14 = .ok (.iload_n 3, 1) := by decide +kernel
theorem dX3_read_15 : decode cX3_read 15 = .ok (.iconst 0, 1) := by decide +kernel
theorem dX3_read_16 : decode cX3_read 16 = .ok (.iconst 3, 1) := by decide +kernel
theorem dX3_read_17 : decode cX3_read 17 = .ok (.invokestatic 44, 3) := by decide +kernel
theorem dX3_read_20 : decode cX3_read 20 = .ok (.ifCond .ne 6, 3) := by decide +kernel
theorem dX3_read_23 : decode cX3_read 23 = .ok (.ldc 107, 2) := by decide +kernel
theorem dX3_read_25 : decode cX3_read 25 = .ok (.ireturn, 1) := by decide +kernel
theorem dX3_read_26 : decode cX3_read 26 = .ok (.aload_n 0, 1) := by decide +kernel
theorem dX3_read_27 : decode cX3_read 27 = .ok (.iload_n 2, 1) := by decide +kernel
theorem dX3_read_28 : decode cX3_read 28 = .ok (.invokevirtual 88, 3) := by decide +kernel
theorem dX3_read_31 : decode cX3_read 31 = .ok (.iconst 2, 1) := by decide +kernel
theorem dX3_read_32 : decode cX3_read 32 = .ok (.if_icmp .eq 22, 3) := by decide +kernel
theorem dX3_read_35 : decode cX3_read 35 = .ok (.aload_n 0, 1) := by decide +kernel
theorem dX3_read_36 : decode cX3_read 36 = .ok (.aload_n 0, 1) := by decide +kernel
theorem dX3_read_37 : decode cX3_read 37 = .ok (.iload_n 2, 1) := by decide +kernel
theorem dX3_read_38 : decode cX3_read 38 = .ok (.invokevirtual 88, 3) := by decide +kernel
theorem dX3_read_41 : decode cX3_read 41 = .ok (.iconst (-1), 1) := by decide +kernel
theorem dX3_read_42 : decode cX3_read 42 = .ok (.if_icmp .ne 7, 3) := by decide +kernel
theorem dX3_read_45 : decode cX3_read 45 = .ok (.iconst 1, 1) := by decide +kernel
theorem dX3_read_46 : decode cX3_read 46 = .ok (.goto 4, 3) := by decide +kernel
theorem dX3_read_49 : decode cX3_read 49 = .ok (.iconst 2, 1) := by decide +kernel
theorem dX3_read_50 : decode cX3_read 50 = .ok (.invokevirtual 56, 3) := by decide +kernel
theorem dX3_read_53 : decode cX3_read 53 = .ok (.ireturn, 1) := by decide +kernel
theorem dX3_read_54 : decode cX3_read 54 = .ok (.aload_n 0, 1) := by decide +kernel
theorem dX3_read_55 : decode cX3_read 55 = .ok (.iload_n 2, 1) := by decide +kernel
theorem dX3_read_56 : decode cX3_read 56 = .ok (.invokevirtual 91, 3) := by decide +kernel
theorem dX3_read_59 : decode cX3_read 59 = .ok (.istore 4, 2) := by decide +kernel
theorem dX3_read_61 : decode cX3_read 61 = .ok (.aload_n 0, 1) := by decide +kernel
theorem dX3_read_62 : decode cX3_read 62 = .ok (.iconst 0, 1) := by decide +kernel
theorem dX3_read_63 : decode cX3_read 63 = .ok (.putfield 71, 3) := by decide +kernel
theorem dX3_read_66 : decode cX3_read 66 = .ok (.iconst 0, 1) := by decide +kernel
theorem dX3_read_67 : decode cX3_read 67 = .ok (.istore 5, 2) := by decide +kernel
theorem dX3_read_69 : decode cX3_read 69 = .ok (.iload 5, 2) := by decide +kernel
theorem dX3_read_71 : decode cX3_read 71 = .ok (.iload 4, 2) := by decide +kernel
theorem dX3_read_73 : decode cX3_read 73 = .ok (.if_icmp .ge 162, 3) := by decide +kernel
theorem dX3_read_76 : decode cX3_read 76 = .ok (.aload_n 0, 1) := by decide +kernel
theorem dX3_read_77 : decode cX3_read 77 = .ok (.iload_n 2, 1) := by decide +kernel
theorem dX3_read_78 : decode cX3_read 78 = .ok (.iload 5, 2) := by decide +kernel
theorem dX3_read_80 : decode cX3_read 80 = .ok (.invokevirtual 94, 3) := by decide +kernel
theorem dX3_read_83 : decode cX3_read 83 = .ok (.istore 6, 2) := by decide +kernel
theorem dX3_read_85 : decode cX3_read 85 = .ok (.iload_n 3, 1) := by decide +kernel
theorem dX3_read_86 : decode cX3_read 86 = .ok (.ifCond .ne 11, 3) := by decide +kernel
theorem dX3_read_89 : decode cX3_read 89 = .ok (.iload 6, 2) := by decide +kernel
theorem dX3_read_91 : decode cX3_read 91 = .ok (.invokestatic 138, 3) := by decide +kernel
theorem dX3_read_94 : decode cX3_read 94 = .ok (.goto 13, 3) := by decide +kernel
theorem dX3_read_97 : decode cX3_read 97 = .ok (.iload_n 3, 1) := by decide +kernel
theorem dX3_read_98 : decode cX3_read 98 = .ok (.iconst 3, 1) := by decide +kernel
theorem dX3_read_99 : decode cX3_read 99 = .ok (.if_icmp .ne 7, 3) := by decide +kernel
theorem dX3_read_102 : decode cX3_read 102 = .ok (.iconst 1, 1) := by decide +kernel
theorem dX3_read_103 : decode cX3_read 103 = .ok (.goto 4, 3) := by decide +kernel
theorem dX3_read_106 : decode cX3_read 106 = .ok (.iconst 2, 1) := by decide +kernel
theorem dX3_read_107 : decode cX3_read 107 = .ok (.istore 7, 2) := by decide +kernel
theorem dX3_read_109 : decode cX3_read 109 = .ok (.iload_n 3, 1) := by decide +kernel
theorem dX3_read_110 : decode cX3_read 110 = .ok (.ifCond .ne 15, 3) := by decide +kernel
theorem dX3_read_113 : decode cX3_read 113 = .ok (.aload_n 0, 1) := by decide +kernel
theorem dX3_read_114 : decode cX3_read 114 = .ok (.iload_n 2, 1) := by decide +kernel
theorem dX3_read_115 : decode cX3_read 115 = .ok (.iload 5, 2) := by decide +kernel
theorem dX3_read_117 : decode cX3_read 117 = .ok (.iload 7, 2) := by decide +kernel
theorem dX3_read_119 : decode cX3_read 119 = .ok (.invokevirtual 141, 3) := by decide +kernel
theorem dX3_read_122 : decode cX3_read 122 = .ok (.goto 66, 3) := by decide +kernel
theorem dX3_read_125 : decode cX3_read 125 = .ok (.iload_n 3, 1) := by decide +kernel
theorem dX3_read_126 : decode cX3_read 126 = .ok (.iconst 3, 1) := by decide +kernel
theorem dX3_read_127 : decode cX3_read 127 = .ok (.if_icmp .ne 8, 3) := by decide +kernel
theorem dX3_read_130 : decode cX3_read 130 = .ok (.iload 6, 2) := by decide +kernel
theorem dX3_read_132 : decode cX3_read 132 = .ok (.goto 56, 3) := by decide +kernel
theorem dX3_read_135 : decode cX3_read 135 = .ok (.iload 5, 2) := by decide +kernel
theorem dX3_read_137 : decode cX3_read 137 = .ok (.iconst 1, 1) := by decide +kernel
theorem dX3_read_138 : decode cX3_read 138 = .ok (.iadd, 1) := by decide +kernel
theorem dX3_read_139 : decode cX3_read 139 = .ok (.iload 4, 2) := by decide +kernel
theorem dX3_read_141 : decode cX3_read 141 = .ok (.if_icmp .ne 7, 3) := by decide +kernel
theorem dX3_read_144 : decode cX3_read 144 = .ok (.iconst (-1), 1) := by decide +kernel
theorem dX3_read_145 : decode cX3_read 145 = .ok (.goto 43, 3) := by decide +kernel
theorem dX3_read_148 : decode cX3_read 148 = .ok (.iload_n 3, 1) := by decide +kernel
theorem dX3_read_149 : decode cX3_read 149 = .ok (.iconst 1, 1) := by decide +kernel
theorem dX3_read_150 : decode cX3_read 150 = .ok (.if_icmp .ne 22, 3) := by decide +kernel
theorem dX3_read_153 : decode cX3_read 153 = .ok (.sipush 256, 3) := by decide +kernel
theorem dX3_read_156 : decode cX3_read 156 = .ok (.iload 6, 2) := by decide +kernel
theorem dX3_read_158 : decode cX3_read 158 = .ok (.imul, 1) := by decide +kernel
theorem dX3_read_159 : decode cX3_read 159 = .ok (.aload_n 0, 1) := by decide +kernel
theorem dX3_read_160 : decode cX3_read 160 = .ok (.iload_n 2, 1) := by decide +kernel
theorem dX3_read_161 : decode cX3_read 161 = .ok (.iload 5, 2) := by decide +kernel
theorem dX3_read_163 : decode cX3_read 163 = .ok (.iconst 1, 1) := by decide +kernel
theorem dX3_read_164 : decode cX3_read 164 = .ok (.iadd, 1) := by decide +kernel
theorem dX3_read_165 : decode cX3_read 165 = .ok (.invokevirtual 94, 3) := by decide +kernel
theorem dX3_read_168 : decode cX3_read 168 = .ok (.iadd, 1) := by decide +kernel
theorem dX3_read_169 : decode cX3_read 169 = .ok (.goto 19, 3) := by decide +kernel
theorem dX3_read_172 : decode cX3_read 172 = .ok (.iload 6, 2) := by decide +kernel
theorem dX3_read_174 : decode cX3_read 174 = .ok (.sipush 256, 3) := by decide +kernel
theorem dX3_read_177 : decode cX3_read 177 = .ok (.aload_n 0, 1) := by decide +kernel
theorem dX3_read_178 : decode cX3_read 178 = .ok (.iload_n 2, 1) := by decide +kernel
theorem dX3_read_179 : decode cX3_read 179 = .ok (.iload 5, 2) := by decide +kernel
theorem dX3_read_181 : decode cX3_read 181 = .ok (.iconst 1, 1) := by decide +kernel
theorem dX3_read_182 : decode cX3_read 182 = .ok (.iadd, 1) := by decide +kernel
theorem dX3_read_183 : decode cX3_read 183 = .ok (.invokevirtual 94, 3) := by decide +kernel
theorem dX3_read_186 : decode cX3_read 186 = .ok (.imul, 1) := by decide +kernel
theorem dX3_read_187 : decode cX3_read 187 = .ok (.iadd, 1) := by decide +kernel
theorem dX3_read_188 : decode cX3_read 188 = .ok (.istore 8, 2) := by decide +kernel
theorem dX3_read_190 : decode cX3_read 190 = .ok (.iload 8, 2) := by decide +kernel
theorem dX3_read_192 : decode cX3_read 192 = .ok (.iconst (-1), 1) := by decide +kernel
theorem dX3_read_193 : decode cX3_read 193 = .ok (.if_icmp .ne 10, 3) := by decide +kernel
theorem dX3_read_196 : decode cX3_read 196 = .ok (.aload_n 0, 1) := by decide +kernel
theorem dX3_read_197 : decode cX3_read 197 = .ok (.iload 5, 2) := by decide +kernel
theorem dX3_read_199 : decode cX3_read 199 = .ok (.invokevirtual 132, 3) := by decide +kernel
theorem dX3_read_202 : decode cX3_read 202 = .ok (.ireturn, 1) := by decide +kernel
theorem dX3_read_203 : decode cX3_read 203 = .ok (.aload_n 0, 1) := by decide +kernel
theorem dX3_read_204 : decode cX3_read 204 = .ok (.iload 8, 2) := by decide +kernel
theorem dX3_read_206 : decode cX3_read 206 = .ok (.invokevirtual 84, 3) := by decide +kernel
theorem dX3_read_209 : decode cX3_read 209 = .ok (.aload_n 0, 1) := by decide +kernel
theorem dX3_read_210 : decode cX3_read 210 = .ok (.getfield 71, 3) := by decide +kernel
theorem dX3_read_213 : decode cX3_read 213 = .ok (.bipush 60, 2) := by decide +kernel
theorem dX3_read_215 : decode cX3_read 215 = .ok (.if_icmp .le 10, 3) := by decide +kernel
theorem dX3_read_218 : decode cX3_read 218 = .ok (.aload_n 0, 1) := by decide +kernel
theorem dX3_read_219 : decode cX3_read 219 = .ok (.bipush 6, 2) := by decide +kernel
theorem dX3_read_221 : decode cX3_read 221 = .ok (.invokevirtual 56, 3) := by decide +kernel
theorem dX3_read_224 : decode cX3_read 224 = .ok (.ireturn, 1) := by decide +kernel
theorem dX3_read_225 : decode cX3_read 225 = .ok (.iload 5, 2) := by decide +kernel
theorem dX3_read_227 : decode cX3_read 227 = .ok (.iload 7, 2) := by decide +kernel
theorem dX3_read_229 : decode cX3_read 229 = .ok (.iadd, 1) := by decide +kernel
theorem dX3_read_230 : decode cX3_read 230 = .ok (.istore 5, 2) := by decide +kernel
theorem dX3_read_232 : decode cX3_read 232 = .ok (.goto (-163), 3) := by decide +kernel
theorem dX3_read_235 : decode cX3_read 235 = .ok (.aload_n 0, 1) := by decide +kernel
theorem dX3_read_236 : decode cX3_read 236 = .ok (.iload_n 1, 1) := by decide +kernel
theorem dX3_read_237 : decode cX3_read 237 = .ok (.iconst 0, 1) := by decide +kernel
theorem dX3_read_238 : decode cX3_read 238 = .ok (.aload_n 0, 1) := by decide +kernel
theorem dX3_read_239 : decode cX3_read 239 = .ok (.getfield 35, 3) := by decide +kernel
theorem dX3_read_242 : decode cX3_read 242 = .ok (.aload_n 0, 1) := by decide +kernel
theorem dX3_read_243 : decode cX3_read 243 = .ok (.getfield 71, 3) := by decide +kernel
theorem dX3_read_246 : decode cX3_read 246 = .ok (.invokevirtual 115, 3) := by decide +kernel
theorem dX3_read_249 : decode cX3_read 249 = .ok (.ireturn, 1) := by decide +kernel
set_option maxRecDepth 20000 in
theorem ggX3_parts_X3_sortOf : GoodIn wsX3_parts wsX3_sortOf := goodIn_r _ [5, 6, 7, 31, 32, 33, 34, 35, 36, 37, 38, 39, 40, 41, 42, 43, 44, 45, 46, 47, 48] (by decide +kernel) (by decide +kernel)
set_option maxRecDepth 20000 in
theorem gX3_parts_X3_sortOf : GoodIn wsX3_parts (wsV RX3 88 RX3 yX3_sortOf wsX3_sortOf) := goodIn_app (goodIn_of _ (by decide +kernel)) ggX3_parts_X3_sortOf
set_option maxRecDepth 20000 in
theorem ggX3_parts_X3_manyOf : GoodIn wsX3_parts wsX3_manyOf := goodIn_r _ [11, 12, 6, 31, 32, 33, 34, 35, 36, 37, 38, 39, 40, 41, 42, 43, 44, 45, 46, 47, 48] (by decide +kernel) (by decide +kernel)
set_option maxRecDepth 20000 in
theorem gX3_parts_X3_manyOf : GoodIn wsX3_parts (wsV RX3 91 RX3 yX3_manyOf wsX3_manyOf) := goodIn_app (goodIn_of _ (by decide +kernel)) ggX3_parts_X3_manyOf
set_option maxRecDepth 20000 in
theorem ggX3_parts_X3_item : GoodIn wsX3_parts wsX3_item := goodIn_r _ [16, 17, 6, 31, 32, 33, 34, 35, 36, 37, 38, 39, 40, 41, 42, 43, 44, 45, 46, 47, 48] (by decide +kernel) (by decide +kernel)
set_option maxRecDepth 20000 in
theorem gX3_parts_X3_item : GoodIn wsX3_parts (wsV RX3 94 RX3 yX3_item wsX3_item) := goodIn_app (goodIn_of _ (by decide +kernel)) ggX3_parts_X3_item
set_option maxRecDepth 20000 in
theorem ggX3_parts_X3_isHigh : GoodIn wsX3_parts wsX3_isHigh := goodIn_r _ [20, 21, 22, 23, 24, 4, 25] (by decide +kernel) (by decide +kernel)
set_option maxRecDepth 20000 in
theorem gX3_parts_X3_isHigh : GoodIn wsX3_parts (va_wsS RX3 77 yX3_isHigh wsX3_isHigh) := goodIn_app (goodIn_of _ (by decide +kernel)) ggX3_parts_X3_isHigh
set_option maxRecDepth 20000 in
theorem ggX3_parts_X3_isLow : GoodIn wsX3_parts wsX3_isLow := goodIn_r _ [28, 29, 30, 23, 24, 4, 25] (by decide +kernel) (by decide +kernel)
set_option maxRecDepth 20000 in
theorem gX3_parts_X3_isLow : GoodIn wsX3_parts (va_wsS RX3 81 yX3_isLow wsX3_isLow) := goodIn_app (goodIn_of _ (by decide +kernel)) ggX3_parts_X3_isLow
theorem dX3_parts_0 : decode cX3_parts 0 = .ok (.aload_n 0, 1) := by decide +kernel
theorem dX3_parts_1 : decode cX3_parts 1 = .ok (.iload_n 1, 1) := by decide +kernel
theorem dX3_parts_2 : decode cX3_parts 2 = .ok (.invokevirtual 88, 3) := by decide +kernel
theorem dX3_parts_5 : decode cX3_parts 5 = .ok (.ifCond .ne 46, 3) := by decide +kernel
theorem dX3_parts_8 : decode cX3_parts 8 = .ok (.iload_n 2, 1) := by decide +kernel
theorem dX3_parts_9 : decode cX3_parts 9 = .ok (.ifCond .le 42, 3) := by decide +kernel
theorem dX3_parts_12 : decode cX3_parts 12 = .ok (.iload_n 2, 1) := by decide +kernel
theorem dX3_parts_13 : decode cX3_parts 13 = .ok (.aload_n 0, 1) := by decide +kernel
theorem dX3_parts_14 : decode cX3_parts 14 = .ok (.iload_n 1, 1) := by decide +kernel
theorem dX3_parts_15 : decode cX3_parts 15 = .ok (.invokevirtual 91, 3) := by decide +kernel
theorem dX3_parts_18 : decode cX3_parts 18 = .ok (.if_icmp .ge 33, 3) := by decide +kernel
theorem dX3_parts_21 : decode cX3_parts 21 = .ok (.aload_n 0, 1) := by decide +kernel
theorem dX3_parts_22 : decode cX3_parts 22 = .ok (.iload_n 1, 1) := by decide +kernel
theorem dX3_parts_23 : decode cX3_parts 23 = .ok (.iload_n 2, 1) := by decide +kernel
theorem dX3_parts_24 : decode cX3_parts 24 = .ok (.iconst 1, 1) := by decide +kernel
theorem dX3_parts_25 : decode cX3_parts 25 = .ok (.isub, 1) := by decide +kernel
theorem dX3_parts_26 : decode cX3_parts 26 = .ok (.invokevirtual 94, 3) := by decide +kernel
theorem dX3_parts_29 : decode cX3_parts 29 = .ok (.invokestatic 77, 3) := by decide +kernel
theorem dX3_parts_32 : decode cX3_parts 32 = .ok (.ifCond .eq 19, 3) := by decide +kernel
theorem dX3_parts_35 : decode cX3_parts 35 = .ok (.aload_n 0, 1) := by decide +kernel
theorem dX3_parts_36 : decode cX3_parts 36 = .ok (.iload_n 1, 1) := by decide +kernel
theorem dX3_parts_37 : decode cX3_parts 37 = .ok (.iload_n 2, 1) := by decide +kernel
theorem dX3_parts_38 : decode cX3_parts 38 = .ok (.invokevirtual 94, 3) := by decide +kernel
theorem dX3_parts_41 : decode cX3_parts 41 = .ok (.invokestatic 81, 3) := by decide +kernel
theorem dX3_parts_44 : decode cX3_parts 44 = .ok (.ifCond .eq 7, 3) := by decide +kernel
theorem dX3_parts_47 : decode cX3_parts 47 = .ok (.iconst 1, 1) := by decide +kernel
theorem dX3_parts_48 : decode cX3_parts 48 = .ok (.goto 4, 3) := by decide +kernel
theorem dX3_parts_51 : decode cX3_parts 51 = .ok (.iconst 0, 1) := by decide +kernel
theorem dX3_parts_52 : decode cX3_parts 52 = .ok (.ireturn, 1) := by decide +kernel
set_option maxRecDepth 20000 in
theorem ggX3_cut_X3_isText : GoodIn wsX3_cut wsX3_isText := goodIn_r _ [6, 7, 8, 5, 9] (by decide +kernel) (by decide +kernel)
set_option maxRecDepth 20000 in
theorem gX3_cut_X3_isText : GoodIn wsX3_cut (va_wsS RX3 112 yX3_isText wsX3_isText) := goodIn_app (goodIn_of _ (by decide +kernel)) ggX3_cut_X3_isText
set_option maxRecDepth 20000 in
theorem ggX3_cut_X3_sortOf : GoodIn wsX3_cut wsX3_sortOf := goodIn_r _ [13, 14, 15, 59, 60, 61, 62, 63, 64, 65, 66, 67, 68, 69, 70, 71, 72, 73, 74, 75, 76] (by decide +kernel) (by decide +kernel)
set_option maxRecDepth 20000 in
theorem gX3_cut_X3_sortOf : GoodIn wsX3_cut (wsV RX3 88 RX3 yX3_sortOf wsX3_sortOf) := goodIn_app (goodIn_of _ (by decide +kernel)) ggX3_cut_X3_sortOf
set_option maxRecDepth 20000 in
theorem ggX3_cut_X3_no : GoodIn wsX3_cut wsX3_no := goodIn_r _ [19, 20, 59, 60, 61, 62, 63, 64, 65, 66, 67, 68, 69, 70, 71, 72, 73, 74, 75, 76] (by decide +kernel) (by decide +kernel)
set_option maxRecDepth 20000 in
theorem gX3_cut_X3_no : GoodIn wsX3_cut (wsV RX3 56 RX3 yX3_no wsX3_no) := goodIn_app (goodIn_of _ (by decide +kernel)) ggX3_cut_X3_no
set_option maxRecDepth 20000 in
theorem ggX3_cut_X3_manyOf : GoodIn wsX3_cut wsX3_manyOf := goodIn_r _ [24, 25, 14, 59, 60, 61, 62, 63, 64, 65, 66, 67, 68, 69, 70, 71, 72, 73, 74, 75, 76] (by decide +kernel) (by decide +kernel)
set_option maxRecDepth 20000 in
theorem gX3_cut_X3_manyOf : GoodIn wsX3_cut (wsV RX3 91 RX3 yX3_manyOf wsX3_manyOf) := goodIn_app (goodIn_of _ (by decide +kernel)) ggX3_cut_X3_manyOf
set_option maxRecDepth 20000 in
theorem ggX3_cut_X3_parts : GoodIn wsX3_cut wsX3_parts := goodIn_r _ [29, 10, 11, 12, 5, 13, 14, 15, 21, 22, 23, 24, 25, 30, 31, 32, 33, 34, 35, 36, 37, 38, 39, 7, 8, 9, 40, 41, 42, 43, 44, 59, 60, 61, 62, 63, 64, 65, 66, 67, 68, 69, 70, 71, 72, 73, 74, 75, 76] (by decide +kernel) (by decide +kernel)
set_option maxRecDepth 20000 in
theorem gX3_cut_X3_parts : GoodIn wsX3_cut (wsV RX3 145 RX3 yX3_parts wsX3_parts) := goodIn_app (goodIn_of _ (by decide +kernel)) ggX3_cut_X3_parts
set_option maxRecDepth 20000 in
theorem ggX3_cut_X3_item : GoodIn wsX3_cut wsX3_item := goodIn_r _ [33, 34, 14, 59, 60, 61, 62, 63, 64, 65, 66, 67, 68, 69, 70, 71, 72, 73, 74, 75, 76] (by decide +kernel) (by decide +kernel)
set_option maxRecDepth 20000 in
theorem gX3_cut_X3_item : GoodIn wsX3_cut (wsV RX3 94 RX3 yX3_item wsX3_item) := goodIn_app (goodIn_of _ (by decide +kernel)) ggX3_cut_X3_item
set_option maxRecDepth 20000 in
theorem ggX3_cut_X3_become : GoodIn wsX3_cut wsX3_become := goodIn_r _ [48, 15, 25, 34, 14, 49, 50, 51, 5, 52, 53, 54, 55, 56, 57, 58, 20, 59, 60, 61, 62, 63, 64, 65, 66, 67, 68, 69, 70, 71, 72, 73, 74, 75, 76] (by decide +kernel) (by decide +kernel)
set_option maxRecDepth 20000 in
theorem gX3_cut_X3_become : GoodIn wsX3_cut (wsV RX3 115 RX3 yX3_become wsX3_become) := goodIn_app (goodIn_of _ (by decide +kernel)) ggX3_cut_X3_become
theorem dX3_cut_0 : decode cX3_cut 0 = .ok (.iload_n 1, 1) := by decide +kernel
theorem dX3_cut_1 : decode cX3_cut 1 = .ok (.invokestatic 112, 3) := by decide +kernel
theorem dX3_cut_4 : decode cX3_cut 4 = .ok (.ifCond .eq 10, 3) := by decide +kernel
theorem dX3_cut_7 : decode cX3_cut 7 = .ok (.iload_n 2, 1) := by decide +kernel
theorem dX3_cut_8 : decode cX3_cut 8 = .ok (.invokestatic 112, 3) := by decide +kernel
theorem dX3_cut_11 : decode cX3_cut 11 = .ok (.ifCond .ne 6, 3) := by decide +kernel
theorem dX3_cut_14 : decode cX3_cut 14 = .ok (.ldc 107, 2) := by decide +kernel
theorem dX3_cut_16 : decode cX3_cut 16 = .ok (.ireturn, 1) := by decide +kernel
theorem dX3_cut_17 : decode cX3_cut 17 = .ok (.aload_n 0, 1) := by decide +kernel
theorem dX3_cut_18 : decode cX3_cut 18 = .ok (.iload_n 2, 1) := by decide +kernel
theorem dX3_cut_19 : decode cX3_cut 19 = .ok (.invokevirtual 88, 3) := by decide +kernel
theorem dX3_cut_22 : decode cX3_cut 22 = .ok (.iconst (-1), 1) := by decide +kernel
theorem dX3_cut_23 : decode cX3_cut 23 = .ok (.if_icmp .ne 9, 3) := by decide +kernel
theorem dX3_cut_26 : decode cX3_cut 26 = .ok (.aload_n 0, 1) := by decide +kernel
theorem dX3_cut_27 : decode cX3_cut 27 = .ok (.iconst 1, 1) := by decide +kernel
theorem dX3_cut_28 : decode cX3_cut 28 = .ok (.invokevirtual 56, 3) := by decide +kernel
theorem dX3_cut_31 : decode cX3_cut 31 = .ok (.ireturn, 1) := by decide +kernel
theorem dX3_cut_32 : decode cX3_cut 32 = .ok (.iload 4, 2) := by decide +kernel
theorem dX3_cut_34 : decode cX3_cut 34 = .ok (.ifCond .ge 9, 3) := by decide +kernel
theorem dX3_cut_37 : decode cX3_cut 37 = .ok (.aload_n 0, 1) := by decide +kernel
theorem dX3_cut_38 : decode cX3_cut 38 = .ok (.iconst 4, 1) := by decide +kernel
theorem dX3_cut_39 : decode cX3_cut 39 = .ok (.invokevirtual 56, 3) := by decide +kernel
theorem dX3_cut_42 : decode cX3_cut 42 = .ok (.ireturn, 1) := by decide +kernel
theorem dX3_cut_43 : decode cX3_cut 43 = .ok (.iload_n 3, 1) := by decide +kernel
theorem dX3_cut_44 : decode cX3_cut 44 = .ok (.ifCond .lt 19, 3) := by decide +kernel
theorem dX3_cut_47 : decode cX3_cut 47 = .ok (.iload_n 3, 1) := by decide +kernel
theorem dX3_cut_48 : decode cX3_cut 48 = .ok (.i2l, 1) := by decide +kernel
theorem dX3_cut_49 : decode cX3_cut 49 = .ok (.iload 4, 2) := by decide +kernel
theorem dX3_cut_51 : decode cX3_cut 51 = .ok (.i2l, 1) := by decide +kernel
theorem dX3_cut_52 : decode cX3_cut 52 = .ok (.ladd, 1) := by decide +kernel
theorem dX3_cut_53 : decode cX3_cut 53 = .ok (.aload_n 0, 1) := by decide +kernel
theorem dX3_cut_54 : decode cX3_cut 54 = .ok (.iload_n 2, 1) := by decide +kernel
theorem dX3_cut_55 : decode cX3_cut 55 = .ok (.invokevirtual 91, 3) := by decide +kernel
theorem dX3_cut_58 : decode cX3_cut 58 = .ok (.i2l, 1) := by decide +kernel
theorem dX3_cut_59 : decode cX3_cut 59 = .ok (.lcmp, 1) := by decide +kernel
theorem dX3_cut_60 : decode cX3_cut 60 = .ok (.ifCond .le 9, 3) := by decide +kernel
theorem dX3_cut_63 : decode cX3_cut 63 = .ok (.aload_n 0, 1) := by decide +kernel
theorem dX3_cut_64 : decode cX3_cut 64 = .ok (.iconst 3, 1) := by decide +kernel
theorem dX3_cut_65 : decode cX3_cut 65 = .ok (.invokevirtual 56, 3) := by decide +kernel
theorem dX3_cut_68 : decode cX3_cut 68 = .ok (.ireturn, 1) := by decide +kernel
theorem dX3_cut_69 : decode cX3_cut 69 = .ok (.iload 4, 2) := by decide +kernel
theorem dX3_cut_71 : decode cX3_cut 71 = .ok (.ifCond .le 31, 3) := by decide +kernel
theorem dX3_cut_74 : decode cX3_cut 74 = .ok (.aload_n 0, 1) := by decide +kernel
theorem dX3_cut_75 : decode cX3_cut 75 = .ok (.iload_n 2, 1) := by decide +kernel
theorem dX3_cut_76 : decode cX3_cut 76 = .ok (.iload_n 3, 1) := by decide +kernel
theorem dX3_cut_77 : decode cX3_cut 77 = .ok (.invokevirtual 145, 3) := by decide +kernel
theorem dX3_cut_80 : decode cX3_cut 80 = .ok (.ifCond .ne 15, 3) := by decide +kernel
theorem dX3_cut_83 : decode cX3_cut 83 = .ok (.aload_n 0, 1) := by decide +kernel
theorem dX3_cut_84 : decode cX3_cut 84 = .ok (.iload_n 2, 1) := by decide +kernel
theorem dX3_cut_85 : decode cX3_cut 85 = .ok (.iload_n 3, 1) := by decide +kernel
theorem dX3_cut_86 : decode cX3_cut 86 = .ok (.iload 4, 2) := by decide +kernel
theorem dX3_cut_88 : decode cX3_cut 88 = .ok (.iadd, 1) := by decide +kernel
theorem dX3_cut_89 : decode cX3_cut 89 = .ok (.invokevirtual 145, 3) := by decide +kernel
theorem dX3_cut_92 : decode cX3_cut 92 = .ok (.ifCond .eq 10, 3) := by decide +kernel
theorem dX3_cut_95 : decode cX3_cut 95 = .ok (.aload_n 0, 1) := by decide +kernel
theorem dX3_cut_96 : decode cX3_cut 96 = .ok (.bipush 7, 2) := by decide +kernel
theorem dX3_cut_98 : decode cX3_cut 98 = .ok (.invokevirtual 56, 3) := by decide +kernel
theorem dX3_cut_101 : decode cX3_cut 101 = .ok (.ireturn, 1) := by decide +kernel
theorem dX3_cut_102 : decode cX3_cut 102 = .ok (.iconst 0, 1) := by decide +kernel
theorem dX3_cut_103 : decode cX3_cut 103 = .ok (.istore 5, 2) := by decide +kernel
theorem dX3_cut_105 : decode cX3_cut 105 = .ok (.iload 5, 2) := by decide +kernel
theorem dX3_cut_107 : decode cX3_cut 107 = .ok (.iload 4, 2) := by decide +kernel
theorem dX3_cut_109 : decode cX3_cut 109 = .ok (.if_icmp .ge 25, 3) := by decide +kernel
theorem dX3_cut_112 : decode cX3_cut 112 = .ok (.aload_n 0, 1) := by decide +kernel
theorem dX3_cut_113 : decode cX3_cut 113 = .ok (.getfield 38, 3) := by decide +kernel
theorem dX3_cut_116 : decode cX3_cut 116 = .ok (.iload 5, 2) := by decide +kernel
theorem dX3_cut_118 : decode cX3_cut 118 = .ok (.aload_n 0, 1) := by decide +kernel
theorem dX3_cut_119 : decode cX3_cut 119 = .ok (.iload_n 2, 1) := by decide +kernel
theorem dX3_cut_120 : decode cX3_cut 120 = .ok (.iload_n 3, 1) := by decide +kernel
theorem dX3_cut_121 : decode cX3_cut 121 = .ok (.iload 5, 2) := by decide +kernel
theorem dX3_cut_123 : decode cX3_cut 123 = .ok (.iadd, 1) := by decide +kernel
theorem dX3_cut_124 : decode cX3_cut 124 = .ok (.invokevirtual 94, 3) := by decide +kernel
theorem dX3_cut_127 : decode cX3_cut 127 = .ok (.iastore, 1) := by decide +kernel
theorem dX3_cut_128 : decode cX3_cut 128 = .ok (.iinc 5 1, 3) := by decide +kernel
theorem dX3_cut_131 : decode cX3_cut 131 = .ok (.goto (-26), 3) := by decide +kernel
theorem dX3_cut_134 : decode cX3_cut 134 = .ok (.aload_n 0, 1) := by decide +kernel
theorem dX3_cut_135 : decode cX3_cut 135 = .ok (.iload_n 1, 1) := by decide +kernel
theorem dX3_cut_136 : decode cX3_cut 136 = .ok (.aload_n 0, 1) := by decide +kernel
theorem dX3_cut_137 : decode cX3_cut 137 = .ok (.iload_n 2, 1) := by decide +kernel
theorem dX3_cut_138 : decode cX3_cut 138 = .ok (.invokevirtual 88, 3) := by decide +kernel
theorem dX3_cut_141 : decode cX3_cut 141 = .ok (.aload_n 0, 1) := by decide +kernel
theorem dX3_cut_142 : decode cX3_cut 142 = .ok (.getfield 38, 3) := by decide +kernel
theorem dX3_cut_145 : decode cX3_cut 145 = .ok (.iload 4, 2) := by decide +kernel
theorem dX3_cut_147 : decode cX3_cut 147 = .ok (.invokevirtual 115, 3) := by decide +kernel
theorem dX3_cut_150 : decode cX3_cut 150 = .ok (.ireturn, 1) := by decide +kernel
set_option maxRecDepth 20000 in
theorem ggX3_join_X3_isText : GoodIn wsX3_join wsX3_isText := goodIn_r _ [6, 7, 8, 5, 9] (by decide +kernel) (by decide +kernel)
set_option maxRecDepth 20000 in
theorem gX3_join_X3_isText : GoodIn wsX3_join (va_wsS RX3 112 yX3_isText wsX3_isText) := goodIn_app (goodIn_of _ (by decide +kernel)) ggX3_join_X3_isText
set_option maxRecDepth 20000 in
theorem ggX3_join_X3_sortOf : GoodIn wsX3_join wsX3_sortOf := goodIn_r _ [13, 14, 15, 45, 46, 47, 48, 49, 50, 51, 52, 53, 54, 55, 56, 57, 58, 59, 60, 61, 62] (by decide +kernel) (by decide +kernel)
set_option maxRecDepth 20000 in
theorem gX3_join_X3_sortOf : GoodIn wsX3_join (wsV RX3 88 RX3 yX3_sortOf wsX3_sortOf) := goodIn_app (goodIn_of _ (by decide +kernel)) ggX3_join_X3_sortOf
set_option maxRecDepth 20000 in
theorem ggX3_join_X3_no : GoodIn wsX3_join wsX3_no := goodIn_r _ [19, 20, 45, 46, 47, 48, 49, 50, 51, 52, 53, 54, 55, 56, 57, 58, 59, 60, 61, 62] (by decide +kernel) (by decide +kernel)
set_option maxRecDepth 20000 in
theorem gX3_join_X3_no : GoodIn wsX3_join (wsV RX3 56 RX3 yX3_no wsX3_no) := goodIn_app (goodIn_of _ (by decide +kernel)) ggX3_join_X3_no
set_option maxRecDepth 20000 in
theorem ggX3_join_X3_manyOf : GoodIn wsX3_join wsX3_manyOf := goodIn_r _ [24, 25, 14, 45, 46, 47, 48, 49, 50, 51, 52, 53, 54, 55, 56, 57, 58, 59, 60, 61, 62] (by decide +kernel) (by decide +kernel)
set_option maxRecDepth 20000 in
theorem gX3_join_X3_manyOf : GoodIn wsX3_join (wsV RX3 91 RX3 yX3_manyOf wsX3_manyOf) := goodIn_app (goodIn_of _ (by decide +kernel)) ggX3_join_X3_manyOf
set_option maxRecDepth 20000 in
theorem ggX3_join_X3_item : GoodIn wsX3_join wsX3_item := goodIn_r _ [29, 30, 14, 45, 46, 47, 48, 49, 50, 51, 52, 53, 54, 55, 56, 57, 58, 59, 60, 61, 62] (by decide +kernel) (by decide +kernel)
set_option maxRecDepth 20000 in
theorem gX3_join_X3_item : GoodIn wsX3_join (wsV RX3 94 RX3 yX3_item wsX3_item) := goodIn_app (goodIn_of _ (by decide +kernel)) ggX3_join_X3_item
set_option maxRecDepth 20000 in
theorem ggX3_join_X3_become : GoodIn wsX3_join wsX3_become := goodIn_r _ [34, 15, 25, 30, 14, 35, 36, 37, 5, 38, 39, 40, 41, 42, 43, 44, 20, 45, 46, 47, 48, 49, 50, 51, 52, 53, 54, 55, 56, 57, 58, 59, 60, 61, 62] (by decide +kernel) (by decide +kernel)
set_option maxRecDepth 20000 in
theorem gX3_join_X3_become : GoodIn wsX3_join (wsV RX3 115 RX3 yX3_become wsX3_become) := goodIn_app (goodIn_of _ (by decide +kernel)) ggX3_join_X3_become
theorem dX3_join_0 : decode cX3_join 0 = .ok (.iload_n 1, 1) := by decide +kernel
theorem dX3_join_1 : decode cX3_join 1 = .ok (.invokestatic 112, 3) := by decide +kernel
theorem dX3_join_4 : decode cX3_join 4 = .ok (.ifCond .eq 17, 3) := by decide +kernel
theorem dX3_join_7 : decode cX3_join 7 = .ok (.iload_n 2, 1) := by decide +kernel
theorem dX3_join_8 : decode cX3_join 8 = .ok (.invokestatic 112, 3) := by decide +kernel
theorem dX3_join_11 : decode cX3_join 11 = .ok (.ifCond .eq 10, 3) := by decide +kernel
theorem dX3_join_14 : decode cX3_join 14 = .ok (.iload_n 3, 1) := by decide +kernel
theorem dX3_join_15 : decode cX3_join 15 = .ok (.invokestatic 112, 3) := by decide +kernel
theorem dX3_join_18 : decode cX3_join 18 = .ok (.ifCond .ne 6, 3) := by decide +kernel
theorem dX3_join_21 : decode cX3_join 21 = .ok (.ldc 107, 2) := by decide +kernel
theorem dX3_join_23 : decode cX3_join 23 = .ok (.ireturn, 1) := by decide +kernel
theorem dX3_join_24 : decode cX3_join 24 = .ok (.aload_n 0, 1) := by decide +kernel
theorem dX3_join_25 : decode cX3_join 25 = .ok (.iload_n 2, 1) := by decide +kernel
theorem dX3_join_26 : decode cX3_join 26 = .ok (.invokevirtual 88, 3) := by decide +kernel
theorem dX3_join_29 : decode cX3_join 29 = .ok (.iconst (-1), 1) := by decide +kernel
theorem dX3_join_30 : decode cX3_join 30 = .ok (.if_icmp .eq 12, 3) := by decide +kernel
theorem dX3_join_33 : decode cX3_join 33 = .ok (.aload_n 0, 1) := by decide +kernel
theorem dX3_join_34 : decode cX3_join 34 = .ok (.iload_n 3, 1) := by decide +kernel
theorem dX3_join_35 : decode cX3_join 35 = .ok (.invokevirtual 88, 3) := by decide +kernel
theorem dX3_join_38 : decode cX3_join 38 = .ok (.iconst (-1), 1) := by decide +kernel
theorem dX3_join_39 : decode cX3_join 39 = .ok (.if_icmp .ne 9, 3) := by decide +kernel
theorem dX3_join_42 : decode cX3_join 42 = .ok (.aload_n 0, 1) := by decide +kernel
theorem dX3_join_43 : decode cX3_join 43 = .ok (.iconst 1, 1) := by decide +kernel
theorem dX3_join_44 : decode cX3_join 44 = .ok (.invokevirtual 56, 3) := by decide +kernel
theorem dX3_join_47 : decode cX3_join 47 = .ok (.ireturn, 1) := by decide +kernel
theorem dX3_join_48 : decode cX3_join 48 = .ok (.aload_n 0, 1) := by decide +kernel
theorem dX3_join_49 : decode cX3_join 49 = .ok (.iload_n 2, 1) := by decide +kernel
theorem dX3_join_50 : decode cX3_join 50 = .ok (.invokevirtual 88, 3) := by decide +kernel
theorem dX3_join_53 : decode cX3_join 53 = .ok (.aload_n 0, 1) := by decide +kernel
theorem dX3_join_54 : decode cX3_join 54 = .ok (.iload_n 3, 1) := by decide +kernel
theorem dX3_join_55 : decode cX3_join 55 = .ok (.invokevirtual 88, 3) := by decide +kernel
theorem dX3_join_58 : decode cX3_join 58 = .ok (.if_icmp .eq 9, 3) := by decide +kernel
theorem dX3_join_61 : decode cX3_join 61 = .ok (.aload_n 0, 1) := by decide +kernel
theorem dX3_join_62 : decode cX3_join 62 = .ok (.iconst 2, 1) := by decide +kernel
theorem dX3_join_63 : decode cX3_join 63 = .ok (.invokevirtual 56, 3) := by decide +kernel
theorem dX3_join_66 : decode cX3_join 66 = .ok (.ireturn, 1) := by decide +kernel
theorem dX3_join_67 : decode cX3_join 67 = .ok (.aload_n 0, 1) := by decide +kernel
theorem dX3_join_68 : decode cX3_join 68 = .ok (.iload_n 2, 1) := by decide +kernel
theorem dX3_join_69 : decode cX3_join 69 = .ok (.invokevirtual 91, 3) := by decide +kernel
theorem dX3_join_72 : decode cX3_join 72 = .ok (.istore 4, 2) := by decide +kernel
theorem dX3_join_74 : decode cX3_join 74 = .ok (.aload_n 0, 1) := by decide +kernel
theorem dX3_join_75 : decode cX3_join 75 = .ok (.iload_n 3, 1) := by decide +kernel
theorem dX3_join_76 : decode cX3_join 76 = .ok (.invokevirtual 91, 3) := by decide +kernel
theorem dX3_join_79 : decode cX3_join 79 = .ok (.istore 5, 2) := by decide +kernel
theorem dX3_join_81 : decode cX3_join 81 = .ok (.iload 4, 2) := by decide +kernel
theorem dX3_join_83 : decode cX3_join 83 = .ok (.iload 5, 2) := by decide +kernel
theorem dX3_join_85 : decode cX3_join 85 = .ok (.iadd, 1) := by decide +kernel
theorem dX3_join_86 : decode cX3_join 86 = .ok (.aload_n 0, 1) := by decide +kernel
theorem dX3_join_87 : decode cX3_join 87 = .ok (.iload_n 2, 1) := by decide +kernel
theorem dX3_join_88 : decode cX3_join 88 = .ok (.invokevirtual 88, 3) := by decide +kernel
theorem dX3_join_91 : decode cX3_join 91 = .ok (.iconst 2, 1) := by decide +kernel
theorem dX3_join_92 : decode cX3_join 92 = .ok (.if_icmp .ne 9, 3) := by decide +kernel
theorem dX3_join_95 : decode cX3_join 95 = .ok (.sipush 240, 3) := by decide +kernel
theorem dX3_join_98 : decode cX3_join 98 = .ok (.goto 5, 3) := by decide +kernel
theorem dX3_join_101 : decode cX3_join 101 = .ok (.bipush 60, 2) := by decide +kernel
theorem dX3_join_103 : decode cX3_join 103 = .ok (.if_icmp .le 10, 3) := by decide +kernel
theorem dX3_join_106 : decode cX3_join 106 = .ok (.aload_n 0, 1) := by decide +kernel
theorem dX3_join_107 : decode cX3_join 107 = .ok (.bipush 6, 2) := by decide +kernel
theorem dX3_join_109 : decode cX3_join 109 = .ok (.invokevirtual 56, 3) := by decide +kernel
theorem dX3_join_112 : decode cX3_join 112 = .ok (.ireturn, 1) := by decide +kernel
theorem dX3_join_113 : decode cX3_join 113 = .ok (.iconst 0, 1) := by decide +kernel
theorem dX3_join_114 : decode cX3_join 114 = .ok (.istore 6, 2) := by decide +kernel
theorem dX3_join_116 : decode cX3_join 116 = .ok (.iload 6, 2) := by decide +kernel
theorem dX3_join_118 : decode cX3_join 118 = .ok (.iload 4, 2) := by decide +kernel
theorem dX3_join_120 : decode cX3_join 120 = .ok (.iload 5, 2) := by decide +kernel
theorem dX3_join_122 : decode cX3_join 122 = .ok (.iadd, 1) := by decide +kernel
theorem dX3_join_123 : decode cX3_join 123 = .ok (.if_icmp .ge 43, 3) := by decide +kernel
theorem dX3_join_126 : decode cX3_join 126 = .ok (.aload_n 0, 1) := by decide +kernel
theorem dX3_join_127 : decode cX3_join 127 = .ok (.getfield 38, 3) := by decide +kernel
theorem dX3_join_130 : decode cX3_join 130 = .ok (.iload 6, 2) := by decide +kernel
theorem dX3_join_132 : decode cX3_join 132 = .ok (.iload 6, 2) := by decide +kernel
theorem dX3_join_134 : decode cX3_join 134 = .ok (.iload 4, 2) := by decide +kernel
theorem dX3_join_136 : decode cX3_join 136 = .ok (.if_icmp .ge 13, 3) := by decide +kernel
theorem dX3_join_139 : decode cX3_join 139 = .ok (.aload_n 0, 1) := by decide +kernel
theorem dX3_join_140 : decode cX3_join 140 = .ok (.iload_n 2, 1) := by decide +kernel
theorem dX3_join_141 : decode cX3_join 141 = .ok (.iload 6, 2) := by decide +kernel
theorem dX3_join_143 : decode cX3_join 143 = .ok (.invokevirtual 94, 3) := by decide +kernel
theorem dX3_join_146 : decode cX3_join 146 = .ok (.goto 13, 3) := by decide +kernel
theorem dX3_join_149 : decode cX3_join 149 = .ok (.aload_n 0, 1) := by decide +kernel
theorem dX3_join_150 : decode cX3_join 150 = .ok (.iload_n 3, 1) := by decide +kernel
theorem dX3_join_151 : decode cX3_join 151 = .ok (.iload 6, 2) := by decide +kernel
theorem dX3_join_153 : decode cX3_join 153 = .ok (.iload 4, 2) := by decide +kernel
theorem dX3_join_155 : decode cX3_join 155 = .ok (.isub, 1) := by decide +kernel
theorem dX3_join_156 : decode cX3_join 156 = .ok (.invokevirtual 94, 3) := by decide +kernel
theorem dX3_join_159 : decode cX3_join 159 = .ok (.iastore, 1) := by decide +kernel
theorem dX3_join_160 : decode cX3_join 160 = .ok (.iinc 6 1, 3) := by decide +kernel
theorem dX3_join_163 : decode cX3_join 163 = .ok (.goto (-47), 3) := by decide +kernel
theorem dX3_join_166 : decode cX3_join 166 = .ok (.aload_n 0, 1) := by decide +kernel
theorem dX3_join_167 : decode cX3_join 167 = .ok (.iload_n 1, 1) := by decide +kernel
theorem dX3_join_168 : decode cX3_join 168 = .ok (.aload_n 0, 1) := by decide +kernel
theorem dX3_join_169 : decode cX3_join 169 = .ok (.iload_n 2, 1) := by decide +kernel
theorem dX3_join_170 : decode cX3_join 170 = .ok (.invokevirtual 88, 3) := by decide +kernel
theorem dX3_join_173 : decode cX3_join 173 = .ok (.aload_n 0, 1) := by decide +kernel
theorem dX3_join_174 : decode cX3_join 174 = .ok (.getfield 38, 3) := by decide +kernel
theorem dX3_join_177 : decode cX3_join 177 = .ok (.iload 4, 2) := by decide +kernel
theorem dX3_join_179 : decode cX3_join 179 = .ok (.iload 5, 2) := by decide +kernel
theorem dX3_join_181 : decode cX3_join 181 = .ok (.iadd, 1) := by decide +kernel
theorem dX3_join_182 : decode cX3_join 182 = .ok (.invokevirtual 115, 3) := by decide +kernel
theorem dX3_join_185 : decode cX3_join 185 = .ok (.ireturn, 1) := by decide +kernel
set_option maxRecDepth 20000 in
theorem ggX3_back_X3_isText : GoodIn wsX3_back wsX3_isText := goodIn_r _ [6, 7, 8, 5, 9] (by decide +kernel) (by decide +kernel)
set_option maxRecDepth 20000 in
theorem gX3_back_X3_isText : GoodIn wsX3_back (va_wsS RX3 112 yX3_isText wsX3_isText) := goodIn_app (goodIn_of _ (by decide +kernel)) ggX3_back_X3_isText
set_option maxRecDepth 20000 in
theorem ggX3_back_X3_sortOf : GoodIn wsX3_back wsX3_sortOf := goodIn_r _ [13, 14, 15, 59, 60, 61, 62, 63, 64, 65, 66, 67, 68, 69, 70, 71, 72, 73, 74, 75, 76] (by decide +kernel) (by decide +kernel)
set_option maxRecDepth 20000 in
theorem gX3_back_X3_sortOf : GoodIn wsX3_back (wsV RX3 88 RX3 yX3_sortOf wsX3_sortOf) := goodIn_app (goodIn_of _ (by decide +kernel)) ggX3_back_X3_sortOf
set_option maxRecDepth 20000 in
theorem ggX3_back_X3_no : GoodIn wsX3_back wsX3_no := goodIn_r _ [19, 20, 59, 60, 61, 62, 63, 64, 65, 66, 67, 68, 69, 70, 71, 72, 73, 74, 75, 76] (by decide +kernel) (by decide +kernel)
set_option maxRecDepth 20000 in
theorem gX3_back_X3_no : GoodIn wsX3_back (wsV RX3 56 RX3 yX3_no wsX3_no) := goodIn_app (goodIn_of _ (by decide +kernel)) ggX3_back_X3_no
set_option maxRecDepth 20000 in
theorem ggX3_back_X3_manyOf : GoodIn wsX3_back wsX3_manyOf := goodIn_r _ [24, 25, 14, 59, 60, 61, 62, 63, 64, 65, 66, 67, 68, 69, 70, 71, 72, 73, 74, 75, 76] (by decide +kernel) (by decide +kernel)
set_option maxRecDepth 20000 in
theorem gX3_back_X3_manyOf : GoodIn wsX3_back (wsV RX3 91 RX3 yX3_manyOf wsX3_manyOf) := goodIn_app (goodIn_of _ (by decide +kernel)) ggX3_back_X3_manyOf
set_option maxRecDepth 20000 in
theorem ggX3_back_X3_item : GoodIn wsX3_back wsX3_item := goodIn_r _ [29, 30, 14, 59, 60, 61, 62, 63, 64, 65, 66, 67, 68, 69, 70, 71, 72, 73, 74, 75, 76] (by decide +kernel) (by decide +kernel)
set_option maxRecDepth 20000 in
theorem gX3_back_X3_item : GoodIn wsX3_back (wsV RX3 94 RX3 yX3_item wsX3_item) := goodIn_app (goodIn_of _ (by decide +kernel)) ggX3_back_X3_item
set_option maxRecDepth 20000 in
theorem ggX3_back_X3_parts : GoodIn wsX3_back wsX3_parts := goodIn_r _ [34, 10, 11, 12, 5, 13, 14, 15, 21, 22, 23, 24, 25, 26, 27, 28, 29, 30, 35, 36, 37, 38, 39, 7, 8, 9, 40, 41, 42, 43, 44, 59, 60, 61, 62, 63, 64, 65, 66, 67, 68, 69, 70, 71, 72, 73, 74, 75, 76] (by decide +kernel) (by decide +kernel)
set_option maxRecDepth 20000 in
theorem gX3_back_X3_parts : GoodIn wsX3_back (wsV RX3 145 RX3 yX3_parts wsX3_parts) := goodIn_app (goodIn_of _ (by decide +kernel)) ggX3_back_X3_parts
set_option maxRecDepth 20000 in
theorem ggX3_back_X3_become : GoodIn wsX3_back wsX3_become := goodIn_r _ [48, 15, 25, 30, 14, 49, 50, 51, 5, 52, 53, 54, 55, 56, 57, 58, 20, 59, 60, 61, 62, 63, 64, 65, 66, 67, 68, 69, 70, 71, 72, 73, 74, 75, 76] (by decide +kernel) (by decide +kernel)
set_option maxRecDepth 20000 in
theorem gX3_back_X3_become : GoodIn wsX3_back (wsV RX3 115 RX3 yX3_become wsX3_become) := goodIn_app (goodIn_of _ (by decide +kernel)) ggX3_back_X3_become
theorem dX3_back_0 : decode cX3_back 0 = .ok (.iload_n 1, 1) := by decide +kernel
theorem dX3_back_1 : decode cX3_back 1 = .ok (.invokestatic 112, 3) := by decide +kernel
theorem dX3_back_4 : decode cX3_back 4 = .ok (.ifCond .eq 10, 3) := by decide +kernel
theorem dX3_back_7 : decode cX3_back 7 = .ok (.iload_n 2, 1) := by decide +kernel
theorem dX3_back_8 : decode cX3_back 8 = .ok (.invokestatic 112, 3) := by decide +kernel
theorem dX3_back_11 : decode cX3_back 11 = .ok (.ifCond .ne 6, 3) := by decide +kernel
theorem dX3_back_14 : decode cX3_back 14 = .ok (.ldc 107, 2) := by decide +kernel
theorem dX3_back_16 : decode cX3_back 16 = .ok (.ireturn, 1) := by decide +kernel
theorem dX3_back_17 : decode cX3_back 17 = .ok (.aload_n 0, 1) := by decide +kernel
theorem dX3_back_18 : decode cX3_back 18 = .ok (.iload_n 2, 1) := by decide +kernel
theorem dX3_back_19 : decode cX3_back 19 = .ok (.invokevirtual 88, 3) := by decide +kernel
theorem dX3_back_22 : decode cX3_back 22 = .ok (.istore_n 3, 1) := by decide +kernel
theorem dX3_back_23 : decode cX3_back 23 = .ok (.iload_n 3, 1) := by decide +kernel
theorem dX3_back_24 : decode cX3_back 24 = .ok (.iconst (-1), 1) := by decide +kernel
theorem dX3_back_25 : decode cX3_back 25 = .ok (.if_icmp .ne 9, 3) := by decide +kernel
theorem dX3_back_28 : decode cX3_back 28 = .ok (.aload_n 0, 1) := by decide +kernel
theorem dX3_back_29 : decode cX3_back 29 = .ok (.iconst 1, 1) := by decide +kernel
theorem dX3_back_30 : decode cX3_back 30 = .ok (.invokevirtual 56, 3) := by decide +kernel
theorem dX3_back_33 : decode cX3_back 33 = .ok (.ireturn, 1) := by decide +kernel
theorem dX3_back_34 : decode cX3_back 34 = .ok (.aload_n 0, 1) := by decide +kernel
theorem dX3_back_35 : decode cX3_back 35 = .ok (.iload_n 2, 1) := by decide +kernel
theorem dX3_back_36 : decode cX3_back 36 = .ok (.invokevirtual 91, 3) := by decide +kernel
theorem dX3_back_39 : decode cX3_back 39 = .ok (.istore 4, 2) := by decide +kernel
theorem dX3_back_41 : decode cX3_back 41 = .ok (.iconst 0, 1) := by decide +kernel
theorem dX3_back_42 : decode cX3_back 42 = .ok (.istore 5, 2) := by decide +kernel
theorem dX3_back_44 : decode cX3_back 44 = .ok (.iload 5, 2) := by decide +kernel
theorem dX3_back_46 : decode cX3_back 46 = .ok (.iload 4, 2) := by decide +kernel
theorem dX3_back_48 : decode cX3_back 48 = .ok (.if_icmp .ge 28, 3) := by decide +kernel
theorem dX3_back_51 : decode cX3_back 51 = .ok (.aload_n 0, 1) := by decide +kernel
theorem dX3_back_52 : decode cX3_back 52 = .ok (.getfield 38, 3) := by decide +kernel
theorem dX3_back_55 : decode cX3_back 55 = .ok (.iload 5, 2) := by decide +kernel
theorem dX3_back_57 : decode cX3_back 57 = .ok (.aload_n 0, 1) := by decide +kernel
theorem dX3_back_58 : decode cX3_back 58 = .ok (.iload_n 2, 1) := by decide +kernel
theorem dX3_back_59 : decode cX3_back 59 = .ok (.iload 4, 2) := by decide +kernel
theorem dX3_back_61 : decode cX3_back 61 = .ok (.iconst 1, 1) := by decide +kernel
theorem dX3_back_62 : decode cX3_back 62 = .ok (.isub, 1) := by decide +kernel
theorem dX3_back_63 : decode cX3_back 63 = .ok (.iload 5, 2) := by decide +kernel
theorem dX3_back_65 : decode cX3_back 65 = .ok (.isub, 1) := by decide +kernel
theorem dX3_back_66 : decode cX3_back 66 = .ok (.invokevirtual 94, 3) := by decide +kernel
theorem dX3_back_69 : decode cX3_back 69 = .ok (.iastore, 1) := by decide +kernel
theorem dX3_back_70 : decode cX3_back 70 = .ok (.iinc 5 1, 3) := by decide +kernel
theorem dX3_back_73 : decode cX3_back 73 = .ok (.goto (-29), 3) := by decide +kernel
theorem dX3_back_76 : decode cX3_back 76 = .ok (.iconst 0, 1) := by decide +kernel
theorem dX3_back_77 : decode cX3_back 77 = .ok (.istore 5, 2) := by decide +kernel
theorem dX3_back_79 : decode cX3_back 79 = .ok (.iload 5, 2) := by decide +kernel
theorem dX3_back_81 : decode cX3_back 81 = .ok (.iconst 1, 1) := by decide +kernel
theorem dX3_back_82 : decode cX3_back 82 = .ok (.iadd, 1) := by decide +kernel
theorem dX3_back_83 : decode cX3_back 83 = .ok (.iload 4, 2) := by decide +kernel
theorem dX3_back_85 : decode cX3_back 85 = .ok (.if_icmp .ge 62, 3) := by decide +kernel
theorem dX3_back_88 : decode cX3_back 88 = .ok (.iload 4, 2) := by decide +kernel
end
section
theorem dX3_back_90 : decode cX3_back 90 = .ok (.iconst 2, 1) := by decide +kernel
theorem dX3_back_91 : decode cX3_back 91 = .ok (.isub, 1) := by decide +kernel
theorem dX3_back_92 : decode cX3_back 92 = .ok (.iload 5, 2) := by decide +kernel
theorem dX3_back_94 : decode cX3_back 94 = .ok (.isub, 1) := by decide +kernel
theorem dX3_back_95 : decode cX3_back 95 = .ok (.istore 6, 2) := by decide +kernel
theorem dX3_back_97 : decode cX3_back 97 = .ok (.aload_n 0, 1) := by decide +kernel
theorem dX3_back_98 : decode cX3_back 98 = .ok (.iload_n 2, 1) := by decide +kernel
theorem dX3_back_99 : decode cX3_back 99 = .ok (.iload 6, 2) := by decide +kernel
theorem dX3_back_101 : decode cX3_back 101 = .ok (.iconst 1, 1) := by decide +kernel
theorem dX3_back_102 : decode cX3_back 102 = .ok (.iadd, 1) := by decide +kernel
theorem dX3_back_103 : decode cX3_back 103 = .ok (.invokevirtual 145, 3) := by decide +kernel
theorem dX3_back_106 : decode cX3_back 106 = .ok (.ifCond .eq 35, 3) := by decide +kernel
theorem dX3_back_109 : decode cX3_back 109 = .ok (.aload_n 0, 1) := by decide +kernel
theorem dX3_back_110 : decode cX3_back 110 = .ok (.getfield 38, 3) := by decide +kernel
theorem dX3_back_113 : decode cX3_back 113 = .ok (.iload 5, 2) := by decide +kernel
theorem dX3_back_115 : decode cX3_back 115 = .ok (.aload_n 0, 1) := by decide +kernel
theorem dX3_back_116 : decode cX3_back 116 = .ok (.iload_n 2, 1) := by decide +kernel
theorem dX3_back_117 : decode cX3_back 117 = .ok (.iload 6, 2) := by decide +kernel
theorem dX3_back_119 : decode cX3_back 119 = .ok (.invokevirtual 94, 3) := by decide +kernel
theorem dX3_back_122 : decode cX3_back 122 = .ok (.iastore, 1) := by decide +kernel
theorem dX3_back_123 : decode cX3_back 123 = .ok (.aload_n 0, 1) := by decide +kernel
theorem dX3_back_124 : decode cX3_back 124 = .ok (.getfield 38, 3) := by decide +kernel
theorem dX3_back_127 : decode cX3_back 127 = .ok (.iload 5, 2) := by decide +kernel
theorem dX3_back_129 : decode cX3_back 129 = .ok (.iconst 1, 1) := by decide +kernel
theorem dX3_back_130 : decode cX3_back 130 = .ok (.iadd, 1) := by decide +kernel
theorem dX3_back_131 : decode cX3_back 131 = .ok (.aload_n 0, 1) := by decide +kernel
theorem dX3_back_132 : decode cX3_back 132 = .ok (.iload_n 2, 1) := by decide +kernel
theorem dX3_back_133 : decode cX3_back 133 = .ok (.iload 6, 2) := by decide +kernel
theorem dX3_back_135 : decode cX3_back 135 = .ok (.iconst 1, 1) := by decide +kernel
theorem dX3_back_136 : decode cX3_back 136 = .ok (.iadd, 1) := by decide +kernel
theorem dX3_back_137 : decode cX3_back 137 = .ok (.invokevirtual 94, 3) := by decide +kernel
theorem dX3_back_140 : decode cX3_back 140 = .ok (.iastore, 1) := by decide +kernel
theorem dX3_back_141 : decode cX3_back 141 = .ok (.iinc 5 1, 3) := by decide +kernel
theorem dX3_back_144 : decode cX3_back 144 = .ok (.goto (-65), 3) := by decide +kernel
theorem dX3_back_147 : decode cX3_back 147 = .ok (.aload_n 0, 1) := by decide +kernel
theorem dX3_back_148 : decode cX3_back 148 = .ok (.iload_n 1, 1) := by decide +kernel
theorem dX3_back_149 : decode cX3_back 149 = .ok (.iload_n 3, 1) := by decide +kernel
theorem dX3_back_150 : decode cX3_back 150 = .ok (.aload_n 0, 1) := by decide +kernel
theorem dX3_back_151 : decode cX3_back 151 = .ok (.getfield 38, 3) := by decide +kernel
theorem dX3_back_154 : decode cX3_back 154 = .ok (.iload 4, 2) := by decide +kernel
theorem dX3_back_156 : decode cX3_back 156 = .ok (.invokevirtual 115, 3) := by decide +kernel
theorem dX3_back_159 : decode cX3_back 159 = .ok (.ireturn, 1) := by decide +kernel
set_option maxRecDepth 20000 in
theorem ggX3_copy_X3_isText : GoodIn wsX3_copy wsX3_isText := goodIn_r _ [8, 9, 10, 7, 11] (by decide +kernel) (by decide +kernel)
set_option maxRecDepth 20000 in
theorem gX3_copy_X3_isText : GoodIn wsX3_copy (va_wsS RX3 112 yX3_isText wsX3_isText) := goodIn_app (goodIn_of _ (by decide +kernel)) ggX3_copy_X3_isText
set_option maxRecDepth 20000 in
theorem ggX3_copy_X3_sortOf : GoodIn wsX3_copy wsX3_sortOf := goodIn_r _ [15, 4, 16, 35, 36, 37, 38, 39, 40, 41, 42, 43, 44, 45, 46, 47, 48, 49, 50, 51, 52] (by decide +kernel) (by decide +kernel)
set_option maxRecDepth 20000 in
theorem gX3_copy_X3_sortOf : GoodIn wsX3_copy (wsV RX3 88 RX3 yX3_sortOf wsX3_sortOf) := goodIn_app (goodIn_of _ (by decide +kernel)) ggX3_copy_X3_sortOf
set_option maxRecDepth 20000 in
theorem ggX3_copy_X3_no : GoodIn wsX3_copy wsX3_no := goodIn_r _ [20, 21, 35, 36, 37, 38, 39, 40, 41, 42, 43, 44, 45, 46, 47, 48, 49, 50, 51, 52] (by decide +kernel) (by decide +kernel)
set_option maxRecDepth 20000 in
theorem gX3_copy_X3_no : GoodIn wsX3_copy (wsV RX3 56 RX3 yX3_no wsX3_no) := goodIn_app (goodIn_of _ (by decide +kernel)) ggX3_copy_X3_no
set_option maxRecDepth 20000 in
theorem ggX3_copy_X3_manyOf : GoodIn wsX3_copy wsX3_manyOf := goodIn_r _ [25, 26, 4, 35, 36, 37, 38, 39, 40, 41, 42, 43, 44, 45, 46, 47, 48, 49, 50, 51, 52] (by decide +kernel) (by decide +kernel)
set_option maxRecDepth 20000 in
theorem gX3_copy_X3_manyOf : GoodIn wsX3_copy (wsV RX3 91 RX3 yX3_manyOf wsX3_manyOf) := goodIn_app (goodIn_of _ (by decide +kernel)) ggX3_copy_X3_manyOf
set_option maxRecDepth 20000 in
theorem ggX3_copy_X3_item : GoodIn wsX3_copy wsX3_item := goodIn_r _ [30, 3, 4, 35, 36, 37, 38, 39, 40, 41, 42, 43, 44, 45, 46, 47, 48, 49, 50, 51, 52] (by decide +kernel) (by decide +kernel)
set_option maxRecDepth 20000 in
theorem gX3_copy_X3_item : GoodIn wsX3_copy (wsV RX3 94 RX3 yX3_item wsX3_item) := goodIn_app (goodIn_of _ (by decide +kernel)) ggX3_copy_X3_item
set_option maxRecDepth 20000 in
theorem ggX3_copy_X3_yes : GoodIn wsX3_copy wsX3_yes := goodIn_r _ [34, 21, 35, 36, 37, 38, 39, 40, 41, 42, 43, 44, 45, 46, 47, 48, 49, 50, 51, 52] (by decide +kernel) (by decide +kernel)
set_option maxRecDepth 20000 in
theorem gX3_copy_X3_yes : GoodIn wsX3_copy (wsV RX3 67 RX3 yX3_yes wsX3_yes) := goodIn_app (goodIn_of _ (by decide +kernel)) ggX3_copy_X3_yes
theorem dX3_copy_0 : decode cX3_copy 0 = .ok (.iload_n 1, 1) := by decide +kernel
theorem dX3_copy_1 : decode cX3_copy 1 = .ok (.invokestatic 112, 3) := by decide +kernel
theorem dX3_copy_4 : decode cX3_copy 4 = .ok (.ifCond .eq 10, 3) := by decide +kernel
theorem dX3_copy_7 : decode cX3_copy 7 = .ok (.iload_n 3, 1) := by decide +kernel
theorem dX3_copy_8 : decode cX3_copy 8 = .ok (.invokestatic 112, 3) := by decide +kernel
theorem dX3_copy_11 : decode cX3_copy 11 = .ok (.ifCond .ne 6, 3) := by decide +kernel
theorem dX3_copy_14 : decode cX3_copy 14 = .ok (.ldc 107, 2) := by decide +kernel
theorem dX3_copy_16 : decode cX3_copy 16 = .ok (.ireturn, 1) := by decide +kernel
theorem dX3_copy_17 : decode cX3_copy 17 = .ok (.aload_n 0, 1) := by decide +kernel
theorem dX3_copy_18 : decode cX3_copy 18 = .ok (.iload_n 1, 1) := by decide +kernel
theorem dX3_copy_19 : decode cX3_copy 19 = .ok (.invokevirtual 88, 3) := by decide +kernel
theorem dX3_copy_22 : decode cX3_copy 22 = .ok (.iconst (-1), 1) := by decide +kernel
theorem dX3_copy_23 : decode cX3_copy 23 = .ok (.if_icmp .eq 12, 3) := by decide +kernel
theorem dX3_copy_26 : decode cX3_copy 26 = .ok (.aload_n 0, 1) := by decide +kernel
theorem dX3_copy_27 : decode cX3_copy 27 = .ok (.iload_n 3, 1) := by decide +kernel
theorem dX3_copy_28 : decode cX3_copy 28 = .ok (.invokevirtual 88, 3) := by decide +kernel
theorem dX3_copy_31 : decode cX3_copy 31 = .ok (.iconst (-1), 1) := by decide +kernel
theorem dX3_copy_32 : decode cX3_copy 32 = .ok (.if_icmp .ne 9, 3) := by decide +kernel
theorem dX3_copy_35 : decode cX3_copy 35 = .ok (.aload_n 0, 1) := by decide +kernel
theorem dX3_copy_36 : decode cX3_copy 36 = .ok (.iconst 1, 1) := by decide +kernel
theorem dX3_copy_37 : decode cX3_copy 37 = .ok (.invokevirtual 56, 3) := by decide +kernel
theorem dX3_copy_40 : decode cX3_copy 40 = .ok (.ireturn, 1) := by decide +kernel
theorem dX3_copy_41 : decode cX3_copy 41 = .ok (.aload_n 0, 1) := by decide +kernel
theorem dX3_copy_42 : decode cX3_copy 42 = .ok (.iload_n 1, 1) := by decide +kernel
theorem dX3_copy_43 : decode cX3_copy 43 = .ok (.invokevirtual 88, 3) := by decide +kernel
theorem dX3_copy_46 : decode cX3_copy 46 = .ok (.iconst 1, 1) := by decide +kernel
theorem dX3_copy_47 : decode cX3_copy 47 = .ok (.if_icmp .eq 16, 3) := by decide +kernel
theorem dX3_copy_50 : decode cX3_copy 50 = .ok (.aload_n 0, 1) := by decide +kernel
theorem dX3_copy_51 : decode cX3_copy 51 = .ok (.iload_n 1, 1) := by decide +kernel
theorem dX3_copy_52 : decode cX3_copy 52 = .ok (.invokevirtual 88, 3) := by decide +kernel
theorem dX3_copy_55 : decode cX3_copy 55 = .ok (.aload_n 0, 1) := by decide +kernel
theorem dX3_copy_56 : decode cX3_copy 56 = .ok (.iload_n 3, 1) := by decide +kernel
theorem dX3_copy_57 : decode cX3_copy 57 = .ok (.invokevirtual 88, 3) := by decide +kernel
theorem dX3_copy_60 : decode cX3_copy 60 = .ok (.if_icmp .eq 9, 3) := by decide +kernel
theorem dX3_copy_63 : decode cX3_copy 63 = .ok (.aload_n 0, 1) := by decide +kernel
theorem dX3_copy_64 : decode cX3_copy 64 = .ok (.iconst 2, 1) := by decide +kernel
theorem dX3_copy_65 : decode cX3_copy 65 = .ok (.invokevirtual 56, 3) := by decide +kernel
theorem dX3_copy_68 : decode cX3_copy 68 = .ok (.ireturn, 1) := by decide +kernel
theorem dX3_copy_69 : decode cX3_copy 69 = .ok (.iload_n 2, 1) := by decide +kernel
theorem dX3_copy_70 : decode cX3_copy 70 = .ok (.ifCond .lt 46, 3) := by decide +kernel
theorem dX3_copy_73 : decode cX3_copy 73 = .ok (.iload 4, 2) := by decide +kernel
theorem dX3_copy_75 : decode cX3_copy 75 = .ok (.ifCond .lt 41, 3) := by decide +kernel
theorem dX3_copy_78 : decode cX3_copy 78 = .ok (.iload 5, 2) := by decide +kernel
theorem dX3_copy_80 : decode cX3_copy 80 = .ok (.ifCond .lt 36, 3) := by decide +kernel
theorem dX3_copy_83 : decode cX3_copy 83 = .ok (.iload_n 2, 1) := by decide +kernel
theorem dX3_copy_84 : decode cX3_copy 84 = .ok (.i2l, 1) := by decide +kernel
theorem dX3_copy_85 : decode cX3_copy 85 = .ok (.iload 5, 2) := by decide +kernel
theorem dX3_copy_87 : decode cX3_copy 87 = .ok (.i2l, 1) := by decide +kernel
theorem dX3_copy_88 : decode cX3_copy 88 = .ok (.ladd, 1) := by decide +kernel
theorem dX3_copy_89 : decode cX3_copy 89 = .ok (.aload_n 0, 1) := by decide +kernel
theorem dX3_copy_90 : decode cX3_copy 90 = .ok (.iload_n 1, 1) := by decide +kernel
theorem dX3_copy_91 : decode cX3_copy 91 = .ok (.invokevirtual 91, 3) := by decide +kernel
theorem dX3_copy_94 : decode cX3_copy 94 = .ok (.i2l, 1) := by decide +kernel
theorem dX3_copy_95 : decode cX3_copy 95 = .ok (.lcmp, 1) := by decide +kernel
theorem dX3_copy_96 : decode cX3_copy 96 = .ok (.ifCond .gt 20, 3) := by decide +kernel
theorem dX3_copy_99 : decode cX3_copy 99 = .ok (.iload 4, 2) := by decide +kernel
theorem dX3_copy_101 : decode cX3_copy 101 = .ok (.i2l, 1) := by decide +kernel
theorem dX3_copy_102 : decode cX3_copy 102 = .ok (.iload 5, 2) := by decide +kernel
theorem dX3_copy_104 : decode cX3_copy 104 = .ok (.i2l, 1) := by decide +kernel
theorem dX3_copy_105 : decode cX3_copy 105 = .ok (.ladd, 1) := by decide +kernel
theorem dX3_copy_106 : decode cX3_copy 106 = .ok (.aload_n 0, 1) := by decide +kernel
theorem dX3_copy_107 : decode cX3_copy 107 = .ok (.iload_n 3, 1) := by decide +kernel
theorem dX3_copy_108 : decode cX3_copy 108 = .ok (.invokevirtual 91, 3) := by decide +kernel
theorem dX3_copy_111 : decode cX3_copy 111 = .ok (.i2l, 1) := by decide +kernel
theorem dX3_copy_112 : decode cX3_copy 112 = .ok (.lcmp, 1) := by decide +kernel
theorem dX3_copy_113 : decode cX3_copy 113 = .ok (.ifCond .le 9, 3) := by decide +kernel
theorem dX3_copy_116 : decode cX3_copy 116 = .ok (.aload_n 0, 1) := by decide +kernel
theorem dX3_copy_117 : decode cX3_copy 117 = .ok (.iconst 3, 1) := by decide +kernel
theorem dX3_copy_118 : decode cX3_copy 118 = .ok (.invokevirtual 56, 3) := by decide +kernel
theorem dX3_copy_121 : decode cX3_copy 121 = .ok (.ireturn, 1) := by decide +kernel
theorem dX3_copy_122 : decode cX3_copy 122 = .ok (.iconst 0, 1) := by decide +kernel
theorem dX3_copy_123 : decode cX3_copy 123 = .ok (.istore 6, 2) := by decide +kernel
theorem dX3_copy_125 : decode cX3_copy 125 = .ok (.iload 6, 2) := by decide +kernel
theorem dX3_copy_127 : decode cX3_copy 127 = .ok (.iload 5, 2) := by decide +kernel
theorem dX3_copy_129 : decode cX3_copy 129 = .ok (.if_icmp .ge 25, 3) := by decide +kernel
theorem dX3_copy_132 : decode cX3_copy 132 = .ok (.aload_n 0, 1) := by decide +kernel
theorem dX3_copy_133 : decode cX3_copy 133 = .ok (.getfield 38, 3) := by decide +kernel
theorem dX3_copy_136 : decode cX3_copy 136 = .ok (.iload 6, 2) := by decide +kernel
theorem dX3_copy_138 : decode cX3_copy 138 = .ok (.aload_n 0, 1) := by decide +kernel
theorem dX3_copy_139 : decode cX3_copy 139 = .ok (.iload_n 1, 1) := by decide +kernel
theorem dX3_copy_140 : decode cX3_copy 140 = .ok (.iload_n 2, 1) := by decide +kernel
theorem dX3_copy_141 : decode cX3_copy 141 = .ok (.iload 6, 2) := by decide +kernel
theorem dX3_copy_143 : decode cX3_copy 143 = .ok (.iadd, 1) := by decide +kernel
theorem dX3_copy_144 : decode cX3_copy 144 = .ok (.invokevirtual 94, 3) := by decide +kernel
theorem dX3_copy_147 : decode cX3_copy 147 = .ok (.iastore, 1) := by decide +kernel
theorem dX3_copy_148 : decode cX3_copy 148 = .ok (.iinc 6 1, 3) := by decide +kernel
theorem dX3_copy_151 : decode cX3_copy 151 = .ok (.goto (-26), 3) := by decide +kernel
theorem dX3_copy_154 : decode cX3_copy 154 = .ok (.iconst 0, 1) := by decide +kernel
theorem dX3_copy_155 : decode cX3_copy 155 = .ok (.istore 6, 2) := by decide +kernel
theorem dX3_copy_157 : decode cX3_copy 157 = .ok (.iload 6, 2) := by decide +kernel
theorem dX3_copy_159 : decode cX3_copy 159 = .ok (.iload 5, 2) := by decide +kernel
theorem dX3_copy_161 : decode cX3_copy 161 = .ok (.if_icmp .ge 37, 3) := by decide +kernel
theorem dX3_copy_164 : decode cX3_copy 164 = .ok (.aload_n 0, 1) := by decide +kernel
theorem dX3_copy_165 : decode cX3_copy 165 = .ok (.getfield 22, 3) := by decide +kernel
theorem dX3_copy_168 : decode cX3_copy 168 = .ok (.sipush 240, 3) := by decide +kernel
theorem dX3_copy_171 : decode cX3_copy 171 = .ok (.aload_n 0, 1) := by decide +kernel
theorem dX3_copy_172 : decode cX3_copy 172 = .ok (.getfield 7, 3) := by decide +kernel
theorem dX3_copy_175 : decode cX3_copy 175 = .ok (.iload_n 3, 1) := by decide +kernel
theorem dX3_copy_176 : decode cX3_copy 176 = .ok (.iaload, 1) := by decide +kernel
theorem dX3_copy_177 : decode cX3_copy 177 = .ok (.imul, 1) := by decide +kernel
theorem dX3_copy_178 : decode cX3_copy 178 = .ok (.iload 4, 2) := by decide +kernel
theorem dX3_copy_180 : decode cX3_copy 180 = .ok (.iadd, 1) := by decide +kernel
theorem dX3_copy_181 : decode cX3_copy 181 = .ok (.iload 6, 2) := by decide +kernel
theorem dX3_copy_183 : decode cX3_copy 183 = .ok (.iadd, 1) := by decide +kernel
theorem dX3_copy_184 : decode cX3_copy 184 = .ok (.aload_n 0, 1) := by decide +kernel
theorem dX3_copy_185 : decode cX3_copy 185 = .ok (.getfield 38, 3) := by decide +kernel
theorem dX3_copy_188 : decode cX3_copy 188 = .ok (.iload 6, 2) := by decide +kernel
theorem dX3_copy_190 : decode cX3_copy 190 = .ok (.iaload, 1) := by decide +kernel
theorem dX3_copy_191 : decode cX3_copy 191 = .ok (.iastore, 1) := by decide +kernel
theorem dX3_copy_192 : decode cX3_copy 192 = .ok (.iinc 6 1, 3) := by decide +kernel
theorem dX3_copy_195 : decode cX3_copy 195 = .ok (.goto (-38), 3) := by decide +kernel
theorem dX3_copy_198 : decode cX3_copy 198 = .ok (.aload_n 0, 1) := by decide +kernel
theorem dX3_copy_199 : decode cX3_copy 199 = .ok (.iload 5, 2) := by decide +kernel
theorem dX3_copy_201 : decode cX3_copy 201 = .ok (.invokevirtual 67, 3) := by decide +kernel
theorem dX3_copy_204 : decode cX3_copy 204 = .ok (.ireturn, 1) := by decide +kernel
set_option maxRecDepth 20000 in
theorem ggX3_find_X3_isText : GoodIn wsX3_find wsX3_isText := goodIn_r _ [6, 7, 8, 5, 9] (by decide +kernel) (by decide +kernel)
set_option maxRecDepth 20000 in
theorem gX3_find_X3_isText : GoodIn wsX3_find (va_wsS RX3 112 yX3_isText wsX3_isText) := goodIn_app (goodIn_of _ (by decide +kernel)) ggX3_find_X3_isText
set_option maxRecDepth 20000 in
theorem ggX3_find_X3_sortOf : GoodIn wsX3_find wsX3_sortOf := goodIn_r _ [13, 14, 15, 40, 41, 42, 43, 44, 45, 46, 47, 48, 49, 50, 51, 52, 53, 54, 55, 56, 57] (by decide +kernel) (by decide +kernel)
set_option maxRecDepth 20000 in
theorem gX3_find_X3_sortOf : GoodIn wsX3_find (wsV RX3 88 RX3 yX3_sortOf wsX3_sortOf) := goodIn_app (goodIn_of _ (by decide +kernel)) ggX3_find_X3_sortOf
set_option maxRecDepth 20000 in
theorem ggX3_find_X3_manyOf : GoodIn wsX3_find wsX3_manyOf := goodIn_r _ [19, 20, 14, 40, 41, 42, 43, 44, 45, 46, 47, 48, 49, 50, 51, 52, 53, 54, 55, 56, 57] (by decide +kernel) (by decide +kernel)
set_option maxRecDepth 20000 in
theorem gX3_find_X3_manyOf : GoodIn wsX3_find (wsV RX3 91 RX3 yX3_manyOf wsX3_manyOf) := goodIn_app (goodIn_of _ (by decide +kernel)) ggX3_find_X3_manyOf
set_option maxRecDepth 20000 in
theorem ggX3_find_X3_parts : GoodIn wsX3_find wsX3_parts := goodIn_r _ [24, 10, 11, 12, 5, 13, 14, 15, 16, 17, 18, 19, 20, 25, 26, 27, 28, 29, 30, 31, 32, 33, 34, 7, 8, 9, 35, 36, 37, 38, 39, 40, 41, 42, 43, 44, 45, 46, 47, 48, 49, 50, 51, 52, 53, 54, 55, 56, 57] (by decide +kernel) (by decide +kernel)
set_option maxRecDepth 20000 in
theorem gX3_find_X3_parts : GoodIn wsX3_find (wsV RX3 145 RX3 yX3_parts wsX3_parts) := goodIn_app (goodIn_of _ (by decide +kernel)) ggX3_find_X3_parts
set_option maxRecDepth 20000 in
theorem ggX3_find_X3_item : GoodIn wsX3_find wsX3_item := goodIn_r _ [28, 29, 14, 40, 41, 42, 43, 44, 45, 46, 47, 48, 49, 50, 51, 52, 53, 54, 55, 56, 57] (by decide +kernel) (by decide +kernel)
set_option maxRecDepth 20000 in
theorem gX3_find_X3_item : GoodIn wsX3_find (wsV RX3 94 RX3 yX3_item wsX3_item) := goodIn_app (goodIn_of _ (by decide +kernel)) ggX3_find_X3_item
theorem dX3_find_0 : decode cX3_find 0 = .ok (.iload_n 1, 1) := by decide +kernel
theorem dX3_find_1 : decode cX3_find 1 = .ok (.invokestatic 112, 3) := by decide +kernel
theorem dX3_find_4 : decode cX3_find 4 = .ok (.ifCond .eq 10, 3) := by decide +kernel
theorem dX3_find_7 : decode cX3_find 7 = .ok (.iload_n 2, 1) := by decide +kernel
theorem dX3_find_8 : decode cX3_find 8 = .ok (.invokestatic 112, 3) := by decide +kernel
theorem dX3_find_11 : decode cX3_find 11 = .ok (.ifCond .ne 6, 3) := by decide +kernel
theorem dX3_find_14 : decode cX3_find 14 = .ok (.ldc 107, 2) := by decide +kernel
theorem dX3_find_16 : decode cX3_find 16 = .ok (.ireturn, 1) := by decide +kernel
theorem dX3_find_17 : decode cX3_find 17 = .ok (.aload_n 0, 1) := by decide +kernel
theorem dX3_find_18 : decode cX3_find 18 = .ok (.iload_n 1, 1) := by decide +kernel
theorem dX3_find_19 : decode cX3_find 19 = .ok (.invokevirtual 88, 3) := by decide +kernel
theorem dX3_find_22 : decode cX3_find 22 = .ok (.iconst (-1), 1) := by decide +kernel
theorem dX3_find_23 : decode cX3_find 23 = .ok (.if_icmp .eq 12, 3) := by decide +kernel
theorem dX3_find_26 : decode cX3_find 26 = .ok (.aload_n 0, 1) := by decide +kernel
theorem dX3_find_27 : decode cX3_find 27 = .ok (.iload_n 2, 1) := by decide +kernel
theorem dX3_find_28 : decode cX3_find 28 = .ok (.invokevirtual 88, 3) := by decide +kernel
theorem dX3_find_31 : decode cX3_find 31 = .ok (.iconst (-1), 1) := by decide +kernel
theorem dX3_find_32 : decode cX3_find 32 = .ok (.if_icmp .ne 7, 3) := by decide +kernel
theorem dX3_find_35 : decode cX3_find 35 = .ok (.iconst 1, 1) := by decide +kernel
theorem dX3_find_36 : decode cX3_find 36 = .ok (.goto 21, 3) := by decide +kernel
theorem dX3_find_39 : decode cX3_find 39 = .ok (.aload_n 0, 1) := by decide +kernel
theorem dX3_find_40 : decode cX3_find 40 = .ok (.iload_n 1, 1) := by decide +kernel
theorem dX3_find_41 : decode cX3_find 41 = .ok (.invokevirtual 88, 3) := by decide +kernel
theorem dX3_find_44 : decode cX3_find 44 = .ok (.aload_n 0, 1) := by decide +kernel
theorem dX3_find_45 : decode cX3_find 45 = .ok (.iload_n 2, 1) := by decide +kernel
theorem dX3_find_46 : decode cX3_find 46 = .ok (.invokevirtual 88, 3) := by decide +kernel
theorem dX3_find_49 : decode cX3_find 49 = .ok (.if_icmp .eq 7, 3) := by decide +kernel
theorem dX3_find_52 : decode cX3_find 52 = .ok (.iconst 2, 1) := by decide +kernel
theorem dX3_find_53 : decode cX3_find 53 = .ok (.goto 4, 3) := by decide +kernel
theorem dX3_find_56 : decode cX3_find 56 = .ok (.iconst 0, 1) := by decide +kernel
theorem dX3_find_57 : decode cX3_find 57 = .ok (.istore 4, 2) := by decide +kernel
theorem dX3_find_59 : decode cX3_find 59 = .ok (.aload_n 0, 1) := by decide +kernel
theorem dX3_find_60 : decode cX3_find 60 = .ok (.iload 4, 2) := by decide +kernel
theorem dX3_find_62 : decode cX3_find 62 = .ok (.putfield 53, 3) := by decide +kernel
theorem dX3_find_65 : decode cX3_find 65 = .ok (.iload 4, 2) := by decide +kernel
theorem dX3_find_67 : decode cX3_find 67 = .ok (.ifCond .eq 5, 3) := by decide +kernel
theorem dX3_find_70 : decode cX3_find 70 = .ok (.iconst (-1), 1) := by decide +kernel
theorem dX3_find_71 : decode cX3_find 71 = .ok (.ireturn, 1) := by decide +kernel
theorem dX3_find_72 : decode cX3_find 72 = .ok (.aload_n 0, 1) := by decide +kernel
theorem dX3_find_73 : decode cX3_find 73 = .ok (.iload_n 2, 1) := by decide +kernel
theorem dX3_find_74 : decode cX3_find 74 = .ok (.invokevirtual 91, 3) := by decide +kernel
theorem dX3_find_77 : decode cX3_find 77 = .ok (.istore 5, 2) := by decide +kernel
theorem dX3_find_79 : decode cX3_find 79 = .ok (.iload_n 3, 1) := by decide +kernel
theorem dX3_find_80 : decode cX3_find 80 = .ok (.ifCond .ge 7, 3) := by decide +kernel
theorem dX3_find_83 : decode cX3_find 83 = .ok (.iconst 0, 1) := by decide +kernel
theorem dX3_find_84 : decode cX3_find 84 = .ok (.goto 4, 3) := by decide +kernel
theorem dX3_find_87 : decode cX3_find 87 = .ok (.iload_n 3, 1) := by decide +kernel
theorem dX3_find_88 : decode cX3_find 88 = .ok (.istore 6, 2) := by decide +kernel
theorem dX3_find_90 : decode cX3_find 90 = .ok (.iload 6, 2) := by decide +kernel
theorem dX3_find_92 : decode cX3_find 92 = .ok (.aload_n 0, 1) := by decide +kernel
theorem dX3_find_93 : decode cX3_find 93 = .ok (.iload_n 1, 1) := by decide +kernel
theorem dX3_find_94 : decode cX3_find 94 = .ok (.invokevirtual 91, 3) := by decide +kernel
theorem dX3_find_97 : decode cX3_find 97 = .ok (.iload 5, 2) := by decide +kernel
theorem dX3_find_99 : decode cX3_find 99 = .ok (.isub, 1) := by decide +kernel
theorem dX3_find_100 : decode cX3_find 100 = .ok (.if_icmp .gt 95, 3) := by decide +kernel
theorem dX3_find_103 : decode cX3_find 103 = .ok (.aload_n 0, 1) := by decide +kernel
theorem dX3_find_104 : decode cX3_find 104 = .ok (.iload_n 1, 1) := by decide +kernel
theorem dX3_find_105 : decode cX3_find 105 = .ok (.iload 6, 2) := by decide +kernel
theorem dX3_find_107 : decode cX3_find 107 = .ok (.invokevirtual 145, 3) := by decide +kernel
theorem dX3_find_110 : decode cX3_find 110 = .ok (.ifCond .ne 20, 3) := by decide +kernel
theorem dX3_find_113 : decode cX3_find 113 = .ok (.aload_n 0, 1) := by decide +kernel
theorem dX3_find_114 : decode cX3_find 114 = .ok (.iload_n 1, 1) := by decide +kernel
theorem dX3_find_115 : decode cX3_find 115 = .ok (.iload 6, 2) := by decide +kernel
theorem dX3_find_117 : decode cX3_find 117 = .ok (.iload 5, 2) := by decide +kernel
theorem dX3_find_119 : decode cX3_find 119 = .ok (.iadd, 1) := by decide +kernel
theorem dX3_find_120 : decode cX3_find 120 = .ok (.invokevirtual 145, 3) := by decide +kernel
theorem dX3_find_123 : decode cX3_find 123 = .ok (.ifCond .ne 7, 3) := by decide +kernel
theorem dX3_find_126 : decode cX3_find 126 = .ok (.iconst 1, 1) := by decide +kernel
theorem dX3_find_127 : decode cX3_find 127 = .ok (.goto 4, 3) := by decide +kernel
theorem dX3_find_130 : decode cX3_find 130 = .ok (.iconst 0, 1) := by decide +kernel
theorem dX3_find_131 : decode cX3_find 131 = .ok (.istore 7, 2) := by decide +kernel
theorem dX3_find_133 : decode cX3_find 133 = .ok (.iconst 0, 1) := by decide +kernel
theorem dX3_find_134 : decode cX3_find 134 = .ok (.istore 8, 2) := by decide +kernel
theorem dX3_find_136 : decode cX3_find 136 = .ok (.iload 8, 2) := by decide +kernel
theorem dX3_find_138 : decode cX3_find 138 = .ok (.iload 5, 2) := by decide +kernel
theorem dX3_find_140 : decode cX3_find 140 = .ok (.if_icmp .ge 41, 3) := by decide +kernel
theorem dX3_find_143 : decode cX3_find 143 = .ok (.iload 7, 2) := by decide +kernel
theorem dX3_find_145 : decode cX3_find 145 = .ok (.ifCond .eq 36, 3) := by decide +kernel
theorem dX3_find_148 : decode cX3_find 148 = .ok (.aload_n 0, 1) := by decide +kernel
theorem dX3_find_149 : decode cX3_find 149 = .ok (.iload_n 1, 1) := by decide +kernel
theorem dX3_find_150 : decode cX3_find 150 = .ok (.iload 6, 2) := by decide +kernel
theorem dX3_find_152 : decode cX3_find 152 = .ok (.iload 8, 2) := by decide +kernel
theorem dX3_find_154 : decode cX3_find 154 = .ok (.iadd, 1) := by decide +kernel
theorem dX3_find_155 : decode cX3_find 155 = .ok (.invokevirtual 94, 3) := by decide +kernel
theorem dX3_find_158 : decode cX3_find 158 = .ok (.aload_n 0, 1) := by decide +kernel
theorem dX3_find_159 : decode cX3_find 159 = .ok (.iload_n 2, 1) := by decide +kernel
theorem dX3_find_160 : decode cX3_find 160 = .ok (.iload 8, 2) := by decide +kernel
theorem dX3_find_162 : decode cX3_find 162 = .ok (.invokevirtual 94, 3) := by decide +kernel
theorem dX3_find_165 : decode cX3_find 165 = .ok (.if_icmp .ne 7, 3) := by decide +kernel
theorem dX3_find_168 : decode cX3_find 168 = .ok (.iconst 1, 1) := by decide +kernel
theorem dX3_find_169 : decode cX3_find 169 = .ok (.goto 4, 3) := by decide +kernel
theorem dX3_find_172 : decode cX3_find 172 = .ok (.iconst 0, 1) := by decide +kernel
theorem dX3_find_173 : decode cX3_find 173 = .ok (.istore 7, 2) := by decide +kernel
theorem dX3_find_175 : decode cX3_find 175 = .ok (.iinc 8 1, 3) := by decide +kernel
theorem dX3_find_178 : decode cX3_find 178 = .ok (.goto (-42), 3) := by decide +kernel
theorem dX3_find_181 : decode cX3_find 181 = .ok (.iload 7, 2) := by decide +kernel
theorem dX3_find_183 : decode cX3_find 183 = .ok (.ifCond .eq 6, 3) := by decide +kernel
theorem dX3_find_186 : decode cX3_find 186 = .ok (.iload 6, 2) := by decide +kernel
theorem dX3_find_188 : decode cX3_find 188 = .ok (.ireturn, 1) := by decide +kernel
theorem dX3_find_189 : decode cX3_find 189 = .ok (.iinc 6 1, 3) := by decide +kernel
theorem dX3_find_192 : decode cX3_find 192 = .ok (.goto (-102), 3) := by decide +kernel
theorem dX3_find_195 : decode cX3_find 195 = .ok (.iconst (-1), 1) := by decide +kernel
theorem dX3_find_196 : decode cX3_find 196 = .ok (.ireturn, 1) := by decide +kernel
theorem dX3_against_0 : decode cX3_against 0 = .ok (.iconst 0, 1) := by decide +kernel
theorem dX3_against_1 : decode cX3_against 1 = .ok (.istore_n 3, 1) := by decide +kernel
theorem dX3_against_2 : decode cX3_against 2 = .ok (.iload_n 3, 1) := by decide +kernel
theorem dX3_against_3 : decode cX3_against 3 = .ok (.iload_n 2, 1) := by decide +kernel
theorem dX3_against_4 : decode cX3_against 4 = .ok (.if_icmp .ge 47, 3) := by decide +kernel
theorem dX3_against_7 : decode cX3_against 7 = .ok (.iload_n 3, 1) := by decide +kernel
theorem dX3_against_8 : decode cX3_against 8 = .ok (.aload_n 0, 1) := by decide +kernel
theorem dX3_against_9 : decode cX3_against 9 = .ok (.getfield 149, 3) := by decide +kernel
theorem dX3_against_12 : decode cX3_against 12 = .ok (.if_icmp .ge 39, 3) := by decide +kernel
theorem dX3_against_15 : decode cX3_against 15 = .ok (.aload_n 1, 1) := by decide +kernel
theorem dX3_against_16 : decode cX3_against 16 = .ok (.iload_n 3, 1) := by decide +kernel
theorem dX3_against_17 : decode cX3_against 17 = .ok (.iaload, 1) := by decide +kernel
theorem dX3_against_18 : decode cX3_against 18 = .ok (.aload_n 0, 1) := by decide +kernel
theorem dX3_against_19 : decode cX3_against 19 = .ok (.getfield 38, 3) := by decide +kernel
theorem dX3_against_22 : decode cX3_against 22 = .ok (.iload_n 3, 1) := by decide +kernel
theorem dX3_against_23 : decode cX3_against 23 = .ok (.iaload, 1) := by decide +kernel
theorem dX3_against_24 : decode cX3_against 24 = .ok (.if_icmp .eq 21, 3) := by decide +kernel
theorem dX3_against_27 : decode cX3_against 27 = .ok (.aload_n 1, 1) := by decide +kernel
theorem dX3_against_28 : decode cX3_against 28 = .ok (.iload_n 3, 1) := by decide +kernel
theorem dX3_against_29 : decode cX3_against 29 = .ok (.iaload, 1) := by decide +kernel
theorem dX3_against_30 : decode cX3_against 30 = .ok (.aload_n 0, 1) := by decide +kernel
theorem dX3_against_31 : decode cX3_against 31 = .ok (.getfield 38, 3) := by decide +kernel
theorem dX3_against_34 : decode cX3_against 34 = .ok (.iload_n 3, 1) := by decide +kernel
theorem dX3_against_35 : decode cX3_against 35 = .ok (.iaload, 1) := by decide +kernel
theorem dX3_against_36 : decode cX3_against 36 = .ok (.if_icmp .ge 7, 3) := by decide +kernel
theorem dX3_against_39 : decode cX3_against 39 = .ok (.iconst (-1), 1) := by decide +kernel
theorem dX3_against_40 : decode cX3_against 40 = .ok (.goto 4, 3) := by decide +kernel
theorem dX3_against_43 : decode cX3_against 43 = .ok (.iconst 1, 1) := by decide +kernel
theorem dX3_against_44 : decode cX3_against 44 = .ok (.ireturn, 1) := by decide +kernel
theorem dX3_against_45 : decode cX3_against 45 = .ok (.iinc 3 1, 3) := by decide +kernel
theorem dX3_against_48 : decode cX3_against 48 = .ok (.goto (-46), 3) := by decide +kernel
theorem dX3_against_51 : decode cX3_against 51 = .ok (.iload_n 2, 1) := by decide +kernel
theorem dX3_against_52 : decode cX3_against 52 = .ok (.aload_n 0, 1) := by decide +kernel
theorem dX3_against_53 : decode cX3_against 53 = .ok (.getfield 149, 3) := by decide +kernel
theorem dX3_against_56 : decode cX3_against 56 = .ok (.if_icmp .ge 7, 3) := by decide +kernel
theorem dX3_against_59 : decode cX3_against 59 = .ok (.iconst (-1), 1) := by decide +kernel
theorem dX3_against_60 : decode cX3_against 60 = .ok (.goto 16, 3) := by decide +kernel
theorem dX3_against_63 : decode cX3_against 63 = .ok (.iload_n 2, 1) := by decide +kernel
theorem dX3_against_64 : decode cX3_against 64 = .ok (.aload_n 0, 1) := by decide +kernel
theorem dX3_against_65 : decode cX3_against 65 = .ok (.getfield 149, 3) := by decide +kernel
theorem dX3_against_68 : decode cX3_against 68 = .ok (.if_icmp .le 7, 3) := by decide +kernel
theorem dX3_against_71 : decode cX3_against 71 = .ok (.iconst 1, 1) := by decide +kernel
theorem dX3_against_72 : decode cX3_against 72 = .ok (.goto 4, 3) := by decide +kernel
theorem dX3_against_75 : decode cX3_against 75 = .ok (.iconst 0, 1) := by decide +kernel
theorem dX3_against_76 : decode cX3_against 76 = .ok (.ireturn, 1) := by decide +kernel
set_option maxRecDepth 20000 in
theorem ggX3_compare_X3_isText : GoodIn wsX3_compare wsX3_isText := goodIn_r _ [11, 12, 13, 10, 14] (by decide +kernel) (by decide +kernel)
set_option maxRecDepth 20000 in
theorem gX3_compare_X3_isText : GoodIn wsX3_compare (va_wsS RX3 112 yX3_isText wsX3_isText) := goodIn_app (goodIn_of _ (by decide +kernel)) ggX3_compare_X3_isText
set_option maxRecDepth 20000 in
theorem ggX3_compare_X3_within : GoodIn wsX3_compare wsX3_within := goodIn_r _ [14] (by decide +kernel) (by decide +kernel)
set_option maxRecDepth 20000 in
theorem gX3_compare_X3_within : GoodIn wsX3_compare (va_wsS RX3 44 yX3_within wsX3_within) := goodIn_app (goodIn_of _ (by decide +kernel)) ggX3_compare_X3_within
set_option maxRecDepth 20000 in
theorem ggX3_compare_X3_sortOf : GoodIn wsX3_compare wsX3_sortOf := goodIn_r _ [18, 19, 20, 71, 72, 73, 74, 75, 76, 77, 78, 79, 80, 81, 82, 83, 84, 85, 86, 87, 88] (by decide +kernel) (by decide +kernel)
set_option maxRecDepth 20000 in
theorem gX3_compare_X3_sortOf : GoodIn wsX3_compare (wsV RX3 88 RX3 yX3_sortOf wsX3_sortOf) := goodIn_app (goodIn_of _ (by decide +kernel)) ggX3_compare_X3_sortOf
set_option maxRecDepth 20000 in
theorem ggX3_compare_X3_no : GoodIn wsX3_compare wsX3_no := goodIn_r _ [24, 25, 71, 72, 73, 74, 75, 76, 77, 78, 79, 80, 81, 82, 83, 84, 85, 86, 87, 88] (by decide +kernel) (by decide +kernel)
set_option maxRecDepth 20000 in
theorem gX3_compare_X3_no : GoodIn wsX3_compare (wsV RX3 56 RX3 yX3_no wsX3_no) := goodIn_app (goodIn_of _ (by decide +kernel)) ggX3_compare_X3_no
set_option maxRecDepth 20000 in
theorem ggX3_compare_X3_manyOf : GoodIn wsX3_compare wsX3_manyOf := goodIn_r _ [29, 30, 19, 71, 72, 73, 74, 75, 76, 77, 78, 79, 80, 81, 82, 83, 84, 85, 86, 87, 88] (by decide +kernel) (by decide +kernel)
set_option maxRecDepth 20000 in
theorem gX3_compare_X3_manyOf : GoodIn wsX3_compare (wsV RX3 91 RX3 yX3_manyOf wsX3_manyOf) := goodIn_app (goodIn_of _ (by decide +kernel)) ggX3_compare_X3_manyOf
set_option maxRecDepth 20000 in
theorem ggX3_compare_X3_item : GoodIn wsX3_compare wsX3_item := goodIn_r _ [34, 35, 19, 71, 72, 73, 74, 75, 76, 77, 78, 79, 80, 81, 82, 83, 84, 85, 86, 87, 88] (by decide +kernel) (by decide +kernel)
set_option maxRecDepth 20000 in
theorem gX3_compare_X3_item : GoodIn wsX3_compare (wsV RX3 94 RX3 yX3_item wsX3_item) := goodIn_app (goodIn_of _ (by decide +kernel)) ggX3_compare_X3_item
set_option maxRecDepth 20000 in
theorem ggX3_compare_X3_against : GoodIn wsX3_compare wsX3_against := goodIn_r _ [39, 2, 3, 71, 72, 73, 74, 75, 76, 77, 78, 79, 80, 81, 82, 83, 84, 85, 86, 87, 88] (by decide +kernel) (by decide +kernel)
set_option maxRecDepth 20000 in
theorem gX3_compare_X3_against : GoodIn wsX3_compare (wsV RX3 152 RX3 yX3_against wsX3_against) := goodIn_app (goodIn_of _ (by decide +kernel)) ggX3_compare_X3_against
set_option maxRecDepth 20000 in
theorem ggX3_compare_X3_yes : GoodIn wsX3_compare wsX3_yes := goodIn_r _ [43, 25, 71, 72, 73, 74, 75, 76, 77, 78, 79, 80, 81, 82, 83, 84, 85, 86, 87, 88] (by decide +kernel) (by decide +kernel)
set_option maxRecDepth 20000 in
theorem gX3_compare_X3_yes : GoodIn wsX3_compare (wsV RX3 67 RX3 yX3_yes wsX3_yes) := goodIn_app (goodIn_of _ (by decide +kernel)) ggX3_compare_X3_yes
set_option maxRecDepth 20000 in
theorem ggX3_compare_X3_take : GoodIn wsX3_compare wsX3_take := goodIn_r _ [47, 4, 5, 6, 7, 15, 16, 17, 10, 18, 19, 20, 26, 27, 28, 29, 30, 31, 32, 33, 34, 35, 48, 49, 50, 51, 52, 53, 54, 55, 56, 57, 58, 12, 13, 14, 59, 60, 61, 62, 63, 64, 65, 66, 67, 68, 69, 70, 71, 72, 73, 74, 75, 76, 77, 78, 79, 80, 81, 82, 83, 84, 85, 86, 87, 88] (by decide +kernel) (by decide +kernel)
set_option maxRecDepth 20000 in
theorem gX3_compare_X3_take : GoodIn wsX3_compare (wsV RX3 122 RX3 yX3_take wsX3_take) := goodIn_app (goodIn_of _ (by decide +kernel)) ggX3_compare_X3_take
theorem dX3_compare_0 : decode cX3_compare 0 = .ok (.iload_n 1, 1) := by decide +kernel
theorem dX3_compare_1 : decode cX3_compare 1 = .ok (.invokestatic 112, 3) := by decide +kernel
theorem dX3_compare_4 : decode cX3_compare 4 = .ok (.ifCond .eq 19, 3) := by decide +kernel
theorem dX3_compare_7 : decode cX3_compare 7 = .ok (.iload_n 2, 1) := by decide +kernel
theorem dX3_compare_8 : decode cX3_compare 8 = .ok (.invokestatic 112, 3) := by decide +kernel
theorem dX3_compare_11 : decode cX3_compare 11 = .ok (.ifCond .eq 12, 3) := by decide +kernel
theorem dX3_compare_14 : decode cX3_compare 14 = .ok (.iload_n 3, 1) := by decide +kernel
theorem dX3_compare_15 : decode cX3_compare 15 = .ok (.iconst 0, 1) := by decide +kernel
theorem dX3_compare_16 : decode cX3_compare 16 = .ok (.iconst 1, 1) := by decide +kernel
theorem dX3_compare_17 : decode cX3_compare 17 = .ok (.invokestatic 44, 3) := by decide +kernel
theorem dX3_compare_20 : decode cX3_compare 20 = .ok (.ifCond .ne 6, 3) := by decide +kernel
theorem dX3_compare_23 : decode cX3_compare 23 = .ok (.ldc 107, 2) := by decide +kernel
theorem dX3_compare_25 : decode cX3_compare 25 = .ok (.ireturn, 1) := by decide +kernel
theorem dX3_compare_26 : decode cX3_compare 26 = .ok (.aload_n 0, 1) := by decide +kernel
theorem dX3_compare_27 : decode cX3_compare 27 = .ok (.iload_n 1, 1) := by decide +kernel
theorem dX3_compare_28 : decode cX3_compare 28 = .ok (.invokevirtual 88, 3) := by decide +kernel
theorem dX3_compare_31 : decode cX3_compare 31 = .ok (.iconst (-1), 1) := by decide +kernel
theorem dX3_compare_32 : decode cX3_compare 32 = .ok (.if_icmp .eq 12, 3) := by decide +kernel
theorem dX3_compare_35 : decode cX3_compare 35 = .ok (.aload_n 0, 1) := by decide +kernel
theorem dX3_compare_36 : decode cX3_compare 36 = .ok (.iload_n 2, 1) := by decide +kernel
theorem dX3_compare_37 : decode cX3_compare 37 = .ok (.invokevirtual 88, 3) := by decide +kernel
theorem dX3_compare_40 : decode cX3_compare 40 = .ok (.iconst (-1), 1) := by decide +kernel
theorem dX3_compare_41 : decode cX3_compare 41 = .ok (.if_icmp .ne 9, 3) := by decide +kernel
theorem dX3_compare_44 : decode cX3_compare 44 = .ok (.aload_n 0, 1) := by decide +kernel
theorem dX3_compare_45 : decode cX3_compare 45 = .ok (.iconst 1, 1) := by decide +kernel
theorem dX3_compare_46 : decode cX3_compare 46 = .ok (.invokevirtual 56, 3) := by decide +kernel
theorem dX3_compare_49 : decode cX3_compare 49 = .ok (.ireturn, 1) := by decide +kernel
theorem dX3_compare_50 : decode cX3_compare 50 = .ok (.aload_n 0, 1) := by decide +kernel
theorem dX3_compare_51 : decode cX3_compare 51 = .ok (.iload_n 1, 1) := by decide +kernel
theorem dX3_compare_52 : decode cX3_compare 52 = .ok (.invokevirtual 88, 3) := by decide +kernel
theorem dX3_compare_55 : decode cX3_compare 55 = .ok (.iconst 2, 1) := by decide +kernel
theorem dX3_compare_56 : decode cX3_compare 56 = .ok (.if_icmp .ne 7, 3) := by decide +kernel
theorem dX3_compare_59 : decode cX3_compare 59 = .ok (.iconst 1, 1) := by decide +kernel
theorem dX3_compare_60 : decode cX3_compare 60 = .ok (.goto 4, 3) := by decide +kernel
theorem dX3_compare_63 : decode cX3_compare 63 = .ok (.iconst 0, 1) := by decide +kernel
theorem dX3_compare_64 : decode cX3_compare 64 = .ok (.aload_n 0, 1) := by decide +kernel
theorem dX3_compare_65 : decode cX3_compare 65 = .ok (.iload_n 2, 1) := by decide +kernel
theorem dX3_compare_66 : decode cX3_compare 66 = .ok (.invokevirtual 88, 3) := by decide +kernel
theorem dX3_compare_69 : decode cX3_compare 69 = .ok (.iconst 2, 1) := by decide +kernel
theorem dX3_compare_70 : decode cX3_compare 70 = .ok (.if_icmp .ne 7, 3) := by decide +kernel
theorem dX3_compare_73 : decode cX3_compare 73 = .ok (.iconst 1, 1) := by decide +kernel
theorem dX3_compare_74 : decode cX3_compare 74 = .ok (.goto 4, 3) := by decide +kernel
theorem dX3_compare_77 : decode cX3_compare 77 = .ok (.iconst 0, 1) := by decide +kernel
theorem dX3_compare_78 : decode cX3_compare 78 = .ok (.if_icmp .eq 9, 3) := by decide +kernel
theorem dX3_compare_81 : decode cX3_compare 81 = .ok (.aload_n 0, 1) := by decide +kernel
theorem dX3_compare_82 : decode cX3_compare 82 = .ok (.iconst 2, 1) := by decide +kernel
theorem dX3_compare_83 : decode cX3_compare 83 = .ok (.invokevirtual 56, 3) := by decide +kernel
theorem dX3_compare_86 : decode cX3_compare 86 = .ok (.ireturn, 1) := by decide +kernel
theorem dX3_compare_87 : decode cX3_compare 87 = .ok (.aload_n 0, 1) := by decide +kernel
theorem dX3_compare_88 : decode cX3_compare 88 = .ok (.iload_n 1, 1) := by decide +kernel
theorem dX3_compare_89 : decode cX3_compare 89 = .ok (.invokevirtual 88, 3) := by decide +kernel
theorem dX3_compare_92 : decode cX3_compare 92 = .ok (.iconst 2, 1) := by decide +kernel
theorem dX3_compare_93 : decode cX3_compare 93 = .ok (.if_icmp .ne 102, 3) := by decide +kernel
theorem dX3_compare_96 : decode cX3_compare 96 = .ok (.aload_n 0, 1) := by decide +kernel
theorem dX3_compare_97 : decode cX3_compare 97 = .ok (.aload_n 0, 1) := by decide +kernel
theorem dX3_compare_98 : decode cX3_compare 98 = .ok (.iload_n 2, 1) := by decide +kernel
theorem dX3_compare_99 : decode cX3_compare 99 = .ok (.invokevirtual 91, 3) := by decide +kernel
theorem dX3_compare_102 : decode cX3_compare 102 = .ok (.putfield 149, 3) := by decide +kernel
theorem dX3_compare_105 : decode cX3_compare 105 = .ok (.iconst 0, 1) := by decide +kernel
theorem dX3_compare_106 : decode cX3_compare 106 = .ok (.istore 4, 2) := by decide +kernel
theorem dX3_compare_108 : decode cX3_compare 108 = .ok (.iload 4, 2) := by decide +kernel
theorem dX3_compare_110 : decode cX3_compare 110 = .ok (.aload_n 0, 1) := by decide +kernel
theorem dX3_compare_111 : decode cX3_compare 111 = .ok (.getfield 149, 3) := by decide +kernel
theorem dX3_compare_114 : decode cX3_compare 114 = .ok (.if_icmp .ge 23, 3) := by decide +kernel
theorem dX3_compare_117 : decode cX3_compare 117 = .ok (.aload_n 0, 1) := by decide +kernel
theorem dX3_compare_118 : decode cX3_compare 118 = .ok (.getfield 38, 3) := by decide +kernel
theorem dX3_compare_121 : decode cX3_compare 121 = .ok (.iload 4, 2) := by decide +kernel
theorem dX3_compare_123 : decode cX3_compare 123 = .ok (.aload_n 0, 1) := by decide +kernel
theorem dX3_compare_124 : decode cX3_compare 124 = .ok (.iload_n 2, 1) := by decide +kernel
theorem dX3_compare_125 : decode cX3_compare 125 = .ok (.iload 4, 2) := by decide +kernel
theorem dX3_compare_127 : decode cX3_compare 127 = .ok (.invokevirtual 94, 3) := by decide +kernel
theorem dX3_compare_130 : decode cX3_compare 130 = .ok (.iastore, 1) := by decide +kernel
theorem dX3_compare_131 : decode cX3_compare 131 = .ok (.iinc 4 1, 3) := by decide +kernel
theorem dX3_compare_134 : decode cX3_compare 134 = .ok (.goto (-26), 3) := by decide +kernel
theorem dX3_compare_137 : decode cX3_compare 137 = .ok (.aload_n 0, 1) := by decide +kernel
theorem dX3_compare_138 : decode cX3_compare 138 = .ok (.aload_n 0, 1) := by decide +kernel
theorem dX3_compare_139 : decode cX3_compare 139 = .ok (.iload_n 1, 1) := by decide +kernel
theorem dX3_compare_140 : decode cX3_compare 140 = .ok (.invokevirtual 91, 3) := by decide +kernel
theorem dX3_compare_143 : decode cX3_compare 143 = .ok (.putfield 71, 3) := by decide +kernel
theorem dX3_compare_146 : decode cX3_compare 146 = .ok (.iconst 0, 1) := by decide +kernel
theorem dX3_compare_147 : decode cX3_compare 147 = .ok (.istore 4, 2) := by decide +kernel
theorem dX3_compare_149 : decode cX3_compare 149 = .ok (.iload 4, 2) := by decide +kernel
theorem dX3_compare_151 : decode cX3_compare 151 = .ok (.aload_n 0, 1) := by decide +kernel
theorem dX3_compare_152 : decode cX3_compare 152 = .ok (.getfield 71, 3) := by decide +kernel
theorem dX3_compare_155 : decode cX3_compare 155 = .ok (.if_icmp .ge 23, 3) := by decide +kernel
theorem dX3_compare_158 : decode cX3_compare 158 = .ok (.aload_n 0, 1) := by decide +kernel
theorem dX3_compare_159 : decode cX3_compare 159 = .ok (.getfield 35, 3) := by decide +kernel
theorem dX3_compare_162 : decode cX3_compare 162 = .ok (.iload 4, 2) := by decide +kernel
theorem dX3_compare_164 : decode cX3_compare 164 = .ok (.aload_n 0, 1) := by decide +kernel
theorem dX3_compare_165 : decode cX3_compare 165 = .ok (.iload_n 1, 1) := by decide +kernel
theorem dX3_compare_166 : decode cX3_compare 166 = .ok (.iload 4, 2) := by decide +kernel
theorem dX3_compare_168 : decode cX3_compare 168 = .ok (.invokevirtual 94, 3) := by decide +kernel
theorem dX3_compare_171 : decode cX3_compare 171 = .ok (.iastore, 1) := by decide +kernel
theorem dX3_compare_172 : decode cX3_compare 172 = .ok (.iinc 4 1, 3) := by decide +kernel
theorem dX3_compare_175 : decode cX3_compare 175 = .ok (.goto (-26), 3) := by decide +kernel
theorem dX3_compare_178 : decode cX3_compare 178 = .ok (.aload_n 0, 1) := by decide +kernel
theorem dX3_compare_179 : decode cX3_compare 179 = .ok (.aload_n 0, 1) := by decide +kernel
theorem dX3_compare_180 : decode cX3_compare 180 = .ok (.aload_n 0, 1) := by decide +kernel
theorem dX3_compare_181 : decode cX3_compare 181 = .ok (.getfield 35, 3) := by decide +kernel
theorem dX3_compare_184 : decode cX3_compare 184 = .ok (.aload_n 0, 1) := by decide +kernel
theorem dX3_compare_185 : decode cX3_compare 185 = .ok (.getfield 71, 3) := by decide +kernel
theorem dX3_compare_188 : decode cX3_compare 188 = .ok (.invokevirtual 152, 3) := by decide +kernel
theorem dX3_compare_191 : decode cX3_compare 191 = .ok (.invokevirtual 67, 3) := by decide +kernel
theorem dX3_compare_194 : decode cX3_compare 194 = .ok (.ireturn, 1) := by decide +kernel
theorem dX3_compare_195 : decode cX3_compare 195 = .ok (.aload_n 0, 1) := by decide +kernel
theorem dX3_compare_196 : decode cX3_compare 196 = .ok (.iload_n 2, 1) := by decide +kernel
theorem dX3_compare_197 : decode cX3_compare 197 = .ok (.invokevirtual 122, 3) := by decide +kernel
theorem dX3_compare_200 : decode cX3_compare 200 = .ok (.aload_n 0, 1) := by decide +kernel
theorem dX3_compare_201 : decode cX3_compare 201 = .ok (.iload_n 3, 1) := by decide +kernel
theorem dX3_compare_202 : decode cX3_compare 202 = .ok (.ifCond .ne 10, 3) := by decide +kernel
theorem dX3_compare_205 : decode cX3_compare 205 = .ok (.aload_n 0, 1) := by decide +kernel
theorem dX3_compare_206 : decode cX3_compare 206 = .ok (.getfield 71, 3) := by decide +kernel
theorem dX3_compare_209 : decode cX3_compare 209 = .ok (.goto 7, 3) := by decide +kernel
theorem dX3_compare_212 : decode cX3_compare 212 = .ok (.aload_n 0, 1) := by decide +kernel
theorem dX3_compare_213 : decode cX3_compare 213 = .ok (.getfield 74, 3) := by decide +kernel
theorem dX3_compare_216 : decode cX3_compare 216 = .ok (.putfield 149, 3) := by decide +kernel
theorem dX3_compare_219 : decode cX3_compare 219 = .ok (.iconst 0, 1) := by decide +kernel
theorem dX3_compare_220 : decode cX3_compare 220 = .ok (.istore 4, 2) := by decide +kernel
theorem dX3_compare_222 : decode cX3_compare 222 = .ok (.iload 4, 2) := by decide +kernel
theorem dX3_compare_224 : decode cX3_compare 224 = .ok (.aload_n 0, 1) := by decide +kernel
theorem dX3_compare_225 : decode cX3_compare 225 = .ok (.getfield 149, 3) := by decide +kernel
theorem dX3_compare_228 : decode cX3_compare 228 = .ok (.if_icmp .ge 37, 3) := by decide +kernel
theorem dX3_compare_231 : decode cX3_compare 231 = .ok (.aload_n 0, 1) := by decide +kernel
theorem dX3_compare_232 : decode cX3_compare 232 = .ok (.getfield 38, 3) := by decide +kernel
theorem dX3_compare_235 : decode cX3_compare 235 = .ok (.iload 4, 2) := by decide +kernel
theorem dX3_compare_237 : decode cX3_compare 237 = .ok (.iload_n 3, 1) := by decide +kernel
theorem dX3_compare_238 : decode cX3_compare 238 = .ok (.ifCond .ne 13, 3) := by decide +kernel
theorem dX3_compare_241 : decode cX3_compare 241 = .ok (.aload_n 0, 1) := by decide +kernel
theorem dX3_compare_242 : decode cX3_compare 242 = .ok (.getfield 35, 3) := by decide +kernel
theorem dX3_compare_245 : decode cX3_compare 245 = .ok (.iload 4, 2) := by decide +kernel
theorem dX3_compare_247 : decode cX3_compare 247 = .ok (.iaload, 1) := by decide +kernel
theorem dX3_compare_248 : decode cX3_compare 248 = .ok (.goto 10, 3) := by decide +kernel
theorem dX3_compare_251 : decode cX3_compare 251 = .ok (.aload_n 0, 1) := by decide +kernel
theorem dX3_compare_252 : decode cX3_compare 252 = .ok (.getfield 32, 3) := by decide +kernel
theorem dX3_compare_255 : decode cX3_compare 255 = .ok (.iload 4, 2) := by decide +kernel
theorem dX3_compare_257 : decode cX3_compare 257 = .ok (.iaload, 1) := by decide +kernel
theorem dX3_compare_258 : decode cX3_compare 258 = .ok (.iastore, 1) := by decide +kernel
theorem dX3_compare_259 : decode cX3_compare 259 = .ok (.iinc 4 1, 3) := by decide +kernel
theorem dX3_compare_262 : decode cX3_compare 262 = .ok (.goto (-40), 3) := by decide +kernel
theorem dX3_compare_265 : decode cX3_compare 265 = .ok (.aload_n 0, 1) := by decide +kernel
theorem dX3_compare_266 : decode cX3_compare 266 = .ok (.iload_n 1, 1) := by decide +kernel
theorem dX3_compare_267 : decode cX3_compare 267 = .ok (.invokevirtual 122, 3) := by decide +kernel
theorem dX3_compare_270 : decode cX3_compare 270 = .ok (.aload_n 0, 1) := by decide +kernel
theorem dX3_compare_271 : decode cX3_compare 271 = .ok (.iload_n 3, 1) := by decide +kernel
theorem dX3_compare_272 : decode cX3_compare 272 = .ok (.ifCond .ne 18, 3) := by decide +kernel
theorem dX3_compare_275 : decode cX3_compare 275 = .ok (.aload_n 0, 1) := by decide +kernel
theorem dX3_compare_276 : decode cX3_compare 276 = .ok (.aload_n 0, 1) := by decide +kernel
theorem dX3_compare_277 : decode cX3_compare 277 = .ok (.getfield 35, 3) := by decide +kernel
theorem dX3_compare_280 : decode cX3_compare 280 = .ok (.aload_n 0, 1) := by decide +kernel
theorem dX3_compare_281 : decode cX3_compare 281 = .ok (.getfield 71, 3) := by decide +kernel
theorem dX3_compare_284 : decode cX3_compare 284 = .ok (.invokevirtual 152, 3) := by decide +kernel
theorem dX3_compare_287 : decode cX3_compare 287 = .ok (.goto 15, 3) := by decide +kernel
theorem dX3_compare_290 : decode cX3_compare 290 = .ok (.aload_n 0, 1) := by decide +kernel
theorem dX3_compare_291 : decode cX3_compare 291 = .ok (.aload_n 0, 1) := by decide +kernel
theorem dX3_compare_292 : decode cX3_compare 292 = .ok (.getfield 32, 3) := by decide +kernel
theorem dX3_compare_295 : decode cX3_compare 295 = .ok (.aload_n 0, 1) := by decide +kernel
theorem dX3_compare_296 : decode cX3_compare 296 = .ok (.getfield 74, 3) := by decide +kernel
theorem dX3_compare_299 : decode cX3_compare 299 = .ok (.invokevirtual 152, 3) := by decide +kernel
theorem dX3_compare_302 : decode cX3_compare 302 = .ok (.invokevirtual 67, 3) := by decide +kernel
theorem dX3_compare_305 : decode cX3_compare 305 = .ok (.ireturn, 1) := by decide +kernel
set_option maxRecDepth 20000 in
theorem ggX3_inCase_X3_within : GoodIn wsX3_inCase wsX3_within := goodIn_r _ [4] (by decide +kernel) (by decide +kernel)
set_option maxRecDepth 20000 in
theorem gX3_inCase_X3_within : GoodIn wsX3_inCase (va_wsS RX3 44 yX3_within wsX3_within) := goodIn_app (goodIn_of _ (by decide +kernel)) ggX3_inCase_X3_within
theorem dX3_inCase_0 : decode cX3_inCase 0 = .ok (.iload_n 1, 1) := by decide +kernel
theorem dX3_inCase_1 : decode cX3_inCase 1 = .ok (.ifCond .ne 56, 3) := by decide +kernel
theorem dX3_inCase_4 : decode cX3_inCase 4 = .ok (.iload_n 0, 1) := by decide +kernel
theorem dX3_inCase_5 : decode cX3_inCase 5 = .ok (.bipush 97, 2) := by decide +kernel
theorem dX3_inCase_7 : decode cX3_inCase 7 = .ok (.bipush 122, 2) := by decide +kernel
theorem dX3_inCase_9 : decode cX3_inCase 9 = .ok (.invokestatic 44, 3) := by decide +kernel
theorem dX3_inCase_12 : decode cX3_inCase 12 = .ok (.ifCond .ne 23, 3) := by decide +kernel
theorem dX3_inCase_15 : decode cX3_inCase 15 = .ok (.iload_n 0, 1) := by decide +kernel
theorem dX3_inCase_16 : decode cX3_inCase 16 = .ok (.sipush 224, 3) := by decide +kernel
theorem dX3_inCase_19 : decode cX3_inCase 19 = .ok (.sipush 254, 3) := by decide +kernel
theorem dX3_inCase_22 : decode cX3_inCase 22 = .ok (.invokestatic 44, 3) := by decide +kernel
theorem dX3_inCase_25 : decode cX3_inCase 25 = .ok (.ifCond .eq 17, 3) := by decide +kernel
theorem dX3_inCase_28 : decode cX3_inCase 28 = .ok (.iload_n 0, 1) := by decide +kernel
theorem dX3_inCase_29 : decode cX3_inCase 29 = .ok (.sipush 247, 3) := by decide +kernel
theorem dX3_inCase_32 : decode cX3_inCase 32 = .ok (.if_icmp .eq 10, 3) := by decide +kernel
theorem dX3_inCase_35 : decode cX3_inCase 35 = .ok (.iload_n 0, 1) := by decide +kernel
theorem dX3_inCase_36 : decode cX3_inCase 36 = .ok (.bipush 32, 2) := by decide +kernel
theorem dX3_inCase_38 : decode cX3_inCase 38 = .ok (.isub, 1) := by decide +kernel
theorem dX3_inCase_39 : decode cX3_inCase 39 = .ok (.goto 17, 3) := by decide +kernel
theorem dX3_inCase_42 : decode cX3_inCase 42 = .ok (.iload_n 0, 1) := by decide +kernel
theorem dX3_inCase_43 : decode cX3_inCase 43 = .ok (.sipush 255, 3) := by decide +kernel
theorem dX3_inCase_46 : decode cX3_inCase 46 = .ok (.if_icmp .ne 9, 3) := by decide +kernel
theorem dX3_inCase_49 : decode cX3_inCase 49 = .ok (.sipush 376, 3) := by decide +kernel
theorem dX3_inCase_52 : decode cX3_inCase 52 = .ok (.goto 4, 3) := by decide +kernel
theorem dX3_inCase_55 : decode cX3_inCase 55 = .ok (.iload_n 0, 1) := by decide +kernel
theorem dX3_inCase_56 : decode cX3_inCase 56 = .ok (.ireturn, 1) := by decide +kernel
theorem dX3_inCase_57 : decode cX3_inCase 57 = .ok (.iload_n 0, 1) := by decide +kernel
theorem dX3_inCase_58 : decode cX3_inCase 58 = .ok (.bipush 65, 2) := by decide +kernel
theorem dX3_inCase_60 : decode cX3_inCase 60 = .ok (.bipush 90, 2) := by decide +kernel
theorem dX3_inCase_62 : decode cX3_inCase 62 = .ok (.invokestatic 44, 3) := by decide +kernel
theorem dX3_inCase_65 : decode cX3_inCase 65 = .ok (.ifCond .ne 23, 3) := by decide +kernel
theorem dX3_inCase_68 : decode cX3_inCase 68 = .ok (.iload_n 0, 1) := by decide +kernel
theorem dX3_inCase_69 : decode cX3_inCase 69 = .ok (.sipush 192, 3) := by decide +kernel
theorem dX3_inCase_72 : decode cX3_inCase 72 = .ok (.sipush 222, 3) := by decide +kernel
theorem dX3_inCase_75 : decode cX3_inCase 75 = .ok (.invokestatic 44, 3) := by decide +kernel
theorem dX3_inCase_78 : decode cX3_inCase 78 = .ok (.ifCond .eq 17, 3) := by decide +kernel
theorem dX3_inCase_81 : decode cX3_inCase 81 = .ok (.iload_n 0, 1) := by decide +kernel
theorem dX3_inCase_82 : decode cX3_inCase 82 = .ok (.sipush 215, 3) := by decide +kernel
theorem dX3_inCase_85 : decode cX3_inCase 85 = .ok (.if_icmp .eq 10, 3) := by decide +kernel
theorem dX3_inCase_88 : decode cX3_inCase 88 = .ok (.iload_n 0, 1) := by decide +kernel
theorem dX3_inCase_89 : decode cX3_inCase 89 = .ok (.bipush 32, 2) := by decide +kernel
theorem dX3_inCase_91 : decode cX3_inCase 91 = .ok (.iadd, 1) := by decide +kernel
theorem dX3_inCase_92 : decode cX3_inCase 92 = .ok (.goto 17, 3) := by decide +kernel
theorem dX3_inCase_95 : decode cX3_inCase 95 = .ok (.iload_n 0, 1) := by decide +kernel
theorem dX3_inCase_96 : decode cX3_inCase 96 = .ok (.sipush 376, 3) := by decide +kernel
theorem dX3_inCase_99 : decode cX3_inCase 99 = .ok (.if_icmp .ne 9, 3) := by decide +kernel
theorem dX3_inCase_102 : decode cX3_inCase 102 = .ok (.sipush 255, 3) := by decide +kernel
theorem dX3_inCase_105 : decode cX3_inCase 105 = .ok (.goto 4, 3) := by decide +kernel
theorem dX3_inCase_108 : decode cX3_inCase 108 = .ok (.iload_n 0, 1) := by decide +kernel
theorem dX3_inCase_109 : decode cX3_inCase 109 = .ok (.ireturn, 1) := by decide +kernel
set_option maxRecDepth 20000 in
theorem ggX3_change_X3_isText : GoodIn wsX3_change wsX3_isText := goodIn_r _ [6, 7, 8, 5, 9] (by decide +kernel) (by decide +kernel)
set_option maxRecDepth 20000 in
theorem gX3_change_X3_isText : GoodIn wsX3_change (va_wsS RX3 112 yX3_isText wsX3_isText) := goodIn_app (goodIn_of _ (by decide +kernel)) ggX3_change_X3_isText
set_option maxRecDepth 20000 in
theorem ggX3_change_X3_within : GoodIn wsX3_change wsX3_within := goodIn_r _ [9] (by decide +kernel) (by decide +kernel)
set_option maxRecDepth 20000 in
theorem gX3_change_X3_within : GoodIn wsX3_change (va_wsS RX3 44 yX3_within wsX3_within) := goodIn_app (goodIn_of _ (by decide +kernel)) ggX3_change_X3_within
set_option maxRecDepth 20000 in
theorem ggX3_change_X3_wantsPoints : GoodIn wsX3_change wsX3_wantsPoints := goodIn_r _ [13, 14, 15, 16, 5, 17, 18, 19, 52, 53, 54, 55, 56, 57, 58, 59, 60, 61, 62, 63, 64, 65, 66, 67, 68, 69] (by decide +kernel) (by decide +kernel)
set_option maxRecDepth 20000 in
theorem gX3_change_X3_wantsPoints : GoodIn wsX3_change (wsV RX3 119 RX3 yX3_wantsPoints wsX3_wantsPoints) := goodIn_app (goodIn_of _ (by decide +kernel)) ggX3_change_X3_wantsPoints
set_option maxRecDepth 20000 in
theorem ggX3_change_X3_no : GoodIn wsX3_change wsX3_no := goodIn_r _ [23, 24, 52, 53, 54, 55, 56, 57, 58, 59, 60, 61, 62, 63, 64, 65, 66, 67, 68, 69] (by decide +kernel) (by decide +kernel)
set_option maxRecDepth 20000 in
theorem gX3_change_X3_no : GoodIn wsX3_change (wsV RX3 56 RX3 yX3_no wsX3_no) := goodIn_app (goodIn_of _ (by decide +kernel)) ggX3_change_X3_no
set_option maxRecDepth 20000 in
theorem ggX3_change_X3_manyOf : GoodIn wsX3_change wsX3_manyOf := goodIn_r _ [28, 29, 18, 52, 53, 54, 55, 56, 57, 58, 59, 60, 61, 62, 63, 64, 65, 66, 67, 68, 69] (by decide +kernel) (by decide +kernel)
set_option maxRecDepth 20000 in
theorem gX3_change_X3_manyOf : GoodIn wsX3_change (wsV RX3 91 RX3 yX3_manyOf wsX3_manyOf) := goodIn_app (goodIn_of _ (by decide +kernel)) ggX3_change_X3_manyOf
set_option maxRecDepth 20000 in
theorem ggX3_change_X3_item : GoodIn wsX3_change wsX3_item := goodIn_r _ [33, 34, 18, 52, 53, 54, 55, 56, 57, 58, 59, 60, 61, 62, 63, 64, 65, 66, 67, 68, 69] (by decide +kernel) (by decide +kernel)
set_option maxRecDepth 20000 in
theorem gX3_change_X3_item : GoodIn wsX3_change (wsV RX3 94 RX3 yX3_item wsX3_item) := goodIn_app (goodIn_of _ (by decide +kernel)) ggX3_change_X3_item
set_option maxRecDepth 20000 in
theorem ggX3_change_X3_inCase : GoodIn wsX3_change wsX3_inCase := goodIn_r _ [37, 7, 8, 5, 9] (by decide +kernel) (by decide +kernel)
set_option maxRecDepth 20000 in
theorem gX3_change_X3_inCase : GoodIn wsX3_change (va_wsS RX3 156 yX3_inCase wsX3_inCase) := goodIn_app (goodIn_of _ (by decide +kernel)) ggX3_change_X3_inCase
set_option maxRecDepth 20000 in
theorem ggX3_change_X3_sortOf : GoodIn wsX3_change wsX3_sortOf := goodIn_r _ [17, 18, 19, 52, 53, 54, 55, 56, 57, 58, 59, 60, 61, 62, 63, 64, 65, 66, 67, 68, 69] (by decide +kernel) (by decide +kernel)
set_option maxRecDepth 20000 in
theorem gX3_change_X3_sortOf : GoodIn wsX3_change (wsV RX3 88 RX3 yX3_sortOf wsX3_sortOf) := goodIn_app (goodIn_of _ (by decide +kernel)) ggX3_change_X3_sortOf
set_option maxRecDepth 20000 in
theorem ggX3_change_X3_become : GoodIn wsX3_change wsX3_become := goodIn_r _ [41, 19, 29, 34, 18, 42, 43, 44, 5, 45, 46, 47, 48, 49, 50, 51, 24, 52, 53, 54, 55, 56, 57, 58, 59, 60, 61, 62, 63, 64, 65, 66, 67, 68, 69] (by decide +kernel) (by decide +kernel)
set_option maxRecDepth 20000 in
theorem gX3_change_X3_become : GoodIn wsX3_change (wsV RX3 115 RX3 yX3_become wsX3_become) := goodIn_app (goodIn_of _ (by decide +kernel)) ggX3_change_X3_become
theorem dX3_change_0 : decode cX3_change 0 = .ok (.iload_n 1, 1) := by decide +kernel
theorem dX3_change_1 : decode cX3_change 1 = .ok (.invokestatic 112, 3) := by decide +kernel
theorem dX3_change_4 : decode cX3_change 4 = .ok (.ifCond .eq 19, 3) := by decide +kernel
theorem dX3_change_7 : decode cX3_change 7 = .ok (.iload_n 2, 1) := by decide +kernel
theorem dX3_change_8 : decode cX3_change 8 = .ok (.invokestatic 112, 3) := by decide +kernel
theorem dX3_change_11 : decode cX3_change 11 = .ok (.ifCond .eq 12, 3) := by decide +kernel
theorem dX3_change_14 : decode cX3_change 14 = .ok (.iload_n 3, 1) := by decide +kernel
theorem dX3_change_15 : decode cX3_change 15 = .ok (.iconst 0, 1) := by decide +kernel
theorem dX3_change_16 : decode cX3_change 16 = .ok (.iconst 1, 1) := by decide +kernel
theorem dX3_change_17 : decode cX3_change 17 = .ok (.invokestatic 44, 3) := by decide +kernel
theorem dX3_change_20 : decode cX3_change 20 = .ok (.ifCond .ne 6, 3) := by decide +kernel
theorem dX3_change_23 : decode cX3_change 23 = .ok (.ldc 107, 2) := by decide +kernel
theorem dX3_change_25 : decode cX3_change 25 = .ok (.ireturn, 1) := by decide +kernel
theorem dX3_change_26 : decode cX3_change 26 = .ok (.aload_n 0, 1) := by decide +kernel
theorem dX3_change_27 : decode cX3_change 27 = .ok (.iload_n 2, 1) := by decide +kernel
theorem dX3_change_28 : decode cX3_change 28 = .ok (.invokevirtual 119, 3) := by decide +kernel
theorem dX3_change_31 : decode cX3_change 31 = .ok (.istore 4, 2) := by decide +kernel
theorem dX3_change_33 : decode cX3_change 33 = .ok (.iload 4, 2) := by decide +kernel
theorem dX3_change_35 : decode cX3_change 35 = .ok (.ifCond .eq 10, 3) := by decide +kernel
theorem dX3_change_38 : decode cX3_change 38 = .ok (.aload_n 0, 1) := by decide +kernel
theorem dX3_change_39 : decode cX3_change 39 = .ok (.iload 4, 2) := by decide +kernel
theorem dX3_change_41 : decode cX3_change 41 = .ok (.invokevirtual 56, 3) := by decide +kernel
theorem dX3_change_44 : decode cX3_change 44 = .ok (.ireturn, 1) := by decide +kernel
theorem dX3_change_45 : decode cX3_change 45 = .ok (.aload_n 0, 1) := by decide +kernel
theorem dX3_change_46 : decode cX3_change 46 = .ok (.iload_n 2, 1) := by decide +kernel
theorem dX3_change_47 : decode cX3_change 47 = .ok (.invokevirtual 91, 3) := by decide +kernel
theorem dX3_change_50 : decode cX3_change 50 = .ok (.istore 5, 2) := by decide +kernel
theorem dX3_change_52 : decode cX3_change 52 = .ok (.iconst 0, 1) := by decide +kernel
theorem dX3_change_53 : decode cX3_change 53 = .ok (.istore 6, 2) := by decide +kernel
theorem dX3_change_55 : decode cX3_change 55 = .ok (.iload 6, 2) := by decide +kernel
theorem dX3_change_57 : decode cX3_change 57 = .ok (.iload 5, 2) := by decide +kernel
theorem dX3_change_59 : decode cX3_change 59 = .ok (.if_icmp .ge 27, 3) := by decide +kernel
theorem dX3_change_62 : decode cX3_change 62 = .ok (.aload_n 0, 1) := by decide +kernel
theorem dX3_change_63 : decode cX3_change 63 = .ok (.getfield 38, 3) := by decide +kernel
theorem dX3_change_66 : decode cX3_change 66 = .ok (.iload 6, 2) := by decide +kernel
theorem dX3_change_68 : decode cX3_change 68 = .ok (.aload_n 0, 1) := by decide +kernel
theorem dX3_change_69 : decode cX3_change 69 = .ok (.iload_n 2, 1) := by decide +kernel
theorem dX3_change_70 : decode cX3_change 70 = .ok (.iload 6, 2) := by decide +kernel
theorem dX3_change_72 : decode cX3_change 72 = .ok (.invokevirtual 94, 3) := by decide +kernel
theorem dX3_change_75 : decode cX3_change 75 = .ok (.iload_n 3, 1) := by decide +kernel
theorem dX3_change_76 : decode cX3_change 76 = .ok (.invokestatic 156, 3) := by decide +kernel
theorem dX3_change_79 : decode cX3_change 79 = .ok (.iastore, 1) := by decide +kernel
theorem dX3_change_80 : decode cX3_change 80 = .ok (.iinc 6 1, 3) := by decide +kernel
theorem dX3_change_83 : decode cX3_change 83 = .ok (.goto (-28), 3) := by decide +kernel
theorem dX3_change_86 : decode cX3_change 86 = .ok (.aload_n 0, 1) := by decide +kernel
theorem dX3_change_87 : decode cX3_change 87 = .ok (.iload_n 1, 1) := by decide +kernel
theorem dX3_change_88 : decode cX3_change 88 = .ok (.aload_n 0, 1) := by decide +kernel
theorem dX3_change_89 : decode cX3_change 89 = .ok (.iload_n 2, 1) := by decide +kernel
theorem dX3_change_90 : decode cX3_change 90 = .ok (.invokevirtual 88, 3) := by decide +kernel
theorem dX3_change_93 : decode cX3_change 93 = .ok (.aload_n 0, 1) := by decide +kernel
theorem dX3_change_94 : decode cX3_change 94 = .ok (.getfield 38, 3) := by decide +kernel
theorem dX3_change_97 : decode cX3_change 97 = .ok (.iload 5, 2) := by decide +kernel
theorem dX3_change_99 : decode cX3_change 99 = .ok (.invokevirtual 115, 3) := by decide +kernel
theorem dX3_change_102 : decode cX3_change 102 = .ok (.ireturn, 1) := by decide +kernel
set_option maxRecDepth 20000 in
theorem ggX3_keep_X3_isText : GoodIn wsX3_keep wsX3_isText := goodIn_r _ [10, 11, 12, 9, 13] (by decide +kernel) (by decide +kernel)
set_option maxRecDepth 20000 in
theorem gX3_keep_X3_isText : GoodIn wsX3_keep (va_wsS RX3 112 yX3_isText wsX3_isText) := goodIn_app (goodIn_of _ (by decide +kernel)) ggX3_keep_X3_isText
set_option maxRecDepth 20000 in
theorem ggX3_keep_X3_sortOf : GoodIn wsX3_keep wsX3_sortOf := goodIn_r _ [17, 6, 18, 36, 37, 38, 39, 40, 41, 42, 43, 44, 45, 46, 47, 48, 49, 50, 51, 52, 53] (by decide +kernel) (by decide +kernel)
set_option maxRecDepth 20000 in
theorem gX3_keep_X3_sortOf : GoodIn wsX3_keep (wsV RX3 88 RX3 yX3_sortOf wsX3_sortOf) := goodIn_app (goodIn_of _ (by decide +kernel)) ggX3_keep_X3_sortOf
set_option maxRecDepth 20000 in
theorem ggX3_keep_X3_no : GoodIn wsX3_keep wsX3_no := goodIn_r _ [22, 23, 36, 37, 38, 39, 40, 41, 42, 43, 44, 45, 46, 47, 48, 49, 50, 51, 52, 53] (by decide +kernel) (by decide +kernel)
set_option maxRecDepth 20000 in
theorem gX3_keep_X3_no : GoodIn wsX3_keep (wsV RX3 56 RX3 yX3_no wsX3_no) := goodIn_app (goodIn_of _ (by decide +kernel)) ggX3_keep_X3_no
set_option maxRecDepth 20000 in
theorem ggX3_keep_X3_manyOf : GoodIn wsX3_keep wsX3_manyOf := goodIn_r _ [27, 3, 6, 36, 37, 38, 39, 40, 41, 42, 43, 44, 45, 46, 47, 48, 49, 50, 51, 52, 53] (by decide +kernel) (by decide +kernel)
set_option maxRecDepth 20000 in
theorem gX3_keep_X3_manyOf : GoodIn wsX3_keep (wsV RX3 91 RX3 yX3_manyOf wsX3_manyOf) := goodIn_app (goodIn_of _ (by decide +kernel)) ggX3_keep_X3_manyOf
set_option maxRecDepth 20000 in
theorem ggX3_keep_X3_item : GoodIn wsX3_keep wsX3_item := goodIn_r _ [31, 5, 6, 36, 37, 38, 39, 40, 41, 42, 43, 44, 45, 46, 47, 48, 49, 50, 51, 52, 53] (by decide +kernel) (by decide +kernel)
set_option maxRecDepth 20000 in
theorem gX3_keep_X3_item : GoodIn wsX3_keep (wsV RX3 94 RX3 yX3_item wsX3_item) := goodIn_app (goodIn_of _ (by decide +kernel)) ggX3_keep_X3_item
set_option maxRecDepth 20000 in
theorem ggX3_keep_X3_yes : GoodIn wsX3_keep wsX3_yes := goodIn_r _ [35, 23, 36, 37, 38, 39, 40, 41, 42, 43, 44, 45, 46, 47, 48, 49, 50, 51, 52, 53] (by decide +kernel) (by decide +kernel)
set_option maxRecDepth 20000 in
theorem gX3_keep_X3_yes : GoodIn wsX3_keep (wsV RX3 67 RX3 yX3_yes wsX3_yes) := goodIn_app (goodIn_of _ (by decide +kernel)) ggX3_keep_X3_yes
theorem dX3_keep_0 : decode cX3_keep 0 = .ok (.iload_n 1, 1) := by decide +kernel
theorem dX3_keep_1 : decode cX3_keep 1 = .ok (.invokestatic 112, 3) := by decide +kernel
theorem dX3_keep_4 : decode cX3_keep 4 = .ok (.ifCond .ne 6, 3) := by decide +kernel
theorem dX3_keep_7 : decode cX3_keep 7 = .ok (.ldc 107, 2) := by decide +kernel
theorem dX3_keep_9 : decode cX3_keep 9 = .ok (.ireturn, 1) := by decide +kernel
theorem dX3_keep_10 : decode cX3_keep 10 = .ok (.aload_n 0, 1) := by decide +kernel
theorem dX3_keep_11 : decode cX3_keep 11 = .ok (.iload_n 1, 1) := by decide +kernel
theorem dX3_keep_12 : decode cX3_keep 12 = .ok (.invokevirtual 88, 3) := by decide +kernel
theorem dX3_keep_15 : decode cX3_keep 15 = .ok (.istore_n 2, 1) := by decide +kernel
theorem dX3_keep_16 : decode cX3_keep 16 = .ok (.iload_n 2, 1) := by decide +kernel
theorem dX3_keep_17 : decode cX3_keep 17 = .ok (.ifCond .eq 18, 3) := by decide +kernel
theorem dX3_keep_20 : decode cX3_keep 20 = .ok (.aload_n 0, 1) := by decide +kernel
theorem dX3_keep_21 : decode cX3_keep 21 = .ok (.iload_n 2, 1) := by decide +kernel
theorem dX3_keep_22 : decode cX3_keep 22 = .ok (.iconst (-1), 1) := by decide +kernel
theorem dX3_keep_23 : decode cX3_keep 23 = .ok (.if_icmp .ne 7, 3) := by decide +kernel
theorem dX3_keep_26 : decode cX3_keep 26 = .ok (.iconst 1, 1) := by decide +kernel
theorem dX3_keep_27 : decode cX3_keep 27 = .ok (.goto 4, 3) := by decide +kernel
theorem dX3_keep_30 : decode cX3_keep 30 = .ok (.iconst 2, 1) := by decide +kernel
theorem dX3_keep_31 : decode cX3_keep 31 = .ok (.invokevirtual 56, 3) := by decide +kernel
theorem dX3_keep_34 : decode cX3_keep 34 = .ok (.ireturn, 1) := by decide +kernel
theorem dX3_keep_35 : decode cX3_keep 35 = .ok (.iconst 0, 1) := by decide +kernel
theorem dX3_keep_36 : decode cX3_keep 36 = .ok (.istore_n 3, 1) := by decide +kernel
theorem dX3_keep_37 : decode cX3_keep 37 = .ok (.iload_n 3, 1) := by decide +kernel
theorem dX3_keep_38 : decode cX3_keep 38 = .ok (.aload_n 0, 1) := by decide +kernel
theorem dX3_keep_39 : decode cX3_keep 39 = .ok (.getfield 60, 3) := by decide +kernel
theorem dX3_keep_42 : decode cX3_keep 42 = .ok (.if_icmp .ge 117, 3) := by decide +kernel
theorem dX3_keep_45 : decode cX3_keep 45 = .ok (.aload_n 0, 1) := by decide +kernel
theorem dX3_keep_46 : decode cX3_keep 46 = .ok (.getfield 19, 3) := by decide +kernel
theorem dX3_keep_49 : decode cX3_keep 49 = .ok (.aload_n 0, 1) := by decide +kernel
theorem dX3_keep_50 : decode cX3_keep 50 = .ok (.getfield 13, 3) := by decide +kernel
theorem dX3_keep_53 : decode cX3_keep 53 = .ok (.iload_n 3, 1) := by decide +kernel
theorem dX3_keep_54 : decode cX3_keep 54 = .ok (.iaload, 1) := by decide +kernel
theorem dX3_keep_55 : decode cX3_keep 55 = .ok (.iaload, 1) := by decide +kernel
theorem dX3_keep_56 : decode cX3_keep 56 = .ok (.aload_n 0, 1) := by decide +kernel
theorem dX3_keep_57 : decode cX3_keep 57 = .ok (.iload_n 1, 1) := by decide +kernel
theorem dX3_keep_58 : decode cX3_keep 58 = .ok (.invokevirtual 91, 3) := by decide +kernel
theorem dX3_keep_61 : decode cX3_keep 61 = .ok (.if_icmp .ne 7, 3) := by decide +kernel
theorem dX3_keep_64 : decode cX3_keep 64 = .ok (.iconst 1, 1) := by decide +kernel
theorem dX3_keep_65 : decode cX3_keep 65 = .ok (.goto 4, 3) := by decide +kernel
theorem dX3_keep_68 : decode cX3_keep 68 = .ok (.iconst 0, 1) := by decide +kernel
theorem dX3_keep_69 : decode cX3_keep 69 = .ok (.istore 4, 2) := by decide +kernel
theorem dX3_keep_71 : decode cX3_keep 71 = .ok (.iconst 0, 1) := by decide +kernel
theorem dX3_keep_72 : decode cX3_keep 72 = .ok (.istore 5, 2) := by decide +kernel
theorem dX3_keep_74 : decode cX3_keep 74 = .ok (.iload 5, 2) := by decide +kernel
theorem dX3_keep_76 : decode cX3_keep 76 = .ok (.aload_n 0, 1) := by decide +kernel
theorem dX3_keep_77 : decode cX3_keep 77 = .ok (.iload_n 1, 1) := by decide +kernel
theorem dX3_keep_78 : decode cX3_keep 78 = .ok (.invokevirtual 91, 3) := by decide +kernel
theorem dX3_keep_81 : decode cX3_keep 81 = .ok (.if_icmp .ge 49, 3) := by decide +kernel
theorem dX3_keep_84 : decode cX3_keep 84 = .ok (.iload 4, 2) := by decide +kernel
theorem dX3_keep_86 : decode cX3_keep 86 = .ok (.ifCond .eq 44, 3) := by decide +kernel
theorem dX3_keep_89 : decode cX3_keep 89 = .ok (.aload_n 0, 1) := by decide +kernel
theorem dX3_keep_90 : decode cX3_keep 90 = .ok (.getfield 22, 3) := by decide +kernel
theorem dX3_keep_93 : decode cX3_keep 93 = .ok (.sipush 240, 3) := by decide +kernel
theorem dX3_keep_96 : decode cX3_keep 96 = .ok (.aload_n 0, 1) := by decide +kernel
theorem dX3_keep_97 : decode cX3_keep 97 = .ok (.getfield 13, 3) := by decide +kernel
theorem dX3_keep_100 : decode cX3_keep 100 = .ok (.iload_n 3, 1) := by decide +kernel
theorem dX3_keep_101 : decode cX3_keep 101 = .ok (.iaload, 1) := by decide +kernel
theorem dX3_keep_102 : decode cX3_keep 102 = .ok (.imul, 1) := by decide +kernel
theorem dX3_keep_103 : decode cX3_keep 103 = .ok (.iload 5, 2) := by decide +kernel
theorem dX3_keep_105 : decode cX3_keep 105 = .ok (.iadd, 1) := by decide +kernel
theorem dX3_keep_106 : decode cX3_keep 106 = .ok (.iaload, 1) := by decide +kernel
theorem dX3_keep_107 : decode cX3_keep 107 = .ok (.aload_n 0, 1) := by decide +kernel
theorem dX3_keep_108 : decode cX3_keep 108 = .ok (.iload_n 1, 1) := by decide +kernel
theorem dX3_keep_109 : decode cX3_keep 109 = .ok (.iload 5, 2) := by decide +kernel
theorem dX3_keep_111 : decode cX3_keep 111 = .ok (.invokevirtual 94, 3) := by decide +kernel
theorem dX3_keep_114 : decode cX3_keep 114 = .ok (.if_icmp .ne 7, 3) := by decide +kernel
theorem dX3_keep_117 : decode cX3_keep 117 = .ok (.iconst 1, 1) := by decide +kernel
theorem dX3_keep_118 : decode cX3_keep 118 = .ok (.goto 4, 3) := by decide +kernel
theorem dX3_keep_121 : decode cX3_keep 121 = .ok (.iconst 0, 1) := by decide +kernel
theorem dX3_keep_122 : decode cX3_keep 122 = .ok (.istore 4, 2) := by decide +kernel
theorem dX3_keep_124 : decode cX3_keep 124 = .ok (.iinc 5 1, 3) := by decide +kernel
theorem dX3_keep_127 : decode cX3_keep 127 = .ok (.goto (-53), 3) := by decide +kernel
theorem dX3_keep_130 : decode cX3_keep 130 = .ok (.iload 4, 2) := by decide +kernel
theorem dX3_keep_132 : decode cX3_keep 132 = .ok (.ifCond .eq 21, 3) := by decide +kernel
theorem dX3_keep_135 : decode cX3_keep 135 = .ok (.aload_n 0, 1) := by decide +kernel
theorem dX3_keep_136 : decode cX3_keep 136 = .ok (.getfield 7, 3) := by decide +kernel
theorem dX3_keep_139 : decode cX3_keep 139 = .ok (.iload_n 1, 1) := by decide +kernel
theorem dX3_keep_140 : decode cX3_keep 140 = .ok (.aload_n 0, 1) := by decide +kernel
theorem dX3_keep_141 : decode cX3_keep 141 = .ok (.getfield 13, 3) := by decide +kernel
theorem dX3_keep_144 : decode cX3_keep 144 = .ok (.iload_n 3, 1) := by decide +kernel
theorem dX3_keep_145 : decode cX3_keep 145 = .ok (.iaload, 1) := by decide +kernel
theorem dX3_keep_146 : decode cX3_keep 146 = .ok (.iastore, 1) := by decide +kernel
theorem dX3_keep_147 : decode cX3_keep 147 = .ok (.aload_n 0, 1) := by decide +kernel
theorem dX3_keep_148 : decode cX3_keep 148 = .ok (.iload_n 3, 1) := by decide +kernel
theorem dX3_keep_149 : decode cX3_keep 149 = .ok (.invokevirtual 67, 3) := by decide +kernel
theorem dX3_keep_152 : decode cX3_keep 152 = .ok (.ireturn, 1) := by decide +kernel
theorem dX3_keep_153 : decode cX3_keep 153 = .ok (.iinc 3 1, 3) := by decide +kernel
theorem dX3_keep_156 : decode cX3_keep 156 = .ok (.goto (-119), 3) := by decide +kernel
theorem dX3_keep_159 : decode cX3_keep 159 = .ok (.aload_n 0, 1) := by decide +kernel
theorem dX3_keep_160 : decode cX3_keep 160 = .ok (.getfield 60, 3) := by decide +kernel
theorem dX3_keep_163 : decode cX3_keep 163 = .ok (.bipush 12, 2) := by decide +kernel
theorem dX3_keep_165 : decode cX3_keep 165 = .ok (.if_icmp .ne 10, 3) := by decide +kernel
theorem dX3_keep_168 : decode cX3_keep 168 = .ok (.aload_n 0, 1) := by decide +kernel
theorem dX3_keep_169 : decode cX3_keep 169 = .ok (.bipush 6, 2) := by decide +kernel
theorem dX3_keep_171 : decode cX3_keep 171 = .ok (.invokevirtual 56, 3) := by decide +kernel
theorem dX3_keep_174 : decode cX3_keep 174 = .ok (.ireturn, 1) := by decide +kernel
theorem dX3_keep_175 : decode cX3_keep 175 = .ok (.aload_n 0, 1) := by decide +kernel
theorem dX3_keep_176 : decode cX3_keep 176 = .ok (.getfield 13, 3) := by decide +kernel
theorem dX3_keep_179 : decode cX3_keep 179 = .ok (.aload_n 0, 1) := by decide +kernel
theorem dX3_keep_180 : decode cX3_keep 180 = .ok (.getfield 60, 3) := by decide +kernel
theorem dX3_keep_183 : decode cX3_keep 183 = .ok (.aload_n 0, 1) := by decide +kernel
theorem dX3_keep_184 : decode cX3_keep 184 = .ok (.getfield 7, 3) := by decide +kernel
theorem dX3_keep_187 : decode cX3_keep 187 = .ok (.iload_n 1, 1) := by decide +kernel
theorem dX3_keep_188 : decode cX3_keep 188 = .ok (.iaload, 1) := by decide +kernel
theorem dX3_keep_189 : decode cX3_keep 189 = .ok (.iastore, 1) := by decide +kernel
theorem dX3_keep_190 : decode cX3_keep 190 = .ok (.aload_n 0, 1) := by decide +kernel
theorem dX3_keep_191 : decode cX3_keep 191 = .ok (.dup, 1) := by decide +kernel
theorem dX3_keep_192 : decode cX3_keep 192 = .ok (.getfield 60, 3) := by decide +kernel
theorem dX3_keep_195 : decode cX3_keep 195 = .ok (.iconst 1, 1) := by decide +kernel
theorem dX3_keep_196 : decode cX3_keep 196 = .ok (.iadd, 1) := by decide +kernel
theorem dX3_keep_197 : decode cX3_keep 197 = .ok (.putfield 60, 3) := by decide +kernel
theorem dX3_keep_200 : decode cX3_keep 200 = .ok (.aload_n 0, 1) := by decide +kernel
theorem dX3_keep_201 : decode cX3_keep 201 = .ok (.aload_n 0, 1) := by decide +kernel
theorem dX3_keep_202 : decode cX3_keep 202 = .ok (.getfield 60, 3) := by decide +kernel
theorem dX3_keep_205 : decode cX3_keep 205 = .ok (.iconst 1, 1) := by decide +kernel
theorem dX3_keep_206 : decode cX3_keep 206 = .ok (.isub, 1) := by decide +kernel
theorem dX3_keep_207 : decode cX3_keep 207 = .ok (.invokevirtual 67, 3) := by decide +kernel
theorem dX3_keep_210 : decode cX3_keep 210 = .ok (.ireturn, 1) := by decide +kernel
theorem dX3_kept_0 : decode cX3_kept 0 = .ok (.aload_n 0, 1) := by decide +kernel
theorem dX3_kept_1 : decode cX3_kept 1 = .ok (.getfield 60, 3) := by decide +kernel
theorem dX3_kept_4 : decode cX3_kept 4 = .ok (.ireturn, 1) := by decide +kernel
set_option maxRecDepth 20000 in
theorem ggX3_same_X3_isText : GoodIn wsX3_same wsX3_isText := goodIn_r _ [6, 7, 8, 5, 9] (by decide +kernel) (by decide +kernel)
set_option maxRecDepth 20000 in
theorem gX3_same_X3_isText : GoodIn wsX3_same (va_wsS RX3 112 yX3_isText wsX3_isText) := goodIn_app (goodIn_of _ (by decide +kernel)) ggX3_same_X3_isText
theorem dX3_same_0 : decode cX3_same 0 = .ok (.iload_n 1, 1) := by decide +kernel
theorem dX3_same_1 : decode cX3_same 1 = .ok (.invokestatic 112, 3) := by decide +kernel
theorem dX3_same_4 : decode cX3_same 4 = .ok (.ifCond .eq 10, 3) := by decide +kernel
theorem dX3_same_7 : decode cX3_same 7 = .ok (.iload_n 2, 1) := by decide +kernel
theorem dX3_same_8 : decode cX3_same 8 = .ok (.invokestatic 112, 3) := by decide +kernel
theorem dX3_same_11 : decode cX3_same 11 = .ok (.ifCond .ne 8, 3) := by decide +kernel
theorem dX3_same_14 : decode cX3_same 14 = .ok (.ldc 107, 2) := by decide +kernel
theorem dX3_same_16 : decode cX3_same 16 = .ok (.goto 23, 3) := by decide +kernel
theorem dX3_same_19 : decode cX3_same 19 = .ok (.aload_n 0, 1) := by decide +kernel
theorem dX3_same_20 : decode cX3_same 20 = .ok (.getfield 7, 3) := by decide +kernel
theorem dX3_same_23 : decode cX3_same 23 = .ok (.iload_n 1, 1) := by decide +kernel
theorem dX3_same_24 : decode cX3_same 24 = .ok (.iaload, 1) := by decide +kernel
theorem dX3_same_25 : decode cX3_same 25 = .ok (.aload_n 0, 1) := by decide +kernel
theorem dX3_same_26 : decode cX3_same 26 = .ok (.getfield 7, 3) := by decide +kernel
theorem dX3_same_29 : decode cX3_same 29 = .ok (.iload_n 2, 1) := by decide +kernel
theorem dX3_same_30 : decode cX3_same 30 = .ok (.iaload, 1) := by decide +kernel
theorem dX3_same_31 : decode cX3_same 31 = .ok (.if_icmp .ne 7, 3) := by decide +kernel
theorem dX3_same_34 : decode cX3_same 34 = .ok (.iconst 1, 1) := by decide +kernel
theorem dX3_same_35 : decode cX3_same 35 = .ok (.goto 4, 3) := by decide +kernel
theorem dX3_same_38 : decode cX3_same 38 = .ok (.iconst 0, 1) := by decide +kernel
theorem dX3_same_39 : decode cX3_same 39 = .ok (.ireturn, 1) := by decide +kernel
set_option maxRecDepth 20000 in
theorem ggX3_kind_X3_isPoint : GoodIn wsX3_kind wsX3_isPoint := goodIn_r _ [6, 7, 8, 9, 5, 10] (by decide +kernel) (by decide +kernel)
set_option maxRecDepth 20000 in
theorem gX3_kind_X3_isPoint : GoodIn wsX3_kind (va_wsS RX3 104 yX3_isPoint wsX3_isPoint) := goodIn_app (goodIn_of _ (by decide +kernel)) ggX3_kind_X3_isPoint
set_option maxRecDepth 20000 in
theorem ggX3_kind_X3_isHigh : GoodIn wsX3_kind wsX3_isHigh := goodIn_r _ [13, 14, 15, 8, 9, 5, 10] (by decide +kernel) (by decide +kernel)
set_option maxRecDepth 20000 in
theorem gX3_kind_X3_isHigh : GoodIn wsX3_kind (va_wsS RX3 77 yX3_isHigh wsX3_isHigh) := goodIn_app (goodIn_of _ (by decide +kernel)) ggX3_kind_X3_isHigh
set_option maxRecDepth 20000 in
theorem ggX3_kind_X3_isLow : GoodIn wsX3_kind wsX3_isLow := goodIn_r _ [18, 19, 20, 8, 9, 5, 10] (by decide +kernel) (by decide +kernel)
set_option maxRecDepth 20000 in
theorem gX3_kind_X3_isLow : GoodIn wsX3_kind (va_wsS RX3 81 yX3_isLow wsX3_isLow) := goodIn_app (goodIn_of _ (by decide +kernel)) ggX3_kind_X3_isLow
set_option maxRecDepth 20000 in
theorem ggX3_kind_X3_within : GoodIn wsX3_kind wsX3_within := goodIn_r _ [10] (by decide +kernel) (by decide +kernel)
set_option maxRecDepth 20000 in
theorem gX3_kind_X3_within : GoodIn wsX3_kind (va_wsS RX3 44 yX3_within wsX3_within) := goodIn_app (goodIn_of _ (by decide +kernel)) ggX3_kind_X3_within
set_option maxRecDepth 20000 in
theorem ggX3_kind_X3_inCase : GoodIn wsX3_kind wsX3_inCase := goodIn_r _ [23, 8, 9, 5, 10] (by decide +kernel) (by decide +kernel)
set_option maxRecDepth 20000 in
theorem gX3_kind_X3_inCase : GoodIn wsX3_kind (va_wsS RX3 156 yX3_inCase wsX3_inCase) := goodIn_app (goodIn_of _ (by decide +kernel)) ggX3_kind_X3_inCase
theorem dX3_kind_0 : decode cX3_kind 0 = .ok (.iload_n 1, 1) := by decide +kernel
theorem dX3_kind_1 : decode cX3_kind 1 = .ok (.invokestatic 104, 3) := by decide +kernel
theorem dX3_kind_4 : decode cX3_kind 4 = .ok (.ifCond .ne 6, 3) := by decide +kernel
theorem dX3_kind_7 : decode cX3_kind 7 = .ok (.ldc 107, 2) := by decide +kernel
theorem dX3_kind_9 : decode cX3_kind 9 = .ok (.ireturn, 1) := by decide +kernel
theorem dX3_kind_10 : decode cX3_kind 10 = .ok (.iload_n 1, 1) := by decide +kernel
theorem dX3_kind_11 : decode cX3_kind 11 = .ok (.invokestatic 77, 3) := by decide +kernel
theorem dX3_kind_14 : decode cX3_kind 14 = .ok (.ifCond .eq 5, 3) := by decide +kernel
theorem dX3_kind_17 : decode cX3_kind 17 = .ok (.iconst 0, 1) := by decide +kernel
theorem dX3_kind_18 : decode cX3_kind 18 = .ok (.ireturn, 1) := by decide +kernel
theorem dX3_kind_19 : decode cX3_kind 19 = .ok (.iload_n 1, 1) := by decide +kernel
theorem dX3_kind_20 : decode cX3_kind 20 = .ok (.invokestatic 81, 3) := by decide +kernel
theorem dX3_kind_23 : decode cX3_kind 23 = .ok (.ifCond .eq 5, 3) := by decide +kernel
theorem dX3_kind_26 : decode cX3_kind 26 = .ok (.iconst 1, 1) := by decide +kernel
theorem dX3_kind_27 : decode cX3_kind 27 = .ok (.ireturn, 1) := by decide +kernel
theorem dX3_kind_28 : decode cX3_kind 28 = .ok (.iload_n 1, 1) := by decide +kernel
theorem dX3_kind_29 : decode cX3_kind 29 = .ok (.bipush 48, 2) := by decide +kernel
theorem dX3_kind_31 : decode cX3_kind 31 = .ok (.bipush 57, 2) := by decide +kernel
theorem dX3_kind_33 : decode cX3_kind 33 = .ok (.invokestatic 44, 3) := by decide +kernel
theorem dX3_kind_36 : decode cX3_kind 36 = .ok (.ifCond .eq 5, 3) := by decide +kernel
theorem dX3_kind_39 : decode cX3_kind 39 = .ok (.iconst 2, 1) := by decide +kernel
theorem dX3_kind_40 : decode cX3_kind 40 = .ok (.ireturn, 1) := by decide +kernel
theorem dX3_kind_41 : decode cX3_kind 41 = .ok (.iload_n 1, 1) := by decide +kernel
theorem dX3_kind_42 : decode cX3_kind 42 = .ok (.iconst 0, 1) := by decide +kernel
theorem dX3_kind_43 : decode cX3_kind 43 = .ok (.invokestatic 156, 3) := by decide +kernel
theorem dX3_kind_46 : decode cX3_kind 46 = .ok (.iload_n 1, 1) := by decide +kernel
theorem dX3_kind_47 : decode cX3_kind 47 = .ok (.if_icmp .ne 12, 3) := by decide +kernel
theorem dX3_kind_50 : decode cX3_kind 50 = .ok (.iload_n 1, 1) := by decide +kernel
theorem dX3_kind_51 : decode cX3_kind 51 = .ok (.iconst 1, 1) := by decide +kernel
theorem dX3_kind_52 : decode cX3_kind 52 = .ok (.invokestatic 156, 3) := by decide +kernel
theorem dX3_kind_55 : decode cX3_kind 55 = .ok (.iload_n 1, 1) := by decide +kernel
theorem dX3_kind_56 : decode cX3_kind 56 = .ok (.if_icmp .eq 5, 3) := by decide +kernel
theorem dX3_kind_59 : decode cX3_kind 59 = .ok (.iconst 3, 1) := by decide +kernel
theorem dX3_kind_60 : decode cX3_kind 60 = .ok (.ireturn, 1) := by decide +kernel
theorem dX3_kind_61 : decode cX3_kind 61 = .ok (.iload_n 1, 1) := by decide +kernel
theorem dX3_kind_62 : decode cX3_kind 62 = .ok (.bipush 9, 2) := by decide +kernel
theorem dX3_kind_64 : decode cX3_kind 64 = .ok (.bipush 13, 2) := by decide +kernel
theorem dX3_kind_66 : decode cX3_kind 66 = .ok (.invokestatic 44, 3) := by decide +kernel
theorem dX3_kind_69 : decode cX3_kind 69 = .ok (.ifCond .ne 16, 3) := by decide +kernel
theorem dX3_kind_72 : decode cX3_kind 72 = .ok (.iload_n 1, 1) := by decide +kernel
theorem dX3_kind_73 : decode cX3_kind 73 = .ok (.bipush 32, 2) := by decide +kernel
theorem dX3_kind_75 : decode cX3_kind 75 = .ok (.if_icmp .eq 10, 3) := by decide +kernel
theorem dX3_kind_78 : decode cX3_kind 78 = .ok (.iload_n 1, 1) := by decide +kernel
theorem dX3_kind_79 : decode cX3_kind 79 = .ok (.sipush 160, 3) := by decide +kernel
theorem dX3_kind_82 : decode cX3_kind 82 = .ok (.if_icmp .ne 5, 3) := by decide +kernel
theorem dX3_kind_85 : decode cX3_kind 85 = .ok (.iconst 4, 1) := by decide +kernel
theorem dX3_kind_86 : decode cX3_kind 86 = .ok (.ireturn, 1) := by decide +kernel
theorem dX3_kind_87 : decode cX3_kind 87 = .ok (.iload_n 1, 1) := by decide +kernel
theorem dX3_kind_88 : decode cX3_kind 88 = .ok (.ldc 111, 2) := by decide +kernel
theorem dX3_kind_90 : decode cX3_kind 90 = .ok (.if_icmp .le 7, 3) := by decide +kernel
theorem dX3_kind_93 : decode cX3_kind 93 = .ok (.iconst 5, 1) := by decide +kernel
theorem dX3_kind_94 : decode cX3_kind 94 = .ok (.goto 5, 3) := by decide +kernel
theorem dX3_kind_97 : decode cX3_kind 97 = .ok (.bipush 6, 2) := by decide +kernel
theorem dX3_kind_99 : decode cX3_kind 99 = .ok (.ireturn, 1) := by decide +kernel
theorem dJ9_min_7cf53_0 : decode cJ9_min_7cf53 0 = .ok (.iload_n 0, 1) := by decide +kernel
theorem dJ9_min_7cf53_1 : decode cJ9_min_7cf53 1 = .ok (.iload_n 1, 1) := by decide +kernel
theorem dJ9_min_7cf53_2 : decode cJ9_min_7cf53 2 = .ok (.if_icmp .gt 7, 3) := by decide +kernel
theorem dJ9_min_7cf53_5 : decode cJ9_min_7cf53 5 = .ok (.iload_n 0, 1) := by decide +kernel
theorem dJ9_min_7cf53_6 : decode cJ9_min_7cf53 6 = .ok (.goto 4, 3) := by decide +kernel
theorem dJ9_min_7cf53_9 : decode cJ9_min_7cf53 9 = .ok (.iload_n 1, 1) := by decide +kernel
theorem dJ9_min_7cf53_10 : decode cJ9_min_7cf53 10 = .ok (.ireturn, 1) := by decide +kernel
theorem dJ7_copyOf_59c91_0 : decode cJ7_copyOf_59c91 0 = .ok (.iload_n 1, 1) := by decide +kernel
theorem dJ7_copyOf_59c91_1 : decode cJ7_copyOf_59c91 1 = .ok (.aload_n 0, 1) := by decide +kernel
theorem dJ7_copyOf_59c91_2 : decode cJ7_copyOf_59c91 2 = .ok (.arraylength, 1) := by decide +kernel
theorem dJ7_copyOf_59c91_3 : decode cJ7_copyOf_59c91 3 = .ok (.if_icmp .ne 11, 3) := by decide +kernel
theorem dJ7_copyOf_59c91_6 : decode cJ7_copyOf_59c91 6 = .ok (.aload_n 0, 1) := by decide +kernel
theorem dJ7_copyOf_59c91_7 : decode cJ7_copyOf_59c91 7 = .ok (.invokevirtual 316, 3) := by decide +kernel
theorem dJ7_copyOf_59c91_10 : decode cJ7_copyOf_59c91 10 = .ok (.checkcast 317, 3) := by decide +kernel
theorem dJ7_copyOf_59c91_13 : decode cJ7_copyOf_59c91 13 = .ok (.areturn, 1) := by decide +kernel
theorem dJ7_copyOf_59c91_14 : decode cJ7_copyOf_59c91 14 = .ok (.iload_n 1, 1) := by decide +kernel
theorem dJ7_copyOf_59c91_15 : decode cJ7_copyOf_59c91 15 = .ok (.newarray .int, 2) := by decide +kernel
theorem dJ7_copyOf_59c91_17 : decode cJ7_copyOf_59c91 17 = .ok (.astore_n 2, 1) := by decide +kernel
theorem dJ7_copyOf_59c91_18 : decode cJ7_copyOf_59c91 18 = .ok (.aload_n 0, 1) := by decide +kernel
theorem dJ7_copyOf_59c91_19 : decode cJ7_copyOf_59c91 19 = .ok (.iconst 0, 1) := by decide +kernel
theorem dJ7_copyOf_59c91_20 : decode cJ7_copyOf_59c91 20 = .ok (.aload_n 2, 1) := by decide +kernel
theorem dJ7_copyOf_59c91_21 : decode cJ7_copyOf_59c91 21 = .ok (.iconst 0, 1) := by decide +kernel
theorem dJ7_copyOf_59c91_22 : decode cJ7_copyOf_59c91 22 = .ok (.aload_n 0, 1) := by decide +kernel
theorem dJ7_copyOf_59c91_23 : decode cJ7_copyOf_59c91 23 = .ok (.arraylength, 1) := by decide +kernel
theorem dJ7_copyOf_59c91_24 : decode cJ7_copyOf_59c91 24 = .ok (.iload_n 1, 1) := by decide +kernel
theorem dJ7_copyOf_59c91_25 : decode cJ7_copyOf_59c91 25 = .ok (.invokestatic 304, 3) := by decide +kernel
theorem dJ7_copyOf_59c91_28 : decode cJ7_copyOf_59c91 28 = .ok (.invokestatic 150, 3) := by decide +kernel
theorem dJ7_copyOf_59c91_31 : decode cJ7_copyOf_59c91 31 = .ok (.aload_n 2, 1) := by decide +kernel
theorem dJ7_copyOf_59c91_32 : decode cJ7_copyOf_59c91 32 = .ok (.areturn, 1) := by decide +kernel
end
section
/-! WORLDS BY FUNCTION. A world is a partial function from addresses to contents. A contract speaks of every world that holds what the method touches; what it leaves is told by an equation of worlds: no cutting out and no joining at a call. The kit's rows over lists of cells are used underneath (a world's cells are a pool: va_pl). -/
abbrev Wd : Type := Nat → Option va_E
def wd_f (w : Wd) : Nat → va_E := fun a => (w a).getD (.inr (0, []))
def wd_up (w : Wd) (a : Nat) (e : va_E) : Wd := fun b => if b = a then some e else w b
theorem wd_up_self (w : Wd) (a : Nat) (e : va_E) : wd_up w a e a = some e := by simp [wd_up]
theorem wd_up_ne (w : Wd) {a b : Nat} (e : va_E) (h : b ≠ a) : wd_up w a e b = w b := by simp [wd_up, h]
theorem wd_f_up (w : Wd) (a : Nat) (e : va_E) : wd_f (wd_up w a e) = va_up (wd_f w) a e := by
  funext b
  by_cases h : b = a <;> simp [wd_f, wd_up, va_up, h]
/-- what a method may write: the cells of its world, and all that come from sz on -/
def wd_A (w : Wd) (sz : Nat) : Nat → Prop := fun q => w q ≠ none ∨ sz ≤ q
/-- the heap holds the world -/
def wd_P (D : va_G) (cl : List vw_C) (A : Nat → Prop) (w : Wd) (H : Heap) : Prop :=
  ∃ L : List Nat, (∀ a, a ∈ L ↔ w a ≠ none) ∧ va_P D cl (va_pl L (wd_f w)) H ∧ va_D A (va_pl L (wd_f w))
theorem wd_in {w : Wd} {L : List Nat} (hL : ∀ a, a ∈ L ↔ w a ≠ none) {a : Nat} {e : va_E} (he : w a = some e) : ∃ k : Nat, (va_pl L (wd_f w))[k]? = some (a, e) := by
  have ha : a ∈ L := (hL a).mpr (by rw [he]; simp)
  obtain ⟨k, hk⟩ := va_pl_get (X := []) (f := wd_f w) ha
  exact ⟨k, by simpa [wd_f, he] using hk⟩
theorem wd_P.weaken {D : va_G} {cl : List vw_C} {A B : Nat → Prop} {w : Wd} {H : Heap} (h : wd_P D cl A w H) (hAB : ∀ q, A q → B q) : wd_P D cl B w H := by
  obtain ⟨L, hL, hP, hD⟩ := h
  exact ⟨L, hL, hP, hD.weaken (fun _ q _ h => hAB q.1 h)⟩
theorem wd_P.inA {D : va_G} {cl : List vw_C} {A : Nat → Prop} {w : Wd} {H : Heap} (h : wd_P D cl A w H) {q : Nat} (hq : w q ≠ none) : A q := by
  obtain ⟨L, hL, hP, hD⟩ := h
  obtain ⟨e, he⟩ := Option.ne_none_iff_exists'.mp hq
  obtain ⟨k, hk⟩ := wd_in hL he
  exact hD.2 k _ hk
theorem wd_P.lt {D : va_G} {cl : List vw_C} {A : Nat → Prop} {w : Wd} {H : Heap} (h : wd_P D cl A w H) {q : Nat} (hq : w q ≠ none) : q < H.size := by
  obtain ⟨L, hL, hP, hD⟩ := h
  obtain ⟨e, he⟩ := Option.ne_none_iff_exists'.mp hq
  obtain ⟨k, hk⟩ := wd_in hL he
  exact (hP k _ hk).lt
theorem wd_P.free {D : va_G} {cl : List vw_C} {A : Nat → Prop} {w : Wd} {H0 H : Heap} {locs : List Loc} (h : wd_P D cl A w H) (hS : va_S A H0 H locs) (hA : ∀ q, H0.size ≤ q → A q) : ∀ q, wd_A w H.size q → A q := fun q hq => by
  rcases hq with hq | hq
  · exact h.inA hq
  · exact hA q (Nat.le_trans hS.1 hq)
/-- a world whose cells are as they were -/
theorem wd_P.kept {D : va_G} {cl : List vw_C} {A : Nat → Prop} {w : Wd} {H H1 : Heap} (h : wd_P D cl A w H) (hq : ∀ q, w q ≠ none → H1[q]? = H[q]?) : wd_P D cl A w H1 := by
  obtain ⟨L, hL, hP, hD⟩ := h
  refine ⟨L, hL, hP.kept (fun k q hk => hq q.1 ?_), hD⟩
  have hm := List.mem_of_getElem? hk
  obtain ⟨a, ha, rfl⟩ := List.mem_map.mp hm
  exact (hL a).mp ha
theorem wd_set {D : va_G} {cl : List vw_C} {A : Nat → Prop} {w : Wd} {H1 : Heap} {L : List Nat} {a q0 : Nat} {e0 e : va_E} (hL : ∀ a, a ∈ L ↔ w a ≠ none) (hD : va_D A (va_pl L (wd_f w))) (he : w a = some e0) (hk : (va_pl L (wd_f w))[q0]? = some (a, e0)) (hP1 : va_P D cl ((va_pl L (wd_f w)).set q0 (a, e)) H1) (hD1 : va_D A ((va_pl L (wd_f w)).set q0 (a, e))) : wd_P D cl A (wd_up w a e) H1 := by
  have ha : a ∈ L := (hL a).mpr (by rw [he]; simp)
  have hf : wd_f w a = e0 := by simp [wd_f, he]
  have hs := va_pl_set (X := []) (f := wd_f w) (a := a) (k := q0) (e := e) (by simpa using hD) ha (by simpa [hf] using hk)
  simp only [List.nil_append] at hs
  rw [hs, ← wd_f_up] at hP1 hD1
  refine ⟨L, fun b => ?_, hP1, hD1⟩
  rw [hL b]
  by_cases hb : b = a
  · subst hb; simp [wd_up, he]
  · simp [wd_up, hb]
theorem wd_push {D : va_G} {cl : List vw_C} {A : Nat → Prop} {w : Wd} {H1 : Heap} {L : List Nat} {q : Nat} {e : va_E} (hL : ∀ a, a ∈ L ↔ w a ≠ none) (hP1 : va_P D cl (va_pl L (wd_f w) ++ [(q, e)]) H1) (hD1 : va_D A (va_pl L (wd_f w) ++ [(q, e)])) : w q = none ∧ wd_P D cl A (wd_up w q e) H1 := by
  have hq : q ∉ L := by
    intro h
    obtain ⟨k, hk⟩ := va_pl_get (X := []) (f := wd_f w) h
    rw [List.nil_append] at hk
    have hlt := (List.getElem?_eq_some_iff.mp hk).1
    have h1 : (va_pl L (wd_f w) ++ [(q, e)])[k]? = some (q, wd_f w q) := by rw [List.getElem?_append_left hlt]; exact hk
    have h2 : (va_pl L (wd_f w) ++ [(q, e)])[(va_pl L (wd_f w)).length]? = some (q, e) := by simp
    have := hD1.1 k _ _ _ h1 h2 rfl
    omega
  have hn : w q = none := by
    cases h : w q with
    | none => rfl
    | some x => exact absurd ((hL q).mpr (by rw [h]; simp)) hq
  rw [va_pl_push hq, ← wd_f_up] at hP1 hD1
  refine ⟨hn, L ++ [q], fun b => ?_, hP1, hD1⟩
  rw [List.mem_append, List.mem_singleton, hL b]
  by_cases hb : b = q
  · subst hb; simp [wd_up]
  · simp [wd_up, hb]
/-- what is known of the tables at every state of a run -/
def wd_Kok (KK : State → Prop) : Prop := (∀ s U : State, KK s → s.WarmedH U.vm → KK U) ∧ ∀ (U : State) (g : JFrame) (mk : MethodId) (a : Array Value), KK U → KK (U.calling g mk a)
/-- a contract's start -/
def wd_C (D : va_G) (cl : List vw_C) (KK : State → Prop) (av : List Value) (w : Wd) (sz : Nat) : Array Value → State → Prop := va_Pc av (fun U => U.heap.size = sz ∧ wd_P D cl (fun _ => True) w U.heap ∧ KK U)
abbrev wd_B (D : va_G) (cl : List vw_C) (A : Nat → Prop) : Wd → State → Prop := fun w' t => wd_P D cl A w' t.heap
/-- contracts of methods that answer an int (or a boolean), nothing, a reference -/
abbrev wd_Mi (l : Launch) (D : va_G) (cl : List vw_C) (KK : State → Prop) (y : MethodName) (ws : List Cond) (rm : Room) (av : List Value) (w : Wd) (sz : Nat) (post : Int32 → Wd → Prop) : Prop :=
  Met l y ws rm (wd_C D cl KK av w sz) (va_Qi post (wd_B D cl (wd_A w sz)) (wd_A w sz)) rm.cells rm.slots (wd_A w sz)
abbrev wd_Mv (l : Launch) (D : va_G) (cl : List vw_C) (KK : State → Prop) (y : MethodName) (ws : List Cond) (rm : Room) (av : List Value) (w : Wd) (sz : Nat) (post : Wd → Prop) : Prop :=
  Met l y ws rm (wd_C D cl KK av w sz) (va_Qv post (wd_B D cl (wd_A w sz)) (wd_A w sz)) rm.cells rm.slots (wd_A w sz)
abbrev wd_Mr (l : Launch) (D : va_G) (cl : List vw_C) (KK : State → Prop) (y : MethodName) (ws : List Cond) (rm : Room) (av : List Value) (w : Wd) (sz : Nat) (post : Wd × Nat → Prop) : Prop :=
  Met l y ws rm (wd_C D cl KK av w sz) (va_Qr post (fun u a t => a = u.2 ∧ wd_P D cl (wd_A w sz) u.1 t.heap) (wd_A w sz)) rm.cells rm.slots (wd_A w sz)
/-- the room of a method that stands d calls above its deepest leaf -/
def wd_rm (d mc ms : Nat) : Room := { frames := d, cells := mc, slots := ms, locals := 40 * d }
end
section
section WDR
variable {p : Program} {l : Launch} {e : Env} {R : Room} {s : State} {m : MethodId} {args : Array Value} {below : List Frame} {meth : Method} {c : Code} {H : Heap} {locs : List Loc} {cells slots : Nat} {Q : State → Prop}
variable {cc : ByteArray} {pc : Nat} {ls : Array Slot} {rest : List Value} {D : va_G} {cl : List vw_C} {A : Nat → Prop} {a : Nat} {tys : List (ClassId × FieldType)} {w : Wd} {H0 : Heap}
theorem wd_get (hexec : p.tables.exec = Jvm.exec) (hb : c.code = cc) {own ref C : String} {T : u_T} {N ci index : Nat} {Ts : List Cond} (hts : ∀ w ∈ Ts, w.before args s = true) (hin : ∀ w ∈ u_ws C T N, w ∈ Ts) (hown : s.vm.findClass own = some m.cls) (hK : va_K D cl tys s) (hW : wd_P D cl A w H) {fs : List Value} (he : w a = some (.inr (ci, fs))) (hc : cl[ci]? = some (C, T, N)) (k : Nat) (hk : k < N) (hlink : (Cond.fieldLink own index ref (T k).2.1 (T k).2.2.1).before args s = true) (hsame : ∀ x, s.fieldFound? (T k).1 (T k).2.1 (T k).2.2.1 = some x → s.fieldFound? ref (T k).2.1 (T k).2.2.1 = some x) {v : Value} (hv : fs[k]? = some v) (hdg : decode cc pc = .ok (.getfield index, 3))
    (kk : W p l e R s m args below meth c H locs cells slots Q (F0 m (pc + 3) ls (v :: rest))) : W p l e R s m args below meth c H locs cells slots Q (F0 m pc ls (.ref a :: rest)) := by
  obtain ⟨L, hL, hP, hD⟩ := hW
  obtain ⟨q0, hq⟩ := wd_in hL he
  exact va_get hexec hb hts hin hown hK hP q0 hq hc k hk hlink hsame hv hdg kk
theorem wd_put (hexec : p.tables.exec = Jvm.exec) (hb : c.code = cc) {own ref C : String} {T : u_T} {N ci index : Nat} {Ts : List Cond} (hts : ∀ w ∈ Ts, w.before args s = true) (hin : ∀ w ∈ u_ws C T N, w ∈ Ts) (ty0 : Nat → FieldType) (hty : ∀ k, k < N → parseFieldDescriptor (T k).2.2.1 = some (ty0 k)) (hnm : ∀ a, a < N → ∀ b, b < N → a ≠ b → (T a).2.1 ≠ (T b).2.1) (hown : s.vm.findClass own = some m.cls) (hK : va_K D cl tys s) (hW : wd_P D cl A w H) (hS0 : va_S A H0 H locs) {fs : List Value} (he : w a = some (.inr (ci, fs))) (hc : cl[ci]? = some (C, T, N)) (k : Nat) (hk : k < N) (hlink : (Cond.fieldLink own index ref (T k).2.1 (T k).2.2.1).before args s = true) (hsame : ∀ x, s.fieldFound? (T k).1 (T k).2.1 (T k).2.2.1 = some x → s.fieldFound? ref (T k).2.1 (T k).2.2.1 = some x) (hfin : (T k).2.2.2 = false) {ty : FieldType} {v : Value} (hd : parseFieldDescriptor (T k).2.2.1 = some ty) (hn : narrow ty v = v) (hfit : fits ty v = true) (hl : k < fs.length)
    (hdg : decode cc pc = .ok (.putfield index, 3)) (kk : ∀ (H1 : Heap) (locs1 : List Loc), wd_P D cl A (wd_up w a (.inr (ci, fs.set k v))) H1 → va_S A H0 H1 locs1 → W p l e R s m args below meth c H1 locs1 cells slots Q (F0 m (pc + 3) ls rest)) : W p l e R s m args below meth c H locs cells slots Q (F0 m pc ls (v :: .ref a :: rest)) := by
  obtain ⟨L, hL, hP, hD⟩ := hW
  obtain ⟨q0, hq⟩ := wd_in hL he
  exact va_put hexec hb hts hin ty0 hty hnm hown hK hP hD hS0 q0 hq hc k hk hlink hsame hfin hd hn hfit hl hdg (fun H1 locs1 hP1 hD1 hS1 => kk H1 locs1 (wd_set hL hD he hq hP1 hD1) hS1)
theorem wd_putF (hexec : p.tables.exec = Jvm.exec) (hb : c.code = cc) {own ref C : String} {T : u_T} {N ci index : Nat} {Ts : List Cond} (hts : ∀ w ∈ Ts, w.before args s = true) (hin : ∀ w ∈ u_ws C T N, w ∈ Ts) (ty0 : Nat → FieldType) (hty : ∀ k, k < N → parseFieldDescriptor (T k).2.2.1 = some (ty0 k)) (hnm : ∀ a, a < N → ∀ b, b < N → a ≠ b → (T a).2.1 ≠ (T b).2.1) (hown : s.vm.findClass own = some m.cls) (hK : va_K D cl tys s) (hW : wd_P D cl A w H) (hS0 : va_S A H0 H locs) {fs : List Value} (he : w a = some (.inr (ci, fs))) (hc : cl[ci]? = some (C, T, N)) (k : Nat) (hk : k < N) (hlink : (Cond.fieldLink own index ref (T k).2.1 (T k).2.2.1).before args s = true) (hsame : ∀ x, s.fieldFound? (T k).1 (T k).2.1 (T k).2.2.1 = some x → s.fieldFound? ref (T k).2.1 (T k).2.2.1 = some x) (hfin : (T k).2.2.2 = true) (hin2 : meth.name = "<init>") (hdecl : (T k).1 = own) {ty : FieldType} {v : Value} (hd : parseFieldDescriptor (T k).2.2.1 = some ty) (hn : narrow ty v = v) (hfit : fits ty v = true) (hl : k < fs.length)
    (hdg : decode cc pc = .ok (.putfield index, 3)) (kk : ∀ (H1 : Heap) (locs1 : List Loc), wd_P D cl A (wd_up w a (.inr (ci, fs.set k v))) H1 → va_S A H0 H1 locs1 → W p l e R s m args below meth c H1 locs1 cells slots Q (F0 m (pc + 3) ls rest)) : W p l e R s m args below meth c H locs cells slots Q (F0 m pc ls (v :: .ref a :: rest)) := by
  obtain ⟨L, hL, hP, hD⟩ := hW
  obtain ⟨q0, hq⟩ := wd_in hL he
  exact va_putF hexec hb hts hin ty0 hty hnm hown hK hP hD hS0 q0 hq hc k hk hlink hsame hfin hin2 hdecl hd hn hfit hl hdg (fun H1 locs1 hP1 hD1 hS1 => kk H1 locs1 (wd_set hL hD he hq hP1 hD1) hS1)
theorem wd_iald (hexec : p.tables.exec = Jvm.exec) (hb : c.code = cc) (hK : va_K D cl tys s) (hW : wd_P D cl A w H) (t0 : Nat) {cA : ClassId} {n : Nat} {f : Nat → Int32} (ha : w a = some (.inl (cA, n, .inl f))) (ht : tys[t0]? = some (cA, .int)) {i : Int32} (hin : vp_in i n) (hdg : decode cc pc = .ok (.iaload, 1))
    (kk : W p l e R s m args below meth c H locs cells slots Q (F0 m (pc + 1) ls (.int (f i.toNatClampNeg) :: rest))) : W p l e R s m args below meth c H locs cells slots Q (F0 m pc ls (.int i :: .ref a :: rest)) := by
  obtain ⟨L, hL, hP, hD⟩ := hW
  obtain ⟨q0, hq⟩ := wd_in hL ha
  exact va_iald hexec hb hK hP q0 t0 hq ht hin hdg kk
theorem wd_iast (hexec : p.tables.exec = Jvm.exec) (hb : c.code = cc) (hK : va_K D cl tys s) (hW : wd_P D cl A w H) (hS : va_S A H0 H locs) (t0 : Nat) {cA : ClassId} {n : Nat} {f : Nat → Int32} (ha : w a = some (.inl (cA, n, .inl f))) (ht : tys[t0]? = some (cA, .int)) {i : Int32} {x : Int32} (hin : vp_in i n) (hdg : decode cc pc = .ok (.iastore, 1))
    (kk : ∀ (H1 : Heap) (locs1 : List Loc), wd_P D cl A (wd_up w a (.inl (cA, n, .inl (upd f i.toNatClampNeg x)))) H1 → va_S A H0 H1 locs1 → W p l e R s m args below meth c H1 locs1 cells slots Q (F0 m (pc + 1) ls rest)) : W p l e R s m args below meth c H locs cells slots Q (F0 m pc ls (.int x :: .int i :: .ref a :: rest)) := by
  obtain ⟨L, hL, hP, hD⟩ := hW
  obtain ⟨q0, hq⟩ := wd_in hL ha
  exact va_iast hexec hb hK hP hD hS q0 t0 hq ht hin hdg (fun H1 locs1 hP1 hD1 hS1 => kk H1 locs1 (wd_set hL hD ha hq hP1 hD1) hS1)
theorem wd_alen (hexec : p.tables.exec = Jvm.exec) (hb : c.code = cc) (hK : va_K D cl tys s) (hW : wd_P D cl A w H) (t0 : Nat) {cA : ClassId} {x : vp_A} (ha : w a = some (.inl (cA, x))) {ty : FieldType} (ht : tys[t0]? = some (cA, ty)) (hdg : decode cc pc = .ok (.arraylength, 1))
    (kk : W p l e R s m args below meth c H locs cells slots Q (F0 m (pc + 1) ls (.int (nI x.1) :: rest))) : W p l e R s m args below meth c H locs cells slots Q (F0 m pc ls (.ref a :: rest)) := by
  obtain ⟨L, hL, hP, hD⟩ := hW
  obtain ⟨q0, hq⟩ := wd_in hL ha
  exact va_alen hexec hb hK hP q0 t0 hq ht rfl hdg kk
theorem wd_aldq (hexec : p.tables.exec = Jvm.exec) (hb : c.code = cc) (hK : va_K D cl tys s) (hW : wd_P D cl A w H) (t0 : Nat) {cA : ClassId} {C : String} {n : Nat} {f : Nat → Option Nat} (ha : w a = some (.inl (cA, n, .inr (.inr (.inr (.inr f)))))) (ht : tys[t0]? = some (cA, .object C)) {i : Int32} (hin : vp_in i n) (hdg : decode cc pc = .ok (.aaload, 1))
    (kk : W p l e R s m args below meth c H locs cells slots Q (F0 m (pc + 1) ls (va_rf (f i.toNatClampNeg) :: rest))) : W p l e R s m args below meth c H locs cells slots Q (F0 m pc ls (.int i :: .ref a :: rest)) := by
  obtain ⟨L, hL, hP, hD⟩ := hW
  obtain ⟨q0, hq⟩ := wd_in hL ha
  exact va_aldq hexec hb hK hP q0 t0 hq ht hin hdg kk
theorem wd_astq (hexec : p.tables.exec = Jvm.exec) (hb : c.code = cc) (hK : va_K D cl tys s) (hW : wd_P D cl A w H) (hS : va_S A H0 H locs) (t0 ci : Nat) {cA : ClassId} {r : vw_C} {n v : Nat} {vs : List Value} {f : Nat → Option Nat} (ha : w a = some (.inl (cA, n, .inr (.inr (.inr (.inr f)))))) (ht : tys[t0]? = some (cA, .object r.1)) (hv : w v = some (.inr (ci, vs))) (hc : cl[ci]? = some r) {i : Int32} (hin : vp_in i n) (hdg : decode cc pc = .ok (.aastore, 1))
    (kk : ∀ (H1 : Heap) (locs1 : List Loc), wd_P D cl A (wd_up w a (.inl (cA, n, .inr (.inr (.inr (.inr (va_up f i.toNatClampNeg (some v)))))))) H1 → va_S A H0 H1 locs1 → W p l e R s m args below meth c H1 locs1 cells slots Q (F0 m (pc + 1) ls rest)) : W p l e R s m args below meth c H locs cells slots Q (F0 m pc ls (.ref v :: .int i :: .ref a :: rest)) := by
  obtain ⟨L, hL, hP, hD⟩ := hW
  obtain ⟨q0, hq⟩ := wd_in hL ha
  obtain ⟨qk, hqk⟩ := wd_in hL hv
  exact va_astq hexec hb hK hP hD hS q0 t0 qk ci hq ht hqk hc hin hdg (fun H1 locs1 hP1 hD1 hS1 => kk H1 locs1 (wd_set hL hD ha hq hP1 hD1) hS1)
theorem wd_astqN (hexec : p.tables.exec = Jvm.exec) (hb : c.code = cc) (hK : va_K D cl tys s) (hW : wd_P D cl A w H) (hS : va_S A H0 H locs) (t0 : Nat) {cA : ClassId} {C : String} {n : Nat} {f : Nat → Option Nat} (ha : w a = some (.inl (cA, n, .inr (.inr (.inr (.inr f)))))) (ht : tys[t0]? = some (cA, .object C)) {i : Int32} (hin : vp_in i n) (hdg : decode cc pc = .ok (.aastore, 1))
    (kk : ∀ (H1 : Heap) (locs1 : List Loc), wd_P D cl A (wd_up w a (.inl (cA, n, .inr (.inr (.inr (.inr (va_up f i.toNatClampNeg none))))))) H1 → va_S A H0 H1 locs1 → W p l e R s m args below meth c H1 locs1 cells slots Q (F0 m (pc + 1) ls rest)) : W p l e R s m args below meth c H locs cells slots Q (F0 m pc ls (.null :: .int i :: .ref a :: rest)) := by
  obtain ⟨L, hL, hP, hD⟩ := hW
  obtain ⟨q0, hq⟩ := wd_in hL ha
  exact va_astqN hexec hb hK hP hD hS q0 t0 hq ht hin hdg (fun H1 locs1 hP1 hD1 hS1 => kk H1 locs1 (wd_set hL hD ha hq hP1 hD1) hS1)
theorem wd_copyi (hexec : p.tables.exec = Jvm.exec) (hb : c.code = cc) (hml : c.maxLocals = ls.size) {own : String} {index : Nat} (hown : s.vm.findClass own = some m.cls) (hlink : (Cond.methodLink own index arraycopyName).before args s = true) (hnat : (Cond.native arraycopyName).before args s = true) (hstat : (Cond.static arraycopyName).before args s = true) (hini : (Cond.initialized "java/lang/System").before args s = true)
    (hK : va_K D cl tys s) (hW : wd_P D cl A w H) (hS : va_S A H0 H locs) (t0 t1 : Nat) {a0 : Nat} {c0 c1 : ClassId} {n0 n1 : Nat} {f g : Nat → Int32} (ha0 : w a0 = some (.inl (c0, n0, .inl f))) (ha1 : w a = some (.inl (c1, n1, .inl g))) (ht0 : tys[t0]? = some (c0, .int)) (ht1 : tys[t1]? = some (c1, .int))
    {sp dp n : Int32} (h1 : ¬ sp < 0) (h2 : ¬ dp < 0) (h3 : ¬ n < 0) (h4 : sp.toNatClampNeg + n.toNatClampNeg ≤ n0) (h5 : dp.toNatClampNeg + n.toNatClampNeg ≤ n1)
    (hframes : 1 ≤ R.frames) (hlocals : (rest.map fun v => v.category).sum + (nativeFrameWords "java/lang/System" "arraycopy" 5 + 11) ≤ R.locals) (hdg : decode cc pc = .ok (.invokestatic index, 3))
    (kk : ∀ (H1 : Heap) (locs1 : List Loc), wd_P D cl A (wd_up w a (.inl (c1, n1, .inl (va_cpy f g sp.toNatClampNeg dp.toNatClampNeg n.toNatClampNeg)))) H1 → va_S A H0 H1 locs1 → W p l e R s m args below meth c H1 locs1 cells slots Q (F0 m (pc + 3) ls rest)) : W p l e R s m args below meth c H locs cells slots Q (F0 m pc ls (.int n :: .int dp :: .ref a :: .int sp :: .ref a0 :: rest)) := by
  obtain ⟨L, hL, hP, hD⟩ := hW
  obtain ⟨q0, hq0⟩ := wd_in hL ha0
  obtain ⟨q1, hq1⟩ := wd_in hL ha1
  exact va_copyi hexec hb hml hown hlink hnat hstat hini hK hP hD hS q0 q1 t0 t1 hq0 hq1 ht0 ht1 rfl h1 h2 h3 h4 h5 (fun _ _ => rfl) hframes hlocals hdg (fun H1 locs1 hP1 hD1 hS1 => kk H1 locs1 (wd_set hL hD ha1 hq1 hP1 hD1) hS1)
theorem wd_new (hexec : p.tables.exec = Jvm.exec) (hb : c.code = cc) {own C : String} {T : u_T} {N ci index : Nat} {Ts : List Cond} (hts : ∀ w ∈ Ts, w.before args s = true) (hin : ∀ w ∈ u_ws C T N, w ∈ Ts) (ty : Nat → FieldType) (hty : ∀ k, k < N → parseFieldDescriptor (T k).2.2.1 = some (ty k)) (hown : s.vm.findClass own = some m.cls) (hcl : (Cond.classLink own index C).before args s = true) (hinst : (Cond.instantiable C N).before args s = true) (hini : (Cond.initialized C).before args s = true)
    (hK : va_K D cl tys s) (hW : wd_P D cl A w H) (hS : va_S A H0 H locs) (hA : ∀ q, H0.size ≤ q → A q) (hc : cl[ci]? = some (C, T, N)) {fs : List Value} (hfs : ∀ j, j < N → defaultValue (ty j) = vp_V fs j) (hcells : cells + 1 ≤ R.cells) (hslots : slots + N ≤ R.slots) (hdg : decode cc pc = .ok (.new index, 3))
    (kk : ∀ (q : Nat) (H1 : Heap), w q = none → wd_P D cl A (wd_up w q (.inr (ci, fs))) H1 → va_S A H0 H1 locs →
      W p l e R s m args below meth c H1 locs (cells + 1) (slots + N) Q (F0 m (pc + 3) ls (.ref q :: rest))) : W p l e R s m args below meth c H locs cells slots Q (F0 m pc ls rest) := by
  obtain ⟨L, hL, hP, hD⟩ := hW
  exact va_new hexec hb hts hin ty hty hown hcl hinst hini hK hP hD hS hA hc hfs hcells hslots hdg (fun q H1 hP1 hD1 hS1 => by
    obtain ⟨h1, h2⟩ := wd_push hL hP1 hD1
    exact kk q H1 h1 h2 hS1)
/-- a new array of ints: its class is the one that the tables know -/
theorem wd_newi (hexec : p.tables.exec = Jvm.exec) (hb : c.code = cc) (harr : (Cond.arrayClass .int).before args s = true) (hK : va_K D cl tys s) (t0 : Nat) {cI : ClassId} (ht : tys[t0]? = some (cI, .int)) (hW : wd_P D cl A w H) (hS : va_S A H0 H locs) (hA : ∀ q, H0.size ≤ q → A q)
    {n : Int32} {N' : Nat} (hn : ¬ n < 0) (hN : n.toNatClampNeg = N') (hbytes : N' * 4 ≤ 536870912) (hcells : cells + 1 ≤ R.cells) (hslots : slots + N' ≤ R.slots) (hdg : decode cc pc = .ok (.newarray .int, 2))
    (kk : ∀ (q : Nat) (H1 : Heap), w q = none → wd_P D cl A (wd_up w q (.inl (cI, N', .inl (fun _ => 0)))) H1 → va_S A H0 H1 locs →
      W p l e R s m args below meth c H1 locs (cells + 1) (slots + N') Q (F0 m (pc + 2) ls (.ref q :: rest))) : W p l e R s m args below meth c H locs cells slots Q (F0 m pc ls (.int n :: rest)) := by
  obtain ⟨L, hL, hP, hD⟩ := hW
  refine va_newa (atype := .int) (ty := .int) (a0 := (N', .inl (fun _ => 0))) hexec hb harr rfl hK hP hD hS hA (fun cA => rfl) hn hN hbytes hcells hslots hdg (fun q cA H1 hK1 hP1 hD1 hS1 => ?_)
  have e1 := va_nm_int (hK.2 t0 _ ht).2
  have e2 := va_nm_int (hK1.2 tys.length (cA, .int) (by simp)).2
  have e3 : cA = cI := Option.some.inj (e2.symm.trans e1)
  subst e3
  obtain ⟨h1, h2⟩ := wd_push hL hP1 hD1
  exact kk q H1 h1 h2 hS1
theorem wd_newq (hexec : p.tables.exec = Jvm.exec) (hb : c.code = cc) {own C : String} {index : Nat} (hown : s.vm.findClass own = some m.cls) (hclink : (Cond.classLink own index C).before args s = true) (hover : va_AO C s) (hK : va_K D cl tys s) (t0 : Nat) {cT : ClassId} (ht : tys[t0]? = some (cT, .object C)) (hW : wd_P D cl A w H) (hS : va_S A H0 H locs) (hA : ∀ q, H0.size ≤ q → A q)
    {n : Int32} {N' : Nat} (hn : ¬ n < 0) (hN : n.toNatClampNeg = N') (hbytes : N' * 4 ≤ 536870912) (hcells : cells + 1 ≤ R.cells) (hslots : slots + N' ≤ R.slots) (hdg : decode cc pc = .ok (.anewarray index, 3))
    (kk : ∀ (q : Nat) (H1 : Heap), w q = none → wd_P D cl A (wd_up w q (.inl (cT, N', .inr (.inr (.inr (.inr (fun _ => none))))))) H1 → va_S A H0 H1 locs →
      W p l e R s m args below meth c H1 locs (cells + 1) (slots + N') Q (F0 m (pc + 3) ls (.ref q :: rest))) : W p l e R s m args below meth c H locs cells slots Q (F0 m pc ls (.int n :: rest)) := by
  obtain ⟨L, hL, hP, hD⟩ := hW
  refine va_newq hexec hb hown hclink hover hK hP hD hS hA hn hN hbytes hcells hslots hdg (fun q cA H1 hK1 hP1 hD1 hS1 => ?_)
  obtain ⟨_, _, _, _, _, e1⟩ := (hK.2 t0 _ ht).2
  obtain ⟨_, _, _, _, _, e2⟩ := (hK1.2 tys.length (cA, .object C) (by simp)).2
  have e3 : cA = cT := Option.some.inj (e2.symm.trans e1)
  subst e3
  obtain ⟨h1, h2⟩ := wd_push hL hP1 hD1
  exact kk q H1 h1 h2 hS1
theorem wd_callVi {post : Int32 → Wd → Prop} {own : String} {C : String} {index : Nat} {y : MethodName} {bytes : ByteArray} {maxL nL mc ms n : Nat} {ret : Option FieldType} {ws Ts : List Cond} {rm : Room} {As st : List Value} {b : Nat} {KK : State → Prop} {c2 s2 : Nat} (S : CallFix p m c cc nL s args Ts own)
    (hM : Met l y ws rm (wd_C D cl KK (.ref b :: As) w H.size) (va_Qi post (wd_B D cl (wd_A w H.size)) (wd_A w H.size)) mc ms (wd_A w H.size))
    (cw : CallW R s args own C index y bytes maxL ret ws rm mc ms n) (hk : wd_Kok KK) (hK : KK s) (hW : wd_P D cl A w H) (hrecv : ∃ cellB : Cell, H[b]? = some cellB ∧ cellB.vm.isStatics = false ∧ s.vm.findClass C = some cellB.cls) (hS : va_S A H0 H locs) (hA : ∀ q, H0.size ≤ q → A q)
    (hn : As.length = n) (hsize : ls.size = nL) (hst : st = As.reverse ++ .ref b :: rest) (hrest : (rest.map fun v => v.category).sum ≤ 8) (hdg : decode cc pc = .ok (.invokevirtual index, 3)) (hf : cells + mc ≤ R.cells ∧ slots + ms ≤ R.slots) (hc2 : cells + mc = c2) (hs2 : slots + ms = s2)
    (kk : ∀ (r : Int32) (w' : Wd) (H1 : Heap) (locs1 : List Loc), post r w' → wd_P D cl A w' H1 → H.size ≤ H1.size → va_S A H0 H1 locs1 → W p l e R s m args below meth c H1 locs1 c2 s2 Q (F0 m (pc + 3) ls (.int r :: rest))) : W p l e R s m args below meth c H locs cells slots Q (F0 m pc ls st) := by
  subst hst hc2 hs2
  have hAA := hW.free hS hA
  refine va_calli (va_runV (As := As) (rest := rest) S hM cw ⟨fun a U g mk q => by obtain ⟨q0, q1, q2, q3⟩ := q; exact ⟨q0, q1, q2, hk.2 _ _ _ _ q3⟩, hrecv, fun U hU hWm => ⟨rfl, by rw [hU], by rw [hU]; exact hW.weaken (fun _ _ => trivial), hk.1 _ _ hK hWm⟩⟩ rfl hn hsize rfl (lv_room hrest) hdg hf) hS (fun q _ h => hAA q h) hAA (fun r w' t H1 locs1 ht hvm hw hB hz1 hk1 hS1 => ?_)
  exact kk r w' H1 locs1 hw (wd_P.weaken (by rw [← ht]; exact hB) hAA) hz1 hS1
theorem wd_callVv {post : Wd → Prop} {own : String} {C : String} {index : Nat} {y : MethodName} {bytes : ByteArray} {maxL nL mc ms n : Nat} {ret : Option FieldType} {ws Ts : List Cond} {rm : Room} {As st : List Value} {b : Nat} {KK : State → Prop} {c2 s2 : Nat} (S : CallFix p m c cc nL s args Ts own)
    (hM : Met l y ws rm (wd_C D cl KK (.ref b :: As) w H.size) (va_Qv post (wd_B D cl (wd_A w H.size)) (wd_A w H.size)) mc ms (wd_A w H.size))
    (cw : CallW R s args own C index y bytes maxL ret ws rm mc ms n) (hk : wd_Kok KK) (hK : KK s) (hW : wd_P D cl A w H) (hrecv : ∃ cellB : Cell, H[b]? = some cellB ∧ cellB.vm.isStatics = false ∧ s.vm.findClass C = some cellB.cls) (hS : va_S A H0 H locs) (hA : ∀ q, H0.size ≤ q → A q)
    (hn : As.length = n) (hsize : ls.size = nL) (hst : st = As.reverse ++ .ref b :: rest) (hrest : (rest.map fun v => v.category).sum ≤ 8) (hdg : decode cc pc = .ok (.invokevirtual index, 3)) (hf : cells + mc ≤ R.cells ∧ slots + ms ≤ R.slots) (hc2 : cells + mc = c2) (hs2 : slots + ms = s2)
    (kk : ∀ (w' : Wd) (H1 : Heap) (locs1 : List Loc), post w' → wd_P D cl A w' H1 → H.size ≤ H1.size → va_S A H0 H1 locs1 → W p l e R s m args below meth c H1 locs1 c2 s2 Q (F0 m (pc + 3) ls rest)) : W p l e R s m args below meth c H locs cells slots Q (F0 m pc ls st) := by
  subst hst hc2 hs2
  have hAA := hW.free hS hA
  refine va_callv (va_runV (As := As) (rest := rest) S hM cw ⟨fun a U g mk q => by obtain ⟨q0, q1, q2, q3⟩ := q; exact ⟨q0, q1, q2, hk.2 _ _ _ _ q3⟩, hrecv, fun U hU hWm => ⟨rfl, by rw [hU], by rw [hU]; exact hW.weaken (fun _ _ => trivial), hk.1 _ _ hK hWm⟩⟩ rfl hn hsize rfl (lv_room hrest) hdg hf) hS (fun q _ h => hAA q h) hAA (fun w' t H1 locs1 ht hvm hw hB hz1 hk1 hS1 => ?_)
  exact kk w' H1 locs1 hw (wd_P.weaken (by rw [← ht]; exact hB) hAA) hz1 hS1
theorem wd_callSi {post : Int32 → Wd → Prop} {own : String} {index : Nat} {y : MethodName} {bytes : ByteArray} {maxL nL mc ms n : Nat} {ret : Option FieldType} {ws Ts : List Cond} {rm : Room} {As st : List Value} {KK : State → Prop} {c2 s2 : Nat} (S : CallFix p m c cc nL s args Ts own)
    (hM : Met l y ws rm (wd_C D cl KK As w H.size) (va_Qi post (wd_B D cl (wd_A w H.size)) (wd_A w H.size)) mc ms (wd_A w H.size))
    (cw : CallB R s args own index y bytes maxL ret ws rm mc ms n ∧ (Cond.static y).before args s = true) (hk : wd_Kok KK) (hK : KK s) (hW : wd_P D cl A w H) (hS : va_S A H0 H locs) (hA : ∀ q, H0.size ≤ q → A q)
    (hn : As.length = n) (hsize : ls.size = nL) (hst : st = As.reverse ++ rest) (hrest : (rest.map fun v => v.category).sum ≤ 8) (hdg : decode cc pc = .ok (.invokestatic index, 3)) (hf : cells + mc ≤ R.cells ∧ slots + ms ≤ R.slots) (hc2 : cells + mc = c2) (hs2 : slots + ms = s2)
    (kk : ∀ (r : Int32) (w' : Wd) (H1 : Heap) (locs1 : List Loc), post r w' → wd_P D cl A w' H1 → H.size ≤ H1.size → va_S A H0 H1 locs1 → W p l e R s m args below meth c H1 locs1 c2 s2 Q (F0 m (pc + 3) ls (.int r :: rest))) : W p l e R s m args below meth c H locs cells slots Q (F0 m pc ls st) := by
  subst hst hc2 hs2
  have hAA := hW.free hS hA
  refine va_calli (va_runS (As := As) (rest := rest) S hM cw ⟨fun a U g mk q => by obtain ⟨q0, q1, q2, q3⟩ := q; exact ⟨q0, q1, q2, hk.2 _ _ _ _ q3⟩, fun U hU hWm => ⟨rfl, by rw [hU], by rw [hU]; exact hW.weaken (fun _ _ => trivial), hk.1 _ _ hK hWm⟩⟩ rfl hn hsize rfl (lv_room hrest) hdg hf) hS (fun q _ h => hAA q h) hAA (fun r w' t H1 locs1 ht hvm hw hB hz1 hk1 hS1 => ?_)
  exact kk r w' H1 locs1 hw (wd_P.weaken (by rw [← ht]; exact hB) hAA) hz1 hS1
theorem wd_callSv {post : Wd → Prop} {own : String} {index : Nat} {y : MethodName} {bytes : ByteArray} {maxL nL mc ms n : Nat} {ret : Option FieldType} {ws Ts : List Cond} {rm : Room} {As st : List Value} {KK : State → Prop} {c2 s2 : Nat} (S : CallFix p m c cc nL s args Ts own)
    (hM : Met l y ws rm (wd_C D cl KK As w H.size) (va_Qv post (wd_B D cl (wd_A w H.size)) (wd_A w H.size)) mc ms (wd_A w H.size))
    (cw : CallB R s args own index y bytes maxL ret ws rm mc ms n ∧ (Cond.static y).before args s = true) (hk : wd_Kok KK) (hK : KK s) (hW : wd_P D cl A w H) (hS : va_S A H0 H locs) (hA : ∀ q, H0.size ≤ q → A q)
    (hn : As.length = n) (hsize : ls.size = nL) (hst : st = As.reverse ++ rest) (hrest : (rest.map fun v => v.category).sum ≤ 8) (hdg : decode cc pc = .ok (.invokestatic index, 3)) (hf : cells + mc ≤ R.cells ∧ slots + ms ≤ R.slots) (hc2 : cells + mc = c2) (hs2 : slots + ms = s2)
    (kk : ∀ (w' : Wd) (H1 : Heap) (locs1 : List Loc), post w' → wd_P D cl A w' H1 → H.size ≤ H1.size → va_S A H0 H1 locs1 → W p l e R s m args below meth c H1 locs1 c2 s2 Q (F0 m (pc + 3) ls rest)) : W p l e R s m args below meth c H locs cells slots Q (F0 m pc ls st) := by
  subst hst hc2 hs2
  have hAA := hW.free hS hA
  refine va_callv (va_runS (As := As) (rest := rest) S hM cw ⟨fun a U g mk q => by obtain ⟨q0, q1, q2, q3⟩ := q; exact ⟨q0, q1, q2, hk.2 _ _ _ _ q3⟩, fun U hU hWm => ⟨rfl, by rw [hU], by rw [hU]; exact hW.weaken (fun _ _ => trivial), hk.1 _ _ hK hWm⟩⟩ rfl hn hsize rfl (lv_room hrest) hdg hf) hS (fun q _ h => hAA q h) hAA (fun w' t H1 locs1 ht hvm hw hB hz1 hk1 hS1 => ?_)
  exact kk w' H1 locs1 hw (wd_P.weaken (by rw [← ht]; exact hB) hAA) hz1 hS1
theorem wd_callSr {post : Wd × Nat → Prop} {own : String} {index : Nat} {y : MethodName} {bytes : ByteArray} {maxL nL mc ms n : Nat} {ret : Option FieldType} {ws Ts : List Cond} {rm : Room} {As st : List Value} {KK : State → Prop} {c2 s2 : Nat} (S : CallFix p m c cc nL s args Ts own)
    (hM : Met l y ws rm (wd_C D cl KK As w H.size) (va_Qr post (fun u a t => a = u.2 ∧ wd_P D cl (wd_A w H.size) u.1 t.heap) (wd_A w H.size)) mc ms (wd_A w H.size))
    (cw : CallB R s args own index y bytes maxL ret ws rm mc ms n ∧ (Cond.static y).before args s = true) (hk : wd_Kok KK) (hK : KK s) (hW : wd_P D cl A w H) (hS : va_S A H0 H locs) (hA : ∀ q, H0.size ≤ q → A q)
    (hn : As.length = n) (hsize : ls.size = nL) (hst : st = As.reverse ++ rest) (hrest : (rest.map fun v => v.category).sum ≤ 8) (hdg : decode cc pc = .ok (.invokestatic index, 3)) (hf : cells + mc ≤ R.cells ∧ slots + ms ≤ R.slots) (hc2 : cells + mc = c2) (hs2 : slots + ms = s2)
    (kk : ∀ (w' : Wd) (ra : Nat) (H1 : Heap) (locs1 : List Loc), post (w', ra) → wd_P D cl A w' H1 → H.size ≤ H1.size → va_S A H0 H1 locs1 → W p l e R s m args below meth c H1 locs1 c2 s2 Q (F0 m (pc + 3) ls (.ref ra :: rest))) : W p l e R s m args below meth c H locs cells slots Q (F0 m pc ls st) := by
  subst hst hc2 hs2
  have hAA := hW.free hS hA
  refine va_callr (va_runS (As := As) (rest := rest) S hM cw ⟨fun a U g mk q => by obtain ⟨q0, q1, q2, q3⟩ := q; exact ⟨q0, q1, q2, hk.2 _ _ _ _ q3⟩, fun U hU hWm => ⟨rfl, by rw [hU], by rw [hU]; exact hW.weaken (fun _ _ => trivial), hk.1 _ _ hK hWm⟩⟩ rfl hn hsize rfl (lv_room hrest) hdg hf) hS (fun q _ h => hAA q h) hAA (fun u ra t H1 locs1 ht hvm hw hB hz1 hk1 hS1 => ?_)
  exact kk u.1 ra H1 locs1 (by rw [hB.1]; exact hw) (wd_P.weaken (by rw [← ht]; exact hB.2) hAA) hz1 hS1
theorem wd_callIv {post : Wd → Prop} {own : String} {index : Nat} {y : MethodName} {bytes : ByteArray} {maxL nL mc ms n : Nat} {ws Ts : List Cond} {rm : Room} {As st : List Value} {b : Nat} {KK : State → Prop} {c2 s2 : Nat} (S : CallFix p m c cc nL s args Ts own)
    (hM : Met l y ws rm (wd_C D cl KK (.ref b :: As) w H.size) (va_Qv post (wd_B D cl (wd_A w H.size)) (wd_A w H.size)) mc ms (wd_A w H.size))
    (cw : CallB R s args own index y bytes maxL none ws rm mc ms n ∧ y.name = "<init>" ∧ (Cond.instanceMethod y).before args s = true) (hk : wd_Kok KK) (hK : KK s) (hW : wd_P D cl A w H) (hS : va_S A H0 H locs) (hA : ∀ q, H0.size ≤ q → A q)
    (hn : As.length = n) (hsize : ls.size = nL) (hst : st = As.reverse ++ .ref b :: rest) (hrest : (rest.map fun v => v.category).sum ≤ 8) (hdg : decode cc pc = .ok (.invokespecial index, 3)) (hf : cells + mc ≤ R.cells ∧ slots + ms ≤ R.slots) (hc2 : cells + mc = c2) (hs2 : slots + ms = s2)
    (kk : ∀ (w' : Wd) (H1 : Heap) (locs1 : List Loc), post w' → wd_P D cl A w' H1 → H.size ≤ H1.size → va_S A H0 H1 locs1 → W p l e R s m args below meth c H1 locs1 c2 s2 Q (F0 m (pc + 3) ls rest)) : W p l e R s m args below meth c H locs cells slots Q (F0 m pc ls st) := by
  subst hst hc2 hs2
  have hAA := hW.free hS hA
  refine va_callv (va_runI (As := As) (rest := rest) S hM cw ⟨fun a U g mk q => by obtain ⟨q0, q1, q2, q3⟩ := q; exact ⟨q0, q1, q2, hk.2 _ _ _ _ q3⟩, fun U hU hWm => ⟨rfl, by rw [hU], by rw [hU]; exact hW.weaken (fun _ _ => trivial), hk.1 _ _ hK hWm⟩⟩ rfl hn hsize rfl (lv_room hrest) hdg hf) hS (fun q _ h => hAA q h) hAA (fun w' t H1 locs1 ht hvm hw hB hz1 hk1 hS1 => ?_)
  exact kk w' H1 locs1 hw (wd_P.weaken (by rw [← ht]; exact hB) hAA) hz1 hS1
theorem wd_callSNi {post : Int32 → Wd → Prop} {own : String} {host : String} {index : Nat} {y : MethodName} {bytes : ByteArray} {maxL nL mc ms n : Nat} {ret : Option FieldType} {ws Ts : List Cond} {rm : Room} {As st : List Value} {KK : State → Prop} {c2 s2 : Nat} (S : CallFix p m c cc nL s args Ts own)
    (hM : Met l y ws rm (wd_C D cl KK As w H.size) (va_Qi post (wd_B D cl (wd_A w H.size)) (wd_A w H.size)) mc ms (wd_A w H.size))
    (cw : va_CN R s args own index y host bytes maxL ret ws rm mc ms n ∧ (Cond.static y).before args s = true ∧ True) (hk : wd_Kok KK) (hK : KK s) (hW : wd_P D cl A w H) (hS : va_S A H0 H locs) (hA : ∀ q, H0.size ≤ q → A q)
    (hn : As.length = n) (hsize : ls.size = nL) (hst : st = As.reverse ++ rest) (hrest : (rest.map fun v => v.category).sum ≤ 8) (hdg : decode cc pc = .ok (.invokestatic index, 3)) (hf : cells + mc ≤ R.cells ∧ slots + ms ≤ R.slots) (hc2 : cells + mc = c2) (hs2 : slots + ms = s2)
    (kk : ∀ (r : Int32) (w' : Wd) (H1 : Heap) (locs1 : List Loc), post r w' → wd_P D cl A w' H1 → H.size ≤ H1.size → va_S A H0 H1 locs1 → W p l e R s m args below meth c H1 locs1 c2 s2 Q (F0 m (pc + 3) ls (.int r :: rest))) : W p l e R s m args below meth c H locs cells slots Q (F0 m pc ls st) := by
  subst hst hc2 hs2
  have hAA := hW.free hS hA
  refine va_calli (va_runSN (As := As) (rest := rest) S hM cw ⟨fun a U g mk q => by obtain ⟨q0, q1, q2, q3⟩ := q; exact ⟨q0, q1, q2, hk.2 _ _ _ _ q3⟩, fun U hU hWm => ⟨rfl, by rw [hU], by rw [hU]; exact hW.weaken (fun _ _ => trivial), hk.1 _ _ hK hWm⟩⟩ rfl hn hsize rfl (lv_room hrest) hdg hf) hS (fun q _ h => hAA q h) hAA (fun r w' t H1 locs1 ht hvm hw hB hz1 hk1 hS1 => ?_)
  exact kk r w' H1 locs1 hw (wd_P.weaken (by rw [← ht]; exact hB) hAA) hz1 hS1
theorem wd_callSNv {post : Wd → Prop} {own : String} {host : String} {index : Nat} {y : MethodName} {bytes : ByteArray} {maxL nL mc ms n : Nat} {ret : Option FieldType} {ws Ts : List Cond} {rm : Room} {As st : List Value} {KK : State → Prop} {c2 s2 : Nat} (S : CallFix p m c cc nL s args Ts own)
    (hM : Met l y ws rm (wd_C D cl KK As w H.size) (va_Qv post (wd_B D cl (wd_A w H.size)) (wd_A w H.size)) mc ms (wd_A w H.size))
    (cw : va_CN R s args own index y host bytes maxL ret ws rm mc ms n ∧ (Cond.static y).before args s = true ∧ True) (hk : wd_Kok KK) (hK : KK s) (hW : wd_P D cl A w H) (hS : va_S A H0 H locs) (hA : ∀ q, H0.size ≤ q → A q)
    (hn : As.length = n) (hsize : ls.size = nL) (hst : st = As.reverse ++ rest) (hrest : (rest.map fun v => v.category).sum ≤ 8) (hdg : decode cc pc = .ok (.invokestatic index, 3)) (hf : cells + mc ≤ R.cells ∧ slots + ms ≤ R.slots) (hc2 : cells + mc = c2) (hs2 : slots + ms = s2)
    (kk : ∀ (w' : Wd) (H1 : Heap) (locs1 : List Loc), post w' → wd_P D cl A w' H1 → H.size ≤ H1.size → va_S A H0 H1 locs1 → W p l e R s m args below meth c H1 locs1 c2 s2 Q (F0 m (pc + 3) ls rest)) : W p l e R s m args below meth c H locs cells slots Q (F0 m pc ls st) := by
  subst hst hc2 hs2
  have hAA := hW.free hS hA
  refine va_callv (va_runSN (As := As) (rest := rest) S hM cw ⟨fun a U g mk q => by obtain ⟨q0, q1, q2, q3⟩ := q; exact ⟨q0, q1, q2, hk.2 _ _ _ _ q3⟩, fun U hU hWm => ⟨rfl, by rw [hU], by rw [hU]; exact hW.weaken (fun _ _ => trivial), hk.1 _ _ hK hWm⟩⟩ rfl hn hsize rfl (lv_room hrest) hdg hf) hS (fun q _ h => hAA q h) hAA (fun w' t H1 locs1 ht hvm hw hB hz1 hk1 hS1 => ?_)
  exact kk w' H1 locs1 hw (wd_P.weaken (by rw [← ht]; exact hB) hAA) hz1 hS1
theorem wd_recv {ci : Nat} {q : vw_C} {fs : List Value} (hK : va_K D cl tys s) (hW : wd_P D cl A w H) (hc : cl[ci]? = some q) (he : w a = some (.inr (ci, fs))) : ∃ cell : Cell, H[a]? = some cell ∧ cell.vm.isStatics = false ∧ s.vm.findClass q.1 = some cell.cls := by
  obtain ⟨L, hL, hP, hD⟩ := hW
  obtain ⟨q0, hq⟩ := wd_in hL he
  exact va_recv hK hP hc hq
/-- ends -/
theorem wd_iret {post : Int32 → Wd → Prop} {w0 : Wd} {v : Int32} (hexec : p.tables.exec = Jvm.exec) (hb : c.code = cc) (hr : meth.sig.returnType = some .int) (hlocks : meth.locks = false) (hW : wd_P D cl (wd_A w0 s.heap.size) w H) (hS : va_S (wd_A w0 s.heap.size) s.heap H locs) (hdg : decode cc pc = .ok (.ireturn, 1)) (hp : post v w) :
    W p l e R s m args below meth c H locs cells slots (MQ below (va_Qi post (wd_B D cl (wd_A w0 s.heap.size)) (wd_A w0 s.heap.size)) args s cells slots (wd_A w0 s.heap.size)) (F0 m pc ls [.int v]) :=
  W.iret hexec hb hr (fun t ht hWm => ⟨⟨v, w, rfl, hp, by rw [wd_B, ht]; exact hW⟩, hS.F ht⟩) hS.2.2 hdg hlocks
theorem wd_zret {post : Int32 → Wd → Prop} {w0 : Wd} {v : Int32} (hexec : p.tables.exec = Jvm.exec) (hb : c.code = cc) (hr : meth.sig.returnType = some .boolean) (hlocks : meth.locks = false) (hn : v = 0 ∨ v = 1) (hW : wd_P D cl (wd_A w0 s.heap.size) w H) (hS : va_S (wd_A w0 s.heap.size) s.heap H locs) (hdg : decode cc pc = .ok (.ireturn, 1)) (hp : post v w) :
    W p l e R s m args below meth c H locs cells slots (MQ below (va_Qi post (wd_B D cl (wd_A w0 s.heap.size)) (wd_A w0 s.heap.size)) args s cells slots (wd_A w0 s.heap.size)) (F0 m pc ls [.int v]) :=
  W.zret hexec hb hr (by rcases hn with h | h <;> subst h <;> decide) (fun t ht hWm => ⟨⟨v, w, rfl, hp, by rw [wd_B, ht]; exact hW⟩, hS.F ht⟩) hS.2.2 hdg hlocks
theorem wd_vret {post : Wd → Prop} {w0 : Wd} (hexec : p.tables.exec = Jvm.exec) (hb : c.code = cc) (hr : meth.sig.returnType = none) (hlocks : meth.locks = false) (hW : wd_P D cl (wd_A w0 s.heap.size) w H) (hS : va_S (wd_A w0 s.heap.size) s.heap H locs) (hdg : decode cc pc = .ok (.return_, 1)) (hp : post w) :
    W p l e R s m args below meth c H locs cells slots (MQ below (va_Qv post (wd_B D cl (wd_A w0 s.heap.size)) (wd_A w0 s.heap.size)) args s cells slots (wd_A w0 s.heap.size)) (F0 m pc ls []) :=
  W.vret hexec hb hr (fun t ht hWm => ⟨⟨w, rfl, hp, by rw [wd_B, ht]; exact hW⟩, hS.F ht⟩) hS.2.2 hdg hlocks
theorem wd_aret {post : Wd × Nat → Prop} {w0 : Wd} {ra : Nat} {rt : FieldType} (hexec : p.tables.exec = Jvm.exec) (hb : c.code = cc) (hr : meth.sig.returnType = some rt) (hrt : (∃ n, rt = .object n) ∨ ∃ t, rt = .array t) (hlocks : meth.locks = false) (hW : wd_P D cl (wd_A w0 s.heap.size) w H) (hS : va_S (wd_A w0 s.heap.size) s.heap H locs) (hdg : decode cc pc = .ok (.areturn, 1)) (hp : post (w, ra)) :
    W p l e R s m args below meth c H locs cells slots (MQ below (va_Qr post (fun u a t => a = u.2 ∧ wd_P D cl (wd_A w0 s.heap.size) u.1 t.heap) (wd_A w0 s.heap.size)) args s cells slots (wd_A w0 s.heap.size)) (F0 m pc ls [.ref ra]) :=
  W.aret hexec hb hr hrt (Or.inr ⟨ra, rfl⟩) (fun t ht hWm => ⟨⟨(w, ra), ra, rfl, hp, rfl, by rw [ht]; exact hW⟩, hS.F ht⟩) hS.2.2 hdg hlocks
theorem wd_topE {x y : Int32} (h : x = y) (k : W p l e R s m args below meth c H locs cells slots Q (F0 m pc ls (.int y :: rest))) : W p l e R s m args below meth c H locs cells slots Q (F0 m pc ls (.int x :: rest)) := by rw [h]; exact k
theorem wd_loop1 {A1 : Type} (I : A1 → Heap → List Loc → Array Slot → Prop) (μ : A1 → Nat) (a1 : A1) (h0 : I a1 H locs ls)
    (hs : ∀ (x1 : A1) (H : Heap) (locs : List Loc) (ls : Array Slot), I x1 H locs ls → (∀ (y1 : A1) (H : Heap) (locs : List Loc) (ls : Array Slot), I y1 H locs ls → μ y1 < μ x1 → W p l e R s m args below meth c H locs cells slots Q (F0 m pc ls rest)) → W p l e R s m args below meth c H locs cells slots Q (F0 m pc ls rest)) : W p l e R s m args below meth c H locs cells slots Q (F0 m pc ls rest) := by
  have key : ∀ (n : Nat) (x1 : A1) (H : Heap) (locs : List Loc) (ls : Array Slot), μ x1 < n → I x1 H locs ls → W p l e R s m args below meth c H locs cells slots Q (F0 m pc ls rest) := by
    intro n
    induction n with
    | zero => intro x1 H locs ls h; exact absurd h (Nat.not_lt_zero _)
    | succ n ih => intro x1 H locs ls h hI; exact hs x1 H locs ls hI (fun y1 H locs ls hI' hlt => ih y1 H locs ls (by omega) hI')
  exact key (μ a1 + 1) a1 H locs ls (Nat.lt_succ_self _) h0
theorem wd_loop2 {A1 A2 : Type} (I : A1 → A2 → Heap → List Loc → Array Slot → Prop) (μ : A1 → A2 → Nat) (a1 : A1) (a2 : A2) (h0 : I a1 a2 H locs ls)
    (hs : ∀ (x1 : A1) (x2 : A2) (H : Heap) (locs : List Loc) (ls : Array Slot), I x1 x2 H locs ls → (∀ (y1 : A1) (y2 : A2) (H : Heap) (locs : List Loc) (ls : Array Slot), I y1 y2 H locs ls → μ y1 y2 < μ x1 x2 → W p l e R s m args below meth c H locs cells slots Q (F0 m pc ls rest)) → W p l e R s m args below meth c H locs cells slots Q (F0 m pc ls rest)) : W p l e R s m args below meth c H locs cells slots Q (F0 m pc ls rest) :=
  wd_loop1 (fun (x : A1 × A2) => I x.1 x.2) (fun x => μ x.1 x.2) (a1, a2) h0 (fun x H locs ls hI ih => hs x.1 x.2 H locs ls hI (fun y1 y2 => ih (y1, y2)))
theorem wd_loop3 {A1 A2 A3 : Type} (I : A1 → A2 → A3 → Heap → List Loc → Array Slot → Prop) (μ : A1 → A2 → A3 → Nat) (a1 : A1) (a2 : A2) (a3 : A3) (h0 : I a1 a2 a3 H locs ls)
    (hs : ∀ (x1 : A1) (x2 : A2) (x3 : A3) (H : Heap) (locs : List Loc) (ls : Array Slot), I x1 x2 x3 H locs ls → (∀ (y1 : A1) (y2 : A2) (y3 : A3) (H : Heap) (locs : List Loc) (ls : Array Slot), I y1 y2 y3 H locs ls → μ y1 y2 y3 < μ x1 x2 x3 → W p l e R s m args below meth c H locs cells slots Q (F0 m pc ls rest)) → W p l e R s m args below meth c H locs cells slots Q (F0 m pc ls rest)) : W p l e R s m args below meth c H locs cells slots Q (F0 m pc ls rest) :=
  wd_loop1 (fun (x : A1 × A2 × A3) => I x.1 x.2.1 x.2.2) (fun x => μ x.1 x.2.1 x.2.2) (a1, a2, a3) h0 (fun x H locs ls hI ih => hs x.1 x.2.1 x.2.2 H locs ls hI (fun y1 y2 y3 => ih (y1, y2, y3)))
end WDR
theorem wd_ne {w : Wd} {a b : Nat} {x y : va_E} (ha : w a = some x) (hb : w b = some y) (h : x ≠ y) : a ≠ b := fun e => h (by subst e; exact Option.some.inj (ha.symm.trans hb))
/-- a contract out of a walk -/
def wd_At (p : Program) (y : MethodName) (ws : List Cond) (cc : ByteArray) (maxL : Nat) (ret : Option FieldType) (av : List Value) (s : State) (m : MethodId) (meth : Method) (c : Code) : Prop :=
  p.tables.exec = Jvm.exec ∧ c.code = cc ∧ meth.sig.returnType = ret ∧ c.maxLocals = maxL ∧ s.vm.findClass y.cls = some m.cls ∧ (∀ w ∈ ws, w.before av.toArray s = true) ∧ meth.locks = false ∧ meth.name = y.name
theorem wd_met {l : Launch} {D : va_G} {cl : List vw_C} {KK : State → Prop} {y : MethodName} {ws ws' : List Cond} {rm : Room} {cc : ByteArray} {maxL : Nat} {ret : Option FieldType} {av : List Value} {w : Wd} {sz mc ms : Nat} {Qc : Array Value → State → Outcome → State → Prop} (hy : plainName y.cls = true) (hw : ws = Cond.code y cc maxL ret :: ws') (hlen : (lg_sl av).length ≤ maxL)
    (body : ∀ (p : Program) (e : Env) (s : State) (m : MethodId) (below : List Frame) (meth : Method) (c : Code) (ls : Array Slot), wd_At p y ws cc maxL ret av s m meth c → s.heap.size = sz → KK s → wd_P D cl (wd_A w s.heap.size) w s.heap → lv_has ls maxL (lv_args 0 av) →
      W p l e rm s m av.toArray below meth c s.heap [] 0 0 (MQ below Qc av.toArray s mc ms (wd_A w s.heap.size)) (F0 m 0 ls [])) : Met l y ws rm (wd_C D cl KK av w sz) Qc mc ms (wd_A w sz) := by
  refine Met.ofW (cc := cc) (maxL := maxL) (ret := ret) hy hw ?_
  intro p e s m args below meth c s₁ B hml hv
  obtain ⟨rfl, hsz, hP, hK⟩ := hv
  subst hsz
  rw [lg_entry_eq]
  have hl := lv_entry av (n := maxL) hlen
  refine body p e s m below meth c _ ⟨B.exec, B.bytes, B.returns, hml, findClass_of_methodNamed B.named, atoms_spec (ws := ws) B.pre, B.notSynchronized, (name_of_methodNamed B.named B.method).1⟩ rfl hK ?_ hl
  obtain ⟨L, hL, hP1, hD⟩ := hP
  exact ⟨L, hL, hP1, hD.1, fun k q hk => Or.inl ((hL q.1).mp (by obtain ⟨a, ha, rfl⟩ := List.mem_map.mp (List.mem_of_getElem? hk); exact ha))⟩
end
section
/-! THE CLASS'S METHODS AS FUNCTIONS (mirrors of the code, total; no machine) -/
abbrev j_b (P : Prop) [Decidable P] : Int32 := if P then 1 else 0
theorem j_b0 {P : Prop} [Decidable P] (h : j_b P = 0) : ¬ P := fun hp => by simp [j_b, hp] at h
theorem j_bn {P : Prop} [Decidable P] (h : ¬ j_b P = 0) : P := by
  by_cases hp : P
  · exact hp
  · exact absurd (by simp [j_b, hp]) h
theorem j_b01 (P : Prop) [Decidable P] : j_b P = 0 ∨ j_b P = 1 := by by_cases hp : P <;> simp [j_b, hp]
abbrev j_noText (t : Int32) : Prop := t < 0 ∨ 10 ≤ t
abbrev j_noPoint (p : Int32) : Prop := p < 0 ∨ 1114111 < p
abbrev j_noForm (f : Int32) : Prop := f < 0 ∨ 3 < f
abbrev j_noWay (w : Int32) : Prop := w ≠ 0 ∧ w ≠ 1
abbrev j_high (u : Int32) : Prop := 55296 ≤ u ∧ u < 56320
abbrev j_low (u : Int32) : Prop := 56320 ≤ u ∧ u ≤ 57343
def j_uc (p : Int32) : Int32 := if p < 65536 then 1 else 2
def j_mask (s : Int32) : Int32 := if s = 2 then 255 else 65535
abbrev j_ins (g : Nat → Int32) (len : Nat) (n k : Int32) : Prop := ¬ (k < 1 ∨ n ≤ k ∨ nI len ≤ k) ∧ j_high (g (k - 1).toNatClampNeg) ∧ j_low (g k.toNatClampNeg)
def j_pp (g : Nat → Int32) (len : Nat) (k : Int32) : Int32 := if k < 0 ∨ nI len - 1 ≤ k then 0 else 65536 + (g k.toNatClampNeg - 55296) * 1024 + (g (k + 1).toNatClampNeg - 56320)
abbrev j_beyond (len : Nat) (i n : Int32) : Prop := i < 0 ∨ n < 0 ∨ nI len < i ∨ nI len - i < n
abbrev j_parts (kd : Int32) (g : Nat → Int32) (len : Nat) (k : Int32) : Prop := kd = 0 ∧ j_ins g len (nI len) k
def j_bc (x : Int32) : Int32 := if x < 128 then 1 else if x < 194 ∨ 244 < x then 0 else if x < 224 then 2 else if x < 240 then 3 else 4
def j_fbo (c : Int32) : Int32 := if c = 2 then 192 else if c = 3 then 224 else if c = 4 then 240 else 0
abbrev j_told (p c : Int32) : Prop := if c = 3 then 2048 ≤ p ∧ ¬ j_high p ∧ ¬ j_low p else if c = 4 then 65536 ≤ p ∧ p ≤ 1114111 else True
def j_gr (p : Int32) : Int32 := if (97 ≤ p ∧ p ≤ 122) ∨ (224 ≤ p ∧ p ≤ 254 ∧ p ≠ 247) then p - 32 else if p = 255 then 376 else p
def j_le (p : Int32) : Int32 := if (65 ≤ p ∧ p ≤ 90) ∨ (192 ≤ p ∧ p ≤ 222 ∧ p ≠ 215) then p + 32 else if p = 376 then 255 else p
/-- n steps, the k-th by F k -/
def itN {α : Type} (F : Nat → α → α) : Nat → α → α
  | 0, x => x
  | k + 1, x => F k (itN F k x)
/-- a row: what its array holds, how many of it count -/
abbrev Rw : Type := (Nat → Int32) × Nat
def r_add (n : Nat) (x : Int32) (X : Rw) : Rw := if X.2 < n then (upd X.1 X.2 x, X.2 + 1) else X
def r_nil (X : Rw) : Rw := (X.1, 0)
def r_all (n : Nat) (g : Nat → Int32) (m : Nat) (X : Rw) : Rw := itN (fun k X => r_add n (g k) X) m X
def r_uni (n : Nat) (p : Int32) (X : Rw) : Rw := if p < 65536 then r_add n p X else r_add n (56320 + ((p - 65536) - (p - 65536) / 1024 * 1024)) (r_add n (55296 + (p - 65536) / 1024) X)
def r_pt1 (n : Nat) (g : Nat → Int32) (len : Nat) (m : Int32) (k : Nat) (X : Rw) : Rw := if j_ins g len m (nI k + 1) then r_add n (j_pp g len (nI k)) X else if j_ins g len m (nI k) then X else r_add n (g k) X
def r_pts (n : Nat) (g : Nat → Int32) (len m : Nat) (X : Rw) : Rw := itN (r_pt1 n g len (nI m)) (min m len) X
def r_lp (n : Nat) (kd : Int32) (g : Nat → Int32) (len : Nat) (X : Rw) : Rw := if kd = 0 then r_pts n g len len (r_nil X) else r_all n g len (r_nil X)
def r_lu (n : Nat) (kd : Int32) (g : Nat → Int32) (len : Nat) (X : Rw) : Rw := if kd ≠ 1 then r_all n g len (r_nil X) else itN (fun k X => r_uni n (g k) X) len (r_nil X)
theorem r_add_le {n : Nat} {x : Int32} {X : Rw} (h : X.2 ≤ n) : (r_add n x X).2 ≤ n := by
  unfold r_add
  split
  · simp only; omega
  · exact h
theorem itN_le {n : Nat} {F : Nat → Rw → Rw} (hF : ∀ k X, X.2 ≤ n → (F k X).2 ≤ n) : ∀ (m : Nat) (X : Rw), X.2 ≤ n → (itN F m X).2 ≤ n
  | 0, _, h => h
  | m + 1, X, h => hF m _ (itN_le hF m X h)
theorem r_all_le {n : Nat} {g : Nat → Int32} {m : Nat} {X : Rw} (h : X.2 ≤ n) : (r_all n g m X).2 ≤ n := itN_le (fun _ _ h => r_add_le h) m X h
theorem r_uni_le {n : Nat} {p : Int32} {X : Rw} (h : X.2 ≤ n) : (r_uni n p X).2 ≤ n := by
  unfold r_uni
  split
  · exact r_add_le h
  · exact r_add_le (r_add_le h)
theorem r_pt1_le {n : Nat} {g : Nat → Int32} {len : Nat} {m : Int32} {k : Nat} {X : Rw} (h : X.2 ≤ n) : (r_pt1 n g len m k X).2 ≤ n := by
  unfold r_pt1
  split
  · exact r_add_le h
  · split
    · exact h
    · exact r_add_le h
theorem r_pts_le {n : Nat} {g : Nat → Int32} {len m : Nat} {X : Rw} (h : X.2 ≤ n) : (r_pts n g len m X).2 ≤ n := itN_le (fun _ _ h => r_pt1_le h) _ X h
theorem r_nil_le {n : Nat} {X : Rw} : (r_nil X).2 ≤ n := Nat.zero_le n
theorem r_lp_le {n : Nat} {kd : Int32} {g : Nat → Int32} {len : Nat} {X : Rw} : (r_lp n kd g len X).2 ≤ n := by
  unfold r_lp
  split
  · exact r_pts_le r_nil_le
  · exact r_all_le r_nil_le
theorem r_lu_le {n : Nat} {kd : Int32} {g : Nat → Int32} {len : Nat} {X : Rw} : (r_lu n kd g len X).2 ≤ n := by
  unfold r_lu
  split
  · exact r_all_le r_nil_le
  · exact itN_le (fun _ _ h => r_uni_le h) _ _ r_nil_le
/-- the first k from k0 on, of m, that has P; -1: none -/
def j_srch (P : Nat → Prop) [DecidablePred P] : Nat → Nat → Int32
  | 0, _ => -1
  | m + 1, k => if P k then nI k else j_srch P m (k + 1)
abbrev j_bad (form p : Int32) : Prop := if form = 3 then 255 < p else j_high p ∨ j_low p
def j_fu (X : Rw) (n : Nat) (form : Int32) : Int32 := j_srch (fun k => j_bad form (X.1 k)) (min X.2 n) 0
def r_tu1 (n : Nat) (form x : Int32) (Y : Rw) : Rw := r_add n (if form = 1 then x - x / 256 * 256 else x / 256) (r_add n (if form = 1 then x / 256 else x - x / 256 * 256) Y)
def r_tu (n' n : Nat) (form : Int32) (X Y : Rw) : Rw := itN (fun k Y => r_tu1 n form (X.1 k) Y) (min X.2 n') Y
def r_mb (n : Nat) (p : Int32) (Y : Rw) : Rw :=
  if p < 128 then r_add n p Y
  else if p < 2048 then r_add n (128 + (p - p / 64 * 64)) (r_add n (192 + p / 64) Y)
  else if p < 65536 then r_add n (128 + (p - p / 64 * 64)) (r_add n (128 + (p / 64 - p / 64 / 64 * 64)) (r_add n (224 + p / 4096) Y))
  else r_add n (128 + (p - p / 64 * 64)) (r_add n (128 + (p / 64 - p / 64 / 64 * 64)) (r_add n (128 + (p / 4096 - p / 4096 / 64 * 64)) (r_add n (240 + p / 262144) Y)))
def r_tp (n' n : Nat) (form : Int32) (X Y : Rw) : Rw := itN (fun k Y => if form = 3 then r_add n (X.1 k) Y else r_mb n (X.1 k) Y) (min X.2 n') Y
def j_r2 (n : Nat) (g : Nat → Int32) (len : Nat) (form : Int32) : Nat → Nat → Rw → Int32 × Rw
  | 0, _, X => (-1, X)
  | m + 1, k, X => if k < len ∧ X.2 ≤ 60 then (if k + 1 = len then (nI k, X) else j_r2 n g len form m (k + 2) (r_add n ((if form = 1 then g k else g (k + 1)) * 256 + (if form = 1 then g (k + 1) else g k)) X)) else (-1, X)
def j_pfl (g : Nat → Int32) (len : Nat) (lim : Int32) : Nat → Nat → Int32 → Option Int32
  | 0, _, p => some p
  | q + 1, m, p => if nI m < lim ∧ m < len then (if g m < 128 ∨ 191 < g m then none else j_pfl g len lim q (m + 1) (p * 64 + (g m - 128))) else some p
def j_pf (g : Nat → Int32) (len k : Nat) : Int32 :=
  if len ≤ k then -1 else if j_bc (g k) = 0 ∨ nI len - nI k < j_bc (g k) then -1 else
  match j_pfl g len (nI k + j_bc (g k)) (len - (k + 1)) (k + 1) (g k - j_fbo (j_bc (g k))) with
  | none => -1
  | some p => if j_told p (j_bc (g k)) then p else -1
def j_rm (n : Nat) (g : Nat → Int32) (len : Nat) : Nat → Nat → Int32 → Rw → Int32 × Rw
  | 0, _, _, X => (-1, X)
  | m + 1, k, nx, X => if k < len ∧ X.2 ≤ 60 then (if nx ≤ nI k then (if j_pf g len k = -1 then (nI k, X) else j_rm n g len m (k + 1) (nI k + j_bc (g k)) (r_uni n (j_pf g len k) X)) else j_rm n g len m (k + 1) nx X) else (-1, X)
def j_ru (n : Nat) (g : Nat → Int32) (len : Nat) (form : Int32) (X : Rw) : Int32 × Rw :=
  if form = 0 then j_rm n g len len 0 0 (r_nil X) else if form = 3 then (-1, r_all n g len (r_nil X)) else j_r2 n g len form len 0 (r_nil X)
abbrev j_stands (kd : Int32) (g : Nat → Int32) (len : Nat) (h : Nat → Int32) (pn : Nat) (k : Int32) : Prop :=
  ¬ j_beyond len k (nI pn) ∧ ¬ j_parts kd g len k ∧ ¬ j_parts kd g len (k + nI pn) ∧ ∀ m, m < pn → g (k.toNatClampNeg + m) = h m
def j_cmp (f g : Nat → Int32) : Nat → Nat → Option Int32
  | 0, _ => none
  | m + 1, k => if f k = g k then j_cmp f g m (k + 1) else some (if f k < g k then -1 else 1)
def j_ord (X : Rw) (n : Nat) (Y : Rw) (n' : Nat) : Int32 := match j_cmp X.1 Y.1 (min (min X.2 n) (min Y.2 n')) 0 with
  | some r => r
  | none => if X.2 = Y.2 then 0 else if X.2 < Y.2 then -1 else 1
abbrev j_same (g : Nat → Int32) (n : Nat) (h : Nat → Int32) (n' : Nat) : Prop := n = n' ∧ ∀ k, k < n → g k = h k
end
section
/-! What is known of the tables at every state of a run: classes, the arrays of ints and of Texts, two links across the nest, that an int array may be cloned -/
def gK (D : va_G) (cI cT : ClassId) (s : State) : Prop := va_K D vwCl [(cI, .int), (cT, .object RX1)] s ∧ va_AO RX1 s ∧ va_Nw (.methodLinkNest RX0 26 yX2_isInsidePair RX2) s ∧ va_Nw (.methodLinkNest RX0 30 yX2_pairedPoint RX2) s ∧ va_Nw (.castable "[I" "java/lang/Cloneable") s
theorem gK_ok {D : va_G} {cI cT : ClassId} : wd_Kok (gK D cI cT) :=
  ⟨fun s U h hW => ⟨va_K.moved hW.alike h.1, va_AO.moved hW.alike h.2.1, va_Nw.warmM hW h.2.2.1, va_Nw.warmM hW h.2.2.2.1, va_Nw.warmC hW h.2.2.2.2⟩,
   fun U g mk a h => ⟨va_K.moved (u := U) (U := U.calling g mk a) (Vm.Alike.refl U.vm) h.1, va_AO.moved (u := U) (U := U.calling g mk a) (Vm.Alike.refl U.vm) h.2.1, va_Nw.same (u := U) rfl rfl h.2.2.1, va_Nw.same (u := U) rfl rfl h.2.2.2.1, va_Nw.same (u := U) rfl rfl h.2.2.2.2⟩⟩
/-! A Row of the class: an object and its array of ints -/
abbrev e_row (rI c : Nat) : va_E := .inr (0, [.ref rI, .int (nI c)])
abbrev e_ints (cI : ClassId) (n : Nat) (f : Nat → Int32) : va_E := .inl (cI, n, .inl f)
def rowAt (w : Wd) (r rI : Nat) (cI : ClassId) (n : Nat) (X : Rw) : Prop := w r = some (e_row rI X.2) ∧ w rI = some (e_ints cI n X.1) ∧ X.2 ≤ n ∧ n ≤ 240
def rowSet (w : Wd) (r rI : Nat) (cI : ClassId) (n : Nat) (X : Rw) : Wd := wd_up (wd_up w rI (e_ints cI n X.1)) r (e_row rI X.2)
theorem rowAt.ne {w : Wd} {r rI : Nat} {cI : ClassId} {n : Nat} {X : Rw} (h : rowAt w r rI cI n X) : r ≠ rI := wd_ne h.1 h.2.1 (by intro h9; cases h9)
theorem rowSet_self {w : Wd} {r rI : Nat} {cI : ClassId} {n : Nat} {X : Rw} (h : rowAt w r rI cI n X) : rowSet w r rI cI n X = w := by
  funext q
  by_cases h1 : q = r
  · subst h1; rw [rowSet, wd_up_self, h.1]
  · rw [rowSet, wd_up_ne _ _ h1]
    by_cases h2 : q = rI
    · subst h2; rw [wd_up_self, h.2.1]
    · rw [wd_up_ne _ _ h2]
theorem rowSet_at {w : Wd} {r rI : Nat} {cI : ClassId} {n : Nat} {X : Rw} (h : r ≠ rI) (h1 : X.2 ≤ n) (h2 : n ≤ 240) : rowAt (rowSet w r rI cI n X) r rI cI n X :=
  ⟨wd_up_self _ _ _, by rw [rowSet, wd_up_ne _ _ (Ne.symm h), wd_up_self], h1, h2⟩
theorem rowSet_ne {w : Wd} {r rI q : Nat} {cI : ClassId} {n : Nat} {X : Rw} (h1 : q ≠ r) (h2 : q ≠ rI) : rowSet w r rI cI n X q = w q := by rw [rowSet, wd_up_ne _ _ h1, wd_up_ne _ _ h2]
theorem rowSet_twice {w : Wd} {r rI : Nat} {cI : ClassId} {n : Nat} {X Y : Rw} : rowSet (rowSet w r rI cI n X) r rI cI n Y = rowSet w r rI cI n Y := by
  funext q
  by_cases h1 : q = r
  · subst h1; rw [rowSet, wd_up_self, rowSet, wd_up_self]
  · by_cases h2 : q = rI
    · subst h2
      rw [rowSet, wd_up_ne _ _ h1, wd_up_self, rowSet, wd_up_ne _ _ h1, wd_up_self]
    · rw [rowSet_ne h1 h2, rowSet_ne h1 h2, rowSet_ne h1 h2]
theorem i_le (a b : Int32) : (a ≤ b) = ¬ (b < a) := by
  apply propext
  rw [Int32.le_iff_toInt_le, Int32.lt_iff_toInt_lt]
  omega
theorem i_add {a b : Int32} (h1 : -2147483648 ≤ a.toInt + b.toInt) (h2 : a.toInt + b.toInt < 2147483648) : (a + b).toInt = a.toInt + b.toInt := by
  rw [Int32.toInt_add, Int.bmod_eq_of_le] <;> omega
theorem i_sub {a b : Int32} (h1 : -2147483648 ≤ a.toInt - b.toInt) (h2 : a.toInt - b.toInt < 2147483648) : (a - b).toInt = a.toInt - b.toInt := by
  rw [Int32.toInt_sub, Int.bmod_eq_of_le] <;> omega
theorem i_rg (a : Int32) : -2147483648 ≤ a.toInt ∧ a.toInt < 2147483648 := ⟨Int32.le_toInt a, Int32.toInt_lt a⟩
theorem i_lt (a b : Int32) : (a < b) = (a.toInt < b.toInt) := propext Int32.lt_iff_toInt_lt
theorem i_l0 : (0 : Int32).toInt = 0 := rfl
theorem i_l1 : (1 : Int32).toInt = 1 := rfl
theorem in_k {k : Int32} {len : Nat} (h0 : ¬ k < 0) (h : k < nI len) (hl : len < 2 ^ 31) : vp_in k len := by
  rw [i_lt, i_l0] at h0
  rw [i_lt, nI_toInt hl] at h
  rw [vp_in_iff]
  omega
theorem in_pred {k : Int32} {len : Nat} (h0 : ¬ k < 1) (h : k < nI len) (hl : len < 2 ^ 31) : vp_in (k - 1) len := by
  rw [i_lt, i_l1] at h0
  rw [i_lt, nI_toInt hl] at h
  have := i_rg k
  rw [vp_in_iff, i_sub (by rw [i_l1]; omega) (by rw [i_l1]; omega), i_l1]
  omega
theorem in_k1 {k : Int32} {len : Nat} (h0 : ¬ k < 1) (h : k < nI len) (hl : len < 2 ^ 31) : vp_in k len := in_k (by rw [i_lt, i_l0]; rw [i_lt, i_l1] at h0; omega) h hl
theorem nI_m1 {len : Nat} (hl : len < 2 ^ 31) : (nI len - 1).toInt = (len : Int) - 1 := by
  rw [i_sub (by rw [nI_toInt hl, i_l1]; omega) (by rw [nI_toInt hl, i_l1]; omega), nI_toInt hl, i_l1]
theorem in_m1 {k : Int32} {len : Nat} (h0 : ¬ k < 0) (h : k < nI len - 1) (hl : len < 2 ^ 31) : vp_in k len ∧ vp_in (k + 1) len := by
  rw [i_lt, i_l0] at h0
  rw [i_lt, nI_m1 hl] at h
  have := i_rg k
  rw [vp_in_iff, vp_in_iff, i_add (by rw [i_l1]; omega) (by rw [i_l1]; omega), i_l1]
  omega
end
section
set_option maxHeartbeats 4000000 in
set_option maxRecDepth 100000 in
theorem k_X2_isNoText (l : Launch) (D : va_G) (cI cT : ClassId) (w : Wd) (sz : Nat) (t : Int32) : wd_Mi l D vwCl (gK D cI cT) yX2_isNoText wsX2_isNoText (wd_rm 0 0 0) [.int t] w sz (fun r w' => r = j_b (j_noText t) ∧ w' = w) := by
  refine wd_met (cc := cX2_isNoText) (maxL := 1) (ret := (some .boolean)) (by decide) rfl (Nat.le_of_ble_eq_true rfl) ?_
  intro pg ev sg mi bl mt cd ls C0 hsz hK hW hl
  obtain ⟨hx, hb, hr, hml, hown, hts, hlocks, hnm⟩ := C0
  subst hsz
  have hown : sg.vm.findClass RX2 = some mi.cls := hown
  have hS : va_S (wd_A w sg.heap.size) sg.heap sg.heap [] := va_S.rf
  have hA : ∀ q, sg.heap.size ≤ q → wd_A w sg.heap.size q := fun q h => Or.inr h
  have hl : lv_has ls 1 [(0, .int t)] := hl
  refine lv_iload_n hx hb dX2_isNoText_0 rfl (lv_at hl 0 rfl) ?_
  refine lv_if_lt (tgt := 10) hx hb dX2_isNoText_1 (by decide) (fun c_1 => ?_) (fun c_1 => ?_)
  ·
    refine lv_iconst (v := 1) hx hb dX2_isNoText_10 (by decide) ?_
    refine lv_goto (tgt := 15) hx hb dX2_isNoText_11 (by decide) ?_
    refine wd_zret hx hb hr hlocks (Or.inr rfl) hW hS dX2_isNoText_15 ?_
    exact ⟨by first | (simp [j_b, j_noText, c_1]; done) | (simp only [j_b, j_noText, i_le]; simp [c_1]; done) | (exfalso; simp_all; done) | rfl, rfl⟩
  ·
    refine lv_iload_n hx hb dX2_isNoText_4 rfl (lv_at hl 0 rfl) ?_
    refine lv_bipush (v := 10) hx hb dX2_isNoText_5 (by decide) ?_
    refine lv_icmp_lt (tgt := 14) hx hb dX2_isNoText_7 (by decide) (fun c_7 => ?_) (fun c_7 => ?_)
    ·
      refine lv_iconst (v := 0) hx hb dX2_isNoText_14 (by decide) ?_
      refine wd_zret hx hb hr hlocks (Or.inl rfl) hW hS dX2_isNoText_15 ?_
      exact ⟨by first | (simp [j_b, j_noText, c_1, c_7]; done) | (simp only [j_b, j_noText, i_le]; simp [c_1, c_7]; done) | (exfalso; simp_all; done) | rfl, rfl⟩
    ·
      refine lv_iconst (v := 1) hx hb dX2_isNoText_10 (by decide) ?_
      refine lv_goto (tgt := 15) hx hb dX2_isNoText_11 (by decide) ?_
      refine wd_zret hx hb hr hlocks (Or.inr rfl) hW hS dX2_isNoText_15 ?_
      exact ⟨by first | (simp [j_b, j_noText, c_1, c_7]; done) | (simp only [j_b, j_noText, i_le]; simp [c_1, c_7]; done) | (exfalso; simp_all; done) | rfl, rfl⟩
set_option maxHeartbeats 4000000 in
set_option maxRecDepth 100000 in
theorem k_X2_isNoPoint (l : Launch) (D : va_G) (cI cT : ClassId) (w : Wd) (sz : Nat) (p : Int32) : wd_Mi l D vwCl (gK D cI cT) yX2_isNoPoint wsX2_isNoPoint (wd_rm 0 0 0) [.int p] w sz (fun r w' => r = j_b (j_noPoint p) ∧ w' = w) := by
  refine wd_met (cc := cX2_isNoPoint) (maxL := 1) (ret := (some .boolean)) (by decide) rfl (Nat.le_of_ble_eq_true rfl) ?_
  intro pg ev sg mi bl mt cd ls C0 hsz hK hW hl
  obtain ⟨hx, hb, hr, hml, hown, hts, hlocks, hnm⟩ := C0
  subst hsz
  have hown : sg.vm.findClass RX2 = some mi.cls := hown
  have hS : va_S (wd_A w sg.heap.size) sg.heap sg.heap [] := va_S.rf
  have hA : ∀ q, sg.heap.size ≤ q → wd_A w sg.heap.size q := fun q h => Or.inr h
  have hl : lv_has ls 1 [(0, .int p)] := hl
  refine lv_iload_n hx hb dX2_isNoPoint_0 rfl (lv_at hl 0 rfl) ?_
  refine lv_if_lt (tgt := 10) hx hb dX2_isNoPoint_1 (by decide) (fun c_1 => ?_) (fun c_1 => ?_)
  ·
    refine lv_iconst (v := 1) hx hb dX2_isNoPoint_10 (by decide) ?_
    refine lv_goto (tgt := 15) hx hb dX2_isNoPoint_11 (by decide) ?_
    refine wd_zret hx hb hr hlocks (Or.inr rfl) hW hS dX2_isNoPoint_15 ?_
    exact ⟨by first | (simp [j_b, j_noPoint, c_1]; done) | (simp only [j_b, j_noPoint, i_le]; simp [c_1]; done) | (exfalso; simp_all; done) | rfl, rfl⟩
  ·
    refine lv_iload_n hx hb dX2_isNoPoint_4 rfl (lv_at hl 0 rfl) ?_
    refine lv_ldc (v := 1114111) hx hb hown (hts (.constant RX2 181 1114111) (by decide +kernel)) dX2_isNoPoint_5 ?_
    refine lv_icmp_le (tgt := 14) hx hb dX2_isNoPoint_7 (by decide) (fun c_7 => ?_) (fun c_7 => ?_)
    ·
      simp only [i_le, Decidable.not_not] at c_7
      refine lv_iconst (v := 0) hx hb dX2_isNoPoint_14 (by decide) ?_
      refine wd_zret hx hb hr hlocks (Or.inl rfl) hW hS dX2_isNoPoint_15 ?_
      exact ⟨by first | (simp [j_b, j_noPoint, c_1, c_7]; done) | (simp only [j_b, j_noPoint, i_le]; simp [c_1, c_7]; done) | (exfalso; simp_all; done) | rfl, rfl⟩
    ·
      simp only [i_le, Decidable.not_not] at c_7
      refine lv_iconst (v := 1) hx hb dX2_isNoPoint_10 (by decide) ?_
      refine lv_goto (tgt := 15) hx hb dX2_isNoPoint_11 (by decide) ?_
      refine wd_zret hx hb hr hlocks (Or.inr rfl) hW hS dX2_isNoPoint_15 ?_
      exact ⟨by first | (simp [j_b, j_noPoint, c_1, c_7]; done) | (simp only [j_b, j_noPoint, i_le]; simp [c_1, c_7]; done) | (exfalso; simp_all; done) | rfl, rfl⟩
set_option maxHeartbeats 4000000 in
set_option maxRecDepth 100000 in
theorem k_X2_isNoForm (l : Launch) (D : va_G) (cI cT : ClassId) (w : Wd) (sz : Nat) (f : Int32) : wd_Mi l D vwCl (gK D cI cT) yX2_isNoForm wsX2_isNoForm (wd_rm 0 0 0) [.int f] w sz (fun r w' => r = j_b (j_noForm f) ∧ w' = w) := by
  refine wd_met (cc := cX2_isNoForm) (maxL := 1) (ret := (some .boolean)) (by decide) rfl (Nat.le_of_ble_eq_true rfl) ?_
  intro pg ev sg mi bl mt cd ls C0 hsz hK hW hl
  obtain ⟨hx, hb, hr, hml, hown, hts, hlocks, hnm⟩ := C0
  subst hsz
  have hown : sg.vm.findClass RX2 = some mi.cls := hown
  have hS : va_S (wd_A w sg.heap.size) sg.heap sg.heap [] := va_S.rf
  have hA : ∀ q, sg.heap.size ≤ q → wd_A w sg.heap.size q := fun q h => Or.inr h
  have hl : lv_has ls 1 [(0, .int f)] := hl
  refine lv_iload_n hx hb dX2_isNoForm_0 rfl (lv_at hl 0 rfl) ?_
  refine lv_if_lt (tgt := 9) hx hb dX2_isNoForm_1 (by decide) (fun c_1 => ?_) (fun c_1 => ?_)
  ·
    refine lv_iconst (v := 1) hx hb dX2_isNoForm_9 (by decide) ?_
    refine lv_goto (tgt := 14) hx hb dX2_isNoForm_10 (by decide) ?_
    refine wd_zret hx hb hr hlocks (Or.inr rfl) hW hS dX2_isNoForm_14 ?_
    exact ⟨by first | (simp [j_b, j_noForm, c_1]; done) | (simp only [j_b, j_noForm, i_le]; simp [c_1]; done) | (exfalso; simp_all; done) | rfl, rfl⟩
  ·
    refine lv_iload_n hx hb dX2_isNoForm_4 rfl (lv_at hl 0 rfl) ?_
    refine lv_iconst (v := 3) hx hb dX2_isNoForm_5 (by decide) ?_
    refine lv_icmp_le (tgt := 13) hx hb dX2_isNoForm_6 (by decide) (fun c_6 => ?_) (fun c_6 => ?_)
    ·
      simp only [i_le, Decidable.not_not] at c_6
      refine lv_iconst (v := 0) hx hb dX2_isNoForm_13 (by decide) ?_
      refine wd_zret hx hb hr hlocks (Or.inl rfl) hW hS dX2_isNoForm_14 ?_
      exact ⟨by first | (simp [j_b, j_noForm, c_1, c_6]; done) | (simp only [j_b, j_noForm, i_le]; simp [c_1, c_6]; done) | (exfalso; simp_all; done) | rfl, rfl⟩
    ·
      simp only [i_le, Decidable.not_not] at c_6
      refine lv_iconst (v := 1) hx hb dX2_isNoForm_9 (by decide) ?_
      refine lv_goto (tgt := 14) hx hb dX2_isNoForm_10 (by decide) ?_
      refine wd_zret hx hb hr hlocks (Or.inr rfl) hW hS dX2_isNoForm_14 ?_
      exact ⟨by first | (simp [j_b, j_noForm, c_1, c_6]; done) | (simp only [j_b, j_noForm, i_le]; simp [c_1, c_6]; done) | (exfalso; simp_all; done) | rfl, rfl⟩
set_option maxHeartbeats 4000000 in
set_option maxRecDepth 100000 in
theorem k_X2_isNoWay (l : Launch) (D : va_G) (cI cT : ClassId) (w : Wd) (sz : Nat) (y : Int32) : wd_Mi l D vwCl (gK D cI cT) yX2_isNoWay wsX2_isNoWay (wd_rm 0 0 0) [.int y] w sz (fun r w' => r = j_b (j_noWay y) ∧ w' = w) := by
  refine wd_met (cc := cX2_isNoWay) (maxL := 1) (ret := (some .boolean)) (by decide) rfl (Nat.le_of_ble_eq_true rfl) ?_
  intro pg ev sg mi bl mt cd ls C0 hsz hK hW hl
  obtain ⟨hx, hb, hr, hml, hown, hts, hlocks, hnm⟩ := C0
  subst hsz
  have hown : sg.vm.findClass RX2 = some mi.cls := hown
  have hS : va_S (wd_A w sg.heap.size) sg.heap sg.heap [] := va_S.rf
  have hA : ∀ q, sg.heap.size ≤ q → wd_A w sg.heap.size q := fun q h => Or.inr h
  have hl : lv_has ls 1 [(0, .int y)] := hl
  refine lv_iload_n hx hb dX2_isNoWay_0 rfl (lv_at hl 0 rfl) ?_
  refine lv_if_eq (tgt := 13) hx hb dX2_isNoWay_1 (by decide) (fun c_1 => ?_) (fun c_1 => ?_)
  ·
    refine lv_iconst (v := 0) hx hb dX2_isNoWay_13 (by decide) ?_
    refine wd_zret hx hb hr hlocks (Or.inl rfl) hW hS dX2_isNoWay_14 ?_
    exact ⟨by first | (simp [j_b, j_noWay, c_1]; done) | (simp only [j_b, j_noWay, i_le]; simp [c_1]; done) | (exfalso; simp_all; done) | rfl, rfl⟩
  ·
    refine lv_iload_n hx hb dX2_isNoWay_4 rfl (lv_at hl 0 rfl) ?_
    refine lv_iconst (v := 1) hx hb dX2_isNoWay_5 (by decide) ?_
    refine lv_icmp_eq (tgt := 13) hx hb dX2_isNoWay_6 (by decide) (fun c_6 => ?_) (fun c_6 => ?_)
    ·
      refine lv_iconst (v := 0) hx hb dX2_isNoWay_13 (by decide) ?_
      refine wd_zret hx hb hr hlocks (Or.inl rfl) hW hS dX2_isNoWay_14 ?_
      exact ⟨by first | (simp [j_b, j_noWay, c_1, c_6]; done) | (simp only [j_b, j_noWay, i_le]; simp [c_1, c_6]; done) | (exfalso; simp_all; done) | rfl, rfl⟩
    ·
      refine lv_iconst (v := 1) hx hb dX2_isNoWay_9 (by decide) ?_
      refine lv_goto (tgt := 14) hx hb dX2_isNoWay_10 (by decide) ?_
      refine wd_zret hx hb hr hlocks (Or.inr rfl) hW hS dX2_isNoWay_14 ?_
      exact ⟨by first | (simp [j_b, j_noWay, c_1, c_6]; done) | (simp only [j_b, j_noWay, i_le]; simp [c_1, c_6]; done) | (exfalso; simp_all; done) | rfl, rfl⟩
set_option maxHeartbeats 4000000 in
set_option maxRecDepth 100000 in
theorem k_X2_isHigh (l : Launch) (D : va_G) (cI cT : ClassId) (w : Wd) (sz : Nat) (u : Int32) : wd_Mi l D vwCl (gK D cI cT) yX2_isHigh wsX2_isHigh (wd_rm 0 0 0) [.int u] w sz (fun r w' => r = j_b (j_high u) ∧ w' = w) := by
  refine wd_met (cc := cX2_isHigh) (maxL := 1) (ret := (some .boolean)) (by decide) rfl (Nat.le_of_ble_eq_true rfl) ?_
  intro pg ev sg mi bl mt cd ls C0 hsz hK hW hl
  obtain ⟨hx, hb, hr, hml, hown, hts, hlocks, hnm⟩ := C0
  subst hsz
  have hown : sg.vm.findClass RX2 = some mi.cls := hown
  have hS : va_S (wd_A w sg.heap.size) sg.heap sg.heap [] := va_S.rf
  have hA : ∀ q, sg.heap.size ≤ q → wd_A w sg.heap.size q := fun q h => Or.inr h
  have hl : lv_has ls 1 [(0, .int u)] := hl
  refine lv_iload_n hx hb dX2_isHigh_0 rfl (lv_at hl 0 rfl) ?_
  refine lv_ldc (v := 55296) hx hb hown (hts (.constant RX2 182 55296) (by decide +kernel)) dX2_isHigh_1 ?_
  refine lv_icmp_lt (tgt := 16) hx hb dX2_isHigh_3 (by decide) (fun c_3 => ?_) (fun c_3 => ?_)
  ·
    refine lv_iconst (v := 0) hx hb dX2_isHigh_16 (by decide) ?_
    refine wd_zret hx hb hr hlocks (Or.inl rfl) hW hS dX2_isHigh_17 ?_
    exact ⟨by first | (simp [j_b, j_high, c_3]; done) | (simp only [j_b, j_high, i_le]; simp [c_3]; done) | (exfalso; simp_all; done) | rfl, rfl⟩
  ·
    refine lv_iload_n hx hb dX2_isHigh_6 rfl (lv_at hl 0 rfl) ?_
    refine lv_ldc (v := 56320) hx hb hown (hts (.constant RX2 183 56320) (by decide +kernel)) dX2_isHigh_7 ?_
    refine lv_icmp_ge (tgt := 16) hx hb dX2_isHigh_9 (by decide) (fun c_9 => ?_) (fun c_9 => ?_)
    ·
      simp only [i_le, Decidable.not_not] at c_9
      refine lv_iconst (v := 0) hx hb dX2_isHigh_16 (by decide) ?_
      refine wd_zret hx hb hr hlocks (Or.inl rfl) hW hS dX2_isHigh_17 ?_
      exact ⟨by first | (simp [j_b, j_high, c_3, c_9]; done) | (simp only [j_b, j_high, i_le]; simp [c_3, c_9]; done) | (exfalso; simp_all; done) | rfl, rfl⟩
    ·
      simp only [i_le, Decidable.not_not] at c_9
      refine lv_iconst (v := 1) hx hb dX2_isHigh_12 (by decide) ?_
      refine lv_goto (tgt := 17) hx hb dX2_isHigh_13 (by decide) ?_
      refine wd_zret hx hb hr hlocks (Or.inr rfl) hW hS dX2_isHigh_17 ?_
      exact ⟨by first | (simp [j_b, j_high, c_3, c_9]; done) | (simp only [j_b, j_high, i_le]; simp [c_3, c_9]; done) | (exfalso; simp_all; done) | rfl, rfl⟩
set_option maxHeartbeats 4000000 in
set_option maxRecDepth 100000 in
theorem k_X2_isLow (l : Launch) (D : va_G) (cI cT : ClassId) (w : Wd) (sz : Nat) (u : Int32) : wd_Mi l D vwCl (gK D cI cT) yX2_isLow wsX2_isLow (wd_rm 0 0 0) [.int u] w sz (fun r w' => r = j_b (j_low u) ∧ w' = w) := by
  refine wd_met (cc := cX2_isLow) (maxL := 1) (ret := (some .boolean)) (by decide) rfl (Nat.le_of_ble_eq_true rfl) ?_
  intro pg ev sg mi bl mt cd ls C0 hsz hK hW hl
  obtain ⟨hx, hb, hr, hml, hown, hts, hlocks, hnm⟩ := C0
  subst hsz
  have hown : sg.vm.findClass RX2 = some mi.cls := hown
  have hS : va_S (wd_A w sg.heap.size) sg.heap sg.heap [] := va_S.rf
  have hA : ∀ q, sg.heap.size ≤ q → wd_A w sg.heap.size q := fun q h => Or.inr h
  have hl : lv_has ls 1 [(0, .int u)] := hl
  refine lv_iload_n hx hb dX2_isLow_0 rfl (lv_at hl 0 rfl) ?_
  refine lv_ldc (v := 56320) hx hb hown (hts (.constant RX2 183 56320) (by decide +kernel)) dX2_isLow_1 ?_
  refine lv_icmp_lt (tgt := 16) hx hb dX2_isLow_3 (by decide) (fun c_3 => ?_) (fun c_3 => ?_)
  ·
    refine lv_iconst (v := 0) hx hb dX2_isLow_16 (by decide) ?_
    refine wd_zret hx hb hr hlocks (Or.inl rfl) hW hS dX2_isLow_17 ?_
    exact ⟨by first | (simp [j_b, j_low, c_3]; done) | (simp only [j_b, j_low, i_le]; simp [c_3]; done) | (exfalso; simp_all; done) | rfl, rfl⟩
  ·
    refine lv_iload_n hx hb dX2_isLow_6 rfl (lv_at hl 0 rfl) ?_
    refine lv_ldc (v := 57343) hx hb hown (hts (.constant RX2 184 57343) (by decide +kernel)) dX2_isLow_7 ?_
    refine lv_icmp_gt (tgt := 16) hx hb dX2_isLow_9 (by decide) (fun c_9 => ?_) (fun c_9 => ?_)
    ·
      refine lv_iconst (v := 0) hx hb dX2_isLow_16 (by decide) ?_
      refine wd_zret hx hb hr hlocks (Or.inl rfl) hW hS dX2_isLow_17 ?_
      exact ⟨by first | (simp [j_b, j_low, c_3, c_9]; done) | (simp only [j_b, j_low, i_le]; simp [c_3, c_9]; done) | (exfalso; simp_all; done) | rfl, rfl⟩
    ·
      refine lv_iconst (v := 1) hx hb dX2_isLow_12 (by decide) ?_
      refine lv_goto (tgt := 17) hx hb dX2_isLow_13 (by decide) ?_
      refine wd_zret hx hb hr hlocks (Or.inr rfl) hW hS dX2_isLow_17 ?_
      exact ⟨by first | (simp [j_b, j_low, c_3, c_9]; done) | (simp only [j_b, j_low, i_le]; simp [c_3, c_9]; done) | (exfalso; simp_all; done) | rfl, rfl⟩
set_option maxHeartbeats 4000000 in
set_option maxRecDepth 100000 in
theorem k_X2_unitCount (l : Launch) (D : va_G) (cI cT : ClassId) (w : Wd) (sz : Nat) (p : Int32) : wd_Mi l D vwCl (gK D cI cT) yX2_unitCount wsX2_unitCount (wd_rm 0 0 0) [.int p] w sz (fun r w' => r = j_uc p ∧ w' = w) := by
  refine wd_met (cc := cX2_unitCount) (maxL := 1) (ret := (some .int)) (by decide) rfl (Nat.le_of_ble_eq_true rfl) ?_
  intro pg ev sg mi bl mt cd ls C0 hsz hK hW hl
  obtain ⟨hx, hb, hr, hml, hown, hts, hlocks, hnm⟩ := C0
  subst hsz
  have hown : sg.vm.findClass RX2 = some mi.cls := hown
  have hS : va_S (wd_A w sg.heap.size) sg.heap sg.heap [] := va_S.rf
  have hA : ∀ q, sg.heap.size ≤ q → wd_A w sg.heap.size q := fun q h => Or.inr h
  have hl : lv_has ls 1 [(0, .int p)] := hl
  refine lv_iload_n hx hb dX2_unitCount_0 rfl (lv_at hl 0 rfl) ?_
  refine lv_ldc (v := 65536) hx hb hown (hts (.constant RX2 173 65536) (by decide +kernel)) dX2_unitCount_1 ?_
  refine lv_icmp_ge (tgt := 10) hx hb dX2_unitCount_3 (by decide) (fun c_3 => ?_) (fun c_3 => ?_)
  ·
    simp only [i_le, Decidable.not_not] at c_3
    refine lv_iconst (v := 2) hx hb dX2_unitCount_10 (by decide) ?_
    refine wd_iret hx hb hr hlocks hW hS dX2_unitCount_11 ?_
    exact ⟨by first | (simp [j_uc, c_3]; done) | (simp only [j_uc, i_le]; simp [c_3]; done) | (exfalso; simp_all; done) | rfl, rfl⟩
  ·
    simp only [i_le, Decidable.not_not] at c_3
    refine lv_iconst (v := 1) hx hb dX2_unitCount_6 (by decide) ?_
    refine lv_goto (tgt := 11) hx hb dX2_unitCount_7 (by decide) ?_
    refine wd_iret hx hb hr hlocks hW hS dX2_unitCount_11 ?_
    exact ⟨by first | (simp [j_uc, c_3]; done) | (simp only [j_uc, i_le]; simp [c_3]; done) | (exfalso; simp_all; done) | rfl, rfl⟩
set_option maxHeartbeats 4000000 in
set_option maxRecDepth 100000 in
theorem k_X2_maskOf (l : Launch) (D : va_G) (cI cT : ClassId) (w : Wd) (sz : Nat) (k : Int32) : wd_Mi l D vwCl (gK D cI cT) yX2_maskOf wsX2_maskOf (wd_rm 0 0 0) [.int k] w sz (fun r w' => r = j_mask k ∧ w' = w) := by
  refine wd_met (cc := cX2_maskOf) (maxL := 1) (ret := (some .int)) (by decide) rfl (Nat.le_of_ble_eq_true rfl) ?_
  intro pg ev sg mi bl mt cd ls C0 hsz hK hW hl
  obtain ⟨hx, hb, hr, hml, hown, hts, hlocks, hnm⟩ := C0
  subst hsz
  have hown : sg.vm.findClass RX2 = some mi.cls := hown
  have hS : va_S (wd_A w sg.heap.size) sg.heap sg.heap [] := va_S.rf
  have hA : ∀ q, sg.heap.size ≤ q → wd_A w sg.heap.size q := fun q h => Or.inr h
  have hl : lv_has ls 1 [(0, .int k)] := hl
  refine lv_iload_n hx hb dX2_maskOf_0 rfl (lv_at hl 0 rfl) ?_
  refine lv_iconst (v := 2) hx hb dX2_maskOf_1 (by decide) ?_
  refine lv_icmp_ne (tgt := 11) hx hb dX2_maskOf_2 (by decide) (fun c_2 => ?_) (fun c_2 => ?_)
  ·
    refine lv_ldc (v := 65535) hx hb hown (hts (.constant RX2 64 65535) (by decide +kernel)) dX2_maskOf_11 ?_
    refine wd_iret hx hb hr hlocks hW hS dX2_maskOf_13 ?_
    exact ⟨by first | (simp [j_mask, c_2]; done) | (simp only [j_mask, i_le]; simp [c_2]; done) | (exfalso; simp_all; done) | rfl, rfl⟩
  ·
    refine lv_sipush (v := 255) hx hb dX2_maskOf_5 (by decide) ?_
    refine lv_goto (tgt := 13) hx hb dX2_maskOf_8 (by decide) ?_
    refine wd_iret hx hb hr hlocks hW hS dX2_maskOf_13 ?_
    exact ⟨by first | (simp [j_mask, c_2]; done) | (simp only [j_mask, i_le]; simp [c_2]; done) | (exfalso; simp_all; done) | rfl, rfl⟩
set_option maxHeartbeats 4000000 in
set_option maxRecDepth 100000 in
theorem k_X2_byteCount (l : Launch) (D : va_G) (cI cT : ClassId) (w : Wd) (sz : Nat) (x : Int32) : wd_Mi l D vwCl (gK D cI cT) yX2_byteCount wsX2_byteCount (wd_rm 0 0 0) [.int x] w sz (fun r w' => r = j_bc x ∧ w' = w) := by
  refine wd_met (cc := cX2_byteCount) (maxL := 1) (ret := (some .int)) (by decide) rfl (Nat.le_of_ble_eq_true rfl) ?_
  intro pg ev sg mi bl mt cd ls C0 hsz hK hW hl
  obtain ⟨hx, hb, hr, hml, hown, hts, hlocks, hnm⟩ := C0
  subst hsz
  have hown : sg.vm.findClass RX2 = some mi.cls := hown
  have hS : va_S (wd_A w sg.heap.size) sg.heap sg.heap [] := va_S.rf
  have hA : ∀ q, sg.heap.size ≤ q → wd_A w sg.heap.size q := fun q h => Or.inr h
  have hl : lv_has ls 1 [(0, .int x)] := hl
  refine lv_iload_n hx hb dX2_byteCount_0 rfl (lv_at hl 0 rfl) ?_
  refine lv_sipush (v := 128) hx hb dX2_byteCount_1 (by decide) ?_
  refine lv_icmp_ge (tgt := 9) hx hb dX2_byteCount_4 (by decide) (fun c_4 => ?_) (fun c_4 => ?_)
  ·
    simp only [i_le, Decidable.not_not] at c_4
    refine lv_iload_n hx hb dX2_byteCount_9 rfl (lv_at hl 0 rfl) ?_
    refine lv_sipush (v := 194) hx hb dX2_byteCount_10 (by decide) ?_
    refine lv_icmp_lt (tgt := 23) hx hb dX2_byteCount_13 (by decide) (fun c_13 => ?_) (fun c_13 => ?_)
    ·
      refine lv_iconst (v := 0) hx hb dX2_byteCount_23 (by decide) ?_
      refine wd_iret hx hb hr hlocks hW hS dX2_byteCount_24 ?_
      exact ⟨by first | (simp [j_bc, c_4, c_13]; done) | (simp only [j_bc, i_le]; simp [c_4, c_13]; done) | (exfalso; simp_all; done) | rfl, rfl⟩
    ·
      refine lv_iload_n hx hb dX2_byteCount_16 rfl (lv_at hl 0 rfl) ?_
      refine lv_sipush (v := 244) hx hb dX2_byteCount_17 (by decide) ?_
      refine lv_icmp_le (tgt := 25) hx hb dX2_byteCount_20 (by decide) (fun c_20 => ?_) (fun c_20 => ?_)
      ·
        simp only [i_le, Decidable.not_not] at c_20
        refine lv_iload_n hx hb dX2_byteCount_25 rfl (lv_at hl 0 rfl) ?_
        refine lv_sipush (v := 224) hx hb dX2_byteCount_26 (by decide) ?_
        refine lv_icmp_ge (tgt := 34) hx hb dX2_byteCount_29 (by decide) (fun c_29 => ?_) (fun c_29 => ?_)
        ·
          simp only [i_le, Decidable.not_not] at c_29
          refine lv_iload_n hx hb dX2_byteCount_34 rfl (lv_at hl 0 rfl) ?_
          refine lv_sipush (v := 240) hx hb dX2_byteCount_35 (by decide) ?_
          refine lv_icmp_ge (tgt := 45) hx hb dX2_byteCount_38 (by decide) (fun c_38 => ?_) (fun c_38 => ?_)
          ·
            simp only [i_le, Decidable.not_not] at c_38
            refine lv_iconst (v := 4) hx hb dX2_byteCount_45 (by decide) ?_
            refine wd_iret hx hb hr hlocks hW hS dX2_byteCount_46 ?_
            exact ⟨by first | (simp [j_bc, c_4, c_13, c_20, c_29, c_38]; done) | (simp only [j_bc, i_le]; simp [c_4, c_13, c_20, c_29, c_38]; done) | (exfalso; simp_all; done) | rfl, rfl⟩
          ·
            simp only [i_le, Decidable.not_not] at c_38
            refine lv_iconst (v := 3) hx hb dX2_byteCount_41 (by decide) ?_
            refine lv_goto (tgt := 46) hx hb dX2_byteCount_42 (by decide) ?_
            refine wd_iret hx hb hr hlocks hW hS dX2_byteCount_46 ?_
            exact ⟨by first | (simp [j_bc, c_4, c_13, c_20, c_29, c_38]; done) | (simp only [j_bc, i_le]; simp [c_4, c_13, c_20, c_29, c_38]; done) | (exfalso; simp_all; done) | rfl, rfl⟩
        ·
          simp only [i_le, Decidable.not_not] at c_29
          refine lv_iconst (v := 2) hx hb dX2_byteCount_32 (by decide) ?_
          refine wd_iret hx hb hr hlocks hW hS dX2_byteCount_33 ?_
          exact ⟨by first | (simp [j_bc, c_4, c_13, c_20, c_29]; done) | (simp only [j_bc, i_le]; simp [c_4, c_13, c_20, c_29]; done) | (exfalso; simp_all; done) | rfl, rfl⟩
      ·
        simp only [i_le, Decidable.not_not] at c_20
        refine lv_iconst (v := 0) hx hb dX2_byteCount_23 (by decide) ?_
        refine wd_iret hx hb hr hlocks hW hS dX2_byteCount_24 ?_
        exact ⟨by first | (simp [j_bc, c_4, c_13, c_20]; done) | (simp only [j_bc, i_le]; simp [c_4, c_13, c_20]; done) | (exfalso; simp_all; done) | rfl, rfl⟩
  ·
    simp only [i_le, Decidable.not_not] at c_4
    refine lv_iconst (v := 1) hx hb dX2_byteCount_7 (by decide) ?_
    refine wd_iret hx hb hr hlocks hW hS dX2_byteCount_8 ?_
    exact ⟨by first | (simp [j_bc, c_4]; done) | (simp only [j_bc, i_le]; simp [c_4]; done) | (exfalso; simp_all; done) | rfl, rfl⟩
set_option maxHeartbeats 4000000 in
set_option maxRecDepth 100000 in
theorem k_X2_greater (l : Launch) (D : va_G) (cI cT : ClassId) (w : Wd) (sz : Nat) (p : Int32) : wd_Mi l D vwCl (gK D cI cT) yX2_greater wsX2_greater (wd_rm 0 0 0) [.int p] w sz (fun r w' => r = j_gr p ∧ w' = w) := by
  refine wd_met (cc := cX2_greater) (maxL := 1) (ret := (some .int)) (by decide) rfl (Nat.le_of_ble_eq_true rfl) ?_
  intro pg ev sg mi bl mt cd ls C0 hsz hK hW hl
  obtain ⟨hx, hb, hr, hml, hown, hts, hlocks, hnm⟩ := C0
  subst hsz
  have hown : sg.vm.findClass RX2 = some mi.cls := hown
  have hS : va_S (wd_A w sg.heap.size) sg.heap sg.heap [] := va_S.rf
  have hA : ∀ q, sg.heap.size ≤ q → wd_A w sg.heap.size q := fun q h => Or.inr h
  have hl : lv_has ls 1 [(0, .int p)] := hl
  refine lv_iload_n hx hb dX2_greater_0 rfl (lv_at hl 0 rfl) ?_
  refine lv_bipush (v := 97) hx hb dX2_greater_1 (by decide) ?_
  refine lv_icmp_lt (tgt := 12) hx hb dX2_greater_3 (by decide) (fun c_3 => ?_) (fun c_3 => ?_)
  ·
    refine lv_iload_n hx hb dX2_greater_12 rfl (lv_at hl 0 rfl) ?_
    refine lv_sipush (v := 224) hx hb dX2_greater_13 (by decide) ?_
    refine lv_icmp_lt (tgt := 38) hx hb dX2_greater_16 (by decide) (fun c_16 => ?_) (fun c_16 => ?_)
    ·
      refine lv_iload_n hx hb dX2_greater_38 rfl (lv_at hl 0 rfl) ?_
      refine lv_sipush (v := 255) hx hb dX2_greater_39 (by decide) ?_
      refine lv_icmp_ne (tgt := 51) hx hb dX2_greater_42 (by decide) (fun c_42 => ?_) (fun c_42 => ?_)
      ·
        refine lv_iload_n hx hb dX2_greater_51 rfl (lv_at hl 0 rfl) ?_
        refine wd_iret hx hb hr hlocks hW hS dX2_greater_52 ?_
        exact ⟨by first | (simp [j_gr, c_3, c_16, c_42]; done) | (simp only [j_gr, i_le]; simp [c_3, c_16, c_42]; done) | (exfalso; simp_all; done) | rfl, rfl⟩
      ·
        refine lv_sipush (v := 376) hx hb dX2_greater_45 (by decide) ?_
        refine lv_goto (tgt := 52) hx hb dX2_greater_48 (by decide) ?_
        refine wd_iret hx hb hr hlocks hW hS dX2_greater_52 ?_
        exact ⟨by first | (simp [j_gr, c_3, c_16, c_42]; done) | (simp only [j_gr, i_le]; simp [c_3, c_16, c_42]; done) | (exfalso; simp_all; done) | rfl, rfl⟩
    ·
      refine lv_iload_n hx hb dX2_greater_19 rfl (lv_at hl 0 rfl) ?_
      refine lv_sipush (v := 254) hx hb dX2_greater_20 (by decide) ?_
      refine lv_icmp_gt (tgt := 38) hx hb dX2_greater_23 (by decide) (fun c_23 => ?_) (fun c_23 => ?_)
      ·
        refine lv_iload_n hx hb dX2_greater_38 rfl (lv_at hl 0 rfl) ?_
        refine lv_sipush (v := 255) hx hb dX2_greater_39 (by decide) ?_
        refine lv_icmp_ne (tgt := 51) hx hb dX2_greater_42 (by decide) (fun c_42 => ?_) (fun c_42 => ?_)
        ·
          refine lv_iload_n hx hb dX2_greater_51 rfl (lv_at hl 0 rfl) ?_
          refine wd_iret hx hb hr hlocks hW hS dX2_greater_52 ?_
          exact ⟨by first | (simp [j_gr, c_3, c_16, c_23, c_42]; done) | (simp only [j_gr, i_le]; simp [c_3, c_16, c_23, c_42]; done) | (exfalso; simp_all; done) | rfl, rfl⟩
        ·
          refine lv_sipush (v := 376) hx hb dX2_greater_45 (by decide) ?_
          refine lv_goto (tgt := 52) hx hb dX2_greater_48 (by decide) ?_
          refine wd_iret hx hb hr hlocks hW hS dX2_greater_52 ?_
          exact ⟨by first | (simp [j_gr, c_3, c_16, c_23, c_42]; done) | (simp only [j_gr, i_le]; simp [c_3, c_16, c_23, c_42]; done) | (exfalso; simp_all; done) | rfl, rfl⟩
      ·
        refine lv_iload_n hx hb dX2_greater_26 rfl (lv_at hl 0 rfl) ?_
        refine lv_sipush (v := 247) hx hb dX2_greater_27 (by decide) ?_
        refine lv_icmp_eq (tgt := 38) hx hb dX2_greater_30 (by decide) (fun c_30 => ?_) (fun c_30 => ?_)
        ·
          refine lv_iload_n hx hb dX2_greater_38 rfl (lv_at hl 0 rfl) ?_
          refine lv_sipush (v := 255) hx hb dX2_greater_39 (by decide) ?_
          refine lv_icmp_ne (tgt := 51) hx hb dX2_greater_42 (by decide) (fun c_42 => ?_) (fun c_42 => ?_)
          ·
            refine lv_iload_n hx hb dX2_greater_51 rfl (lv_at hl 0 rfl) ?_
            refine wd_iret hx hb hr hlocks hW hS dX2_greater_52 ?_
            exact ⟨by first | (simp [j_gr, c_3, c_16, c_23, c_30, c_42]; done) | (simp only [j_gr, i_le]; simp [c_3, c_16, c_23, c_30, c_42]; done) | (exfalso; simp_all; done) | rfl, rfl⟩
          ·
            refine lv_sipush (v := 376) hx hb dX2_greater_45 (by decide) ?_
            refine lv_goto (tgt := 52) hx hb dX2_greater_48 (by decide) ?_
            refine wd_iret hx hb hr hlocks hW hS dX2_greater_52 ?_
            exact ⟨by first | (simp [j_gr, c_3, c_16, c_23, c_30, c_42]; done) | (simp only [j_gr, i_le]; simp [c_3, c_16, c_23, c_30, c_42]; done) | (exfalso; simp_all; done) | rfl, rfl⟩
        ·
          refine lv_iload_n hx hb dX2_greater_33 rfl (lv_at hl 0 rfl) ?_
          refine lv_bipush (v := 32) hx hb dX2_greater_34 (by decide) ?_
          refine lv_isub hx hb dX2_greater_36 ?_
          refine wd_iret hx hb hr hlocks hW hS dX2_greater_37 ?_
          exact ⟨by first | (simp [j_gr, c_3, c_16, c_23, c_30]; done) | (simp only [j_gr, i_le]; simp [c_3, c_16, c_23, c_30]; done) | (exfalso; simp_all; done) | rfl, rfl⟩
  ·
    refine lv_iload_n hx hb dX2_greater_6 rfl (lv_at hl 0 rfl) ?_
    refine lv_bipush (v := 122) hx hb dX2_greater_7 (by decide) ?_
    refine lv_icmp_le (tgt := 33) hx hb dX2_greater_9 (by decide) (fun c_9 => ?_) (fun c_9 => ?_)
    ·
      simp only [i_le, Decidable.not_not] at c_9
      refine lv_iload_n hx hb dX2_greater_33 rfl (lv_at hl 0 rfl) ?_
      refine lv_bipush (v := 32) hx hb dX2_greater_34 (by decide) ?_
      refine lv_isub hx hb dX2_greater_36 ?_
      refine wd_iret hx hb hr hlocks hW hS dX2_greater_37 ?_
      exact ⟨by first | (simp [j_gr, c_3, c_9]; done) | (simp only [j_gr, i_le]; simp [c_3, c_9]; done) | (exfalso; simp_all; done) | rfl, rfl⟩
    ·
      simp only [i_le, Decidable.not_not] at c_9
      refine lv_iload_n hx hb dX2_greater_12 rfl (lv_at hl 0 rfl) ?_
      refine lv_sipush (v := 224) hx hb dX2_greater_13 (by decide) ?_
      refine lv_icmp_lt (tgt := 38) hx hb dX2_greater_16 (by decide) (fun c_16 => ?_) (fun c_16 => ?_)
      ·
        refine lv_iload_n hx hb dX2_greater_38 rfl (lv_at hl 0 rfl) ?_
        refine lv_sipush (v := 255) hx hb dX2_greater_39 (by decide) ?_
        refine lv_icmp_ne (tgt := 51) hx hb dX2_greater_42 (by decide) (fun c_42 => ?_) (fun c_42 => ?_)
        ·
          refine lv_iload_n hx hb dX2_greater_51 rfl (lv_at hl 0 rfl) ?_
          refine wd_iret hx hb hr hlocks hW hS dX2_greater_52 ?_
          exact ⟨by first | (simp [j_gr, c_3, c_9, c_16, c_42]; done) | (simp only [j_gr, i_le]; simp [c_3, c_9, c_16, c_42]; done) | (exfalso; simp_all; done) | rfl, rfl⟩
        ·
          refine lv_sipush (v := 376) hx hb dX2_greater_45 (by decide) ?_
          refine lv_goto (tgt := 52) hx hb dX2_greater_48 (by decide) ?_
          refine wd_iret hx hb hr hlocks hW hS dX2_greater_52 ?_
          exact ⟨by first | (simp [j_gr, c_3, c_9, c_16, c_42]; done) | (simp only [j_gr, i_le]; simp [c_3, c_9, c_16, c_42]; done) | (exfalso; simp_all; done) | rfl, rfl⟩
      ·
        refine lv_iload_n hx hb dX2_greater_19 rfl (lv_at hl 0 rfl) ?_
        refine lv_sipush (v := 254) hx hb dX2_greater_20 (by decide) ?_
        refine lv_icmp_gt (tgt := 38) hx hb dX2_greater_23 (by decide) (fun c_23 => ?_) (fun c_23 => ?_)
        ·
          refine lv_iload_n hx hb dX2_greater_38 rfl (lv_at hl 0 rfl) ?_
          refine lv_sipush (v := 255) hx hb dX2_greater_39 (by decide) ?_
          refine lv_icmp_ne (tgt := 51) hx hb dX2_greater_42 (by decide) (fun c_42 => ?_) (fun c_42 => ?_)
          ·
            refine lv_iload_n hx hb dX2_greater_51 rfl (lv_at hl 0 rfl) ?_
            refine wd_iret hx hb hr hlocks hW hS dX2_greater_52 ?_
            exact ⟨by first | (simp [j_gr, c_3, c_9, c_16, c_23, c_42]; done) | (simp only [j_gr, i_le]; simp [c_3, c_9, c_16, c_23, c_42]; done) | (exfalso; simp_all; done) | rfl, rfl⟩
          ·
            refine lv_sipush (v := 376) hx hb dX2_greater_45 (by decide) ?_
            refine lv_goto (tgt := 52) hx hb dX2_greater_48 (by decide) ?_
            refine wd_iret hx hb hr hlocks hW hS dX2_greater_52 ?_
            exact ⟨by first | (simp [j_gr, c_3, c_9, c_16, c_23, c_42]; done) | (simp only [j_gr, i_le]; simp [c_3, c_9, c_16, c_23, c_42]; done) | (exfalso; simp_all; done) | rfl, rfl⟩
        ·
          refine lv_iload_n hx hb dX2_greater_26 rfl (lv_at hl 0 rfl) ?_
          refine lv_sipush (v := 247) hx hb dX2_greater_27 (by decide) ?_
          refine lv_icmp_eq (tgt := 38) hx hb dX2_greater_30 (by decide) (fun c_30 => ?_) (fun c_30 => ?_)
          ·
            refine lv_iload_n hx hb dX2_greater_38 rfl (lv_at hl 0 rfl) ?_
            refine lv_sipush (v := 255) hx hb dX2_greater_39 (by decide) ?_
            refine lv_icmp_ne (tgt := 51) hx hb dX2_greater_42 (by decide) (fun c_42 => ?_) (fun c_42 => ?_)
            ·
              refine lv_iload_n hx hb dX2_greater_51 rfl (lv_at hl 0 rfl) ?_
              refine wd_iret hx hb hr hlocks hW hS dX2_greater_52 ?_
              exact ⟨by first | (simp [j_gr, c_3, c_9, c_16, c_23, c_30, c_42]; done) | (simp only [j_gr, i_le]; simp [c_3, c_9, c_16, c_23, c_30, c_42]; done) | (exfalso; simp_all; done) | rfl, rfl⟩
            ·
              refine lv_sipush (v := 376) hx hb dX2_greater_45 (by decide) ?_
              refine lv_goto (tgt := 52) hx hb dX2_greater_48 (by decide) ?_
              refine wd_iret hx hb hr hlocks hW hS dX2_greater_52 ?_
              exact ⟨by first | (simp [j_gr, c_3, c_9, c_16, c_23, c_30, c_42]; done) | (simp only [j_gr, i_le]; simp [c_3, c_9, c_16, c_23, c_30, c_42]; done) | (exfalso; simp_all; done) | rfl, rfl⟩
          ·
            refine lv_iload_n hx hb dX2_greater_33 rfl (lv_at hl 0 rfl) ?_
            refine lv_bipush (v := 32) hx hb dX2_greater_34 (by decide) ?_
            refine lv_isub hx hb dX2_greater_36 ?_
            refine wd_iret hx hb hr hlocks hW hS dX2_greater_37 ?_
            exact ⟨by first | (simp [j_gr, c_3, c_9, c_16, c_23, c_30]; done) | (simp only [j_gr, i_le]; simp [c_3, c_9, c_16, c_23, c_30]; done) | (exfalso; simp_all; done) | rfl, rfl⟩
set_option maxHeartbeats 4000000 in
set_option maxRecDepth 100000 in
theorem k_X2_lesser (l : Launch) (D : va_G) (cI cT : ClassId) (w : Wd) (sz : Nat) (p : Int32) : wd_Mi l D vwCl (gK D cI cT) yX2_lesser wsX2_lesser (wd_rm 0 0 0) [.int p] w sz (fun r w' => r = j_le p ∧ w' = w) := by
  refine wd_met (cc := cX2_lesser) (maxL := 1) (ret := (some .int)) (by decide) rfl (Nat.le_of_ble_eq_true rfl) ?_
  intro pg ev sg mi bl mt cd ls C0 hsz hK hW hl
  obtain ⟨hx, hb, hr, hml, hown, hts, hlocks, hnm⟩ := C0
  subst hsz
  have hown : sg.vm.findClass RX2 = some mi.cls := hown
  have hS : va_S (wd_A w sg.heap.size) sg.heap sg.heap [] := va_S.rf
  have hA : ∀ q, sg.heap.size ≤ q → wd_A w sg.heap.size q := fun q h => Or.inr h
  have hl : lv_has ls 1 [(0, .int p)] := hl
  refine lv_iload_n hx hb dX2_lesser_0 rfl (lv_at hl 0 rfl) ?_
  refine lv_bipush (v := 65) hx hb dX2_lesser_1 (by decide) ?_
  refine lv_icmp_lt (tgt := 12) hx hb dX2_lesser_3 (by decide) (fun c_3 => ?_) (fun c_3 => ?_)
  ·
    refine lv_iload_n hx hb dX2_lesser_12 rfl (lv_at hl 0 rfl) ?_
    refine lv_sipush (v := 192) hx hb dX2_lesser_13 (by decide) ?_
    refine lv_icmp_lt (tgt := 38) hx hb dX2_lesser_16 (by decide) (fun c_16 => ?_) (fun c_16 => ?_)
    ·
      refine lv_iload_n hx hb dX2_lesser_38 rfl (lv_at hl 0 rfl) ?_
      refine lv_sipush (v := 376) hx hb dX2_lesser_39 (by decide) ?_
      refine lv_icmp_ne (tgt := 51) hx hb dX2_lesser_42 (by decide) (fun c_42 => ?_) (fun c_42 => ?_)
      ·
        refine lv_iload_n hx hb dX2_lesser_51 rfl (lv_at hl 0 rfl) ?_
        refine wd_iret hx hb hr hlocks hW hS dX2_lesser_52 ?_
        exact ⟨by first | (simp [j_le, c_3, c_16, c_42]; done) | (simp only [j_le, i_le]; simp [c_3, c_16, c_42]; done) | (exfalso; simp_all; done) | rfl, rfl⟩
      ·
        refine lv_sipush (v := 255) hx hb dX2_lesser_45 (by decide) ?_
        refine lv_goto (tgt := 52) hx hb dX2_lesser_48 (by decide) ?_
        refine wd_iret hx hb hr hlocks hW hS dX2_lesser_52 ?_
        exact ⟨by first | (simp [j_le, c_3, c_16, c_42]; done) | (simp only [j_le, i_le]; simp [c_3, c_16, c_42]; done) | (exfalso; simp_all; done) | rfl, rfl⟩
    ·
      refine lv_iload_n hx hb dX2_lesser_19 rfl (lv_at hl 0 rfl) ?_
      refine lv_sipush (v := 222) hx hb dX2_lesser_20 (by decide) ?_
      refine lv_icmp_gt (tgt := 38) hx hb dX2_lesser_23 (by decide) (fun c_23 => ?_) (fun c_23 => ?_)
      ·
        refine lv_iload_n hx hb dX2_lesser_38 rfl (lv_at hl 0 rfl) ?_
        refine lv_sipush (v := 376) hx hb dX2_lesser_39 (by decide) ?_
        refine lv_icmp_ne (tgt := 51) hx hb dX2_lesser_42 (by decide) (fun c_42 => ?_) (fun c_42 => ?_)
        ·
          refine lv_iload_n hx hb dX2_lesser_51 rfl (lv_at hl 0 rfl) ?_
          refine wd_iret hx hb hr hlocks hW hS dX2_lesser_52 ?_
          exact ⟨by first | (simp [j_le, c_3, c_16, c_23, c_42]; done) | (simp only [j_le, i_le]; simp [c_3, c_16, c_23, c_42]; done) | (exfalso; simp_all; done) | rfl, rfl⟩
        ·
          refine lv_sipush (v := 255) hx hb dX2_lesser_45 (by decide) ?_
          refine lv_goto (tgt := 52) hx hb dX2_lesser_48 (by decide) ?_
          refine wd_iret hx hb hr hlocks hW hS dX2_lesser_52 ?_
          exact ⟨by first | (simp [j_le, c_3, c_16, c_23, c_42]; done) | (simp only [j_le, i_le]; simp [c_3, c_16, c_23, c_42]; done) | (exfalso; simp_all; done) | rfl, rfl⟩
      ·
        refine lv_iload_n hx hb dX2_lesser_26 rfl (lv_at hl 0 rfl) ?_
        refine lv_sipush (v := 215) hx hb dX2_lesser_27 (by decide) ?_
        refine lv_icmp_eq (tgt := 38) hx hb dX2_lesser_30 (by decide) (fun c_30 => ?_) (fun c_30 => ?_)
        ·
          refine lv_iload_n hx hb dX2_lesser_38 rfl (lv_at hl 0 rfl) ?_
          refine lv_sipush (v := 376) hx hb dX2_lesser_39 (by decide) ?_
          refine lv_icmp_ne (tgt := 51) hx hb dX2_lesser_42 (by decide) (fun c_42 => ?_) (fun c_42 => ?_)
          ·
            refine lv_iload_n hx hb dX2_lesser_51 rfl (lv_at hl 0 rfl) ?_
            refine wd_iret hx hb hr hlocks hW hS dX2_lesser_52 ?_
            exact ⟨by first | (simp [j_le, c_3, c_16, c_23, c_30, c_42]; done) | (simp only [j_le, i_le]; simp [c_3, c_16, c_23, c_30, c_42]; done) | (exfalso; simp_all; done) | rfl, rfl⟩
          ·
            refine lv_sipush (v := 255) hx hb dX2_lesser_45 (by decide) ?_
            refine lv_goto (tgt := 52) hx hb dX2_lesser_48 (by decide) ?_
            refine wd_iret hx hb hr hlocks hW hS dX2_lesser_52 ?_
            exact ⟨by first | (simp [j_le, c_3, c_16, c_23, c_30, c_42]; done) | (simp only [j_le, i_le]; simp [c_3, c_16, c_23, c_30, c_42]; done) | (exfalso; simp_all; done) | rfl, rfl⟩
        ·
          refine lv_iload_n hx hb dX2_lesser_33 rfl (lv_at hl 0 rfl) ?_
          refine lv_bipush (v := 32) hx hb dX2_lesser_34 (by decide) ?_
          refine lv_iadd hx hb dX2_lesser_36 ?_
          refine wd_iret hx hb hr hlocks hW hS dX2_lesser_37 ?_
          exact ⟨by first | (simp [j_le, c_3, c_16, c_23, c_30]; done) | (simp only [j_le, i_le]; simp [c_3, c_16, c_23, c_30]; done) | (exfalso; simp_all; done) | rfl, rfl⟩
  ·
    refine lv_iload_n hx hb dX2_lesser_6 rfl (lv_at hl 0 rfl) ?_
    refine lv_bipush (v := 90) hx hb dX2_lesser_7 (by decide) ?_
    refine lv_icmp_le (tgt := 33) hx hb dX2_lesser_9 (by decide) (fun c_9 => ?_) (fun c_9 => ?_)
    ·
      simp only [i_le, Decidable.not_not] at c_9
      refine lv_iload_n hx hb dX2_lesser_33 rfl (lv_at hl 0 rfl) ?_
      refine lv_bipush (v := 32) hx hb dX2_lesser_34 (by decide) ?_
      refine lv_iadd hx hb dX2_lesser_36 ?_
      refine wd_iret hx hb hr hlocks hW hS dX2_lesser_37 ?_
      exact ⟨by first | (simp [j_le, c_3, c_9]; done) | (simp only [j_le, i_le]; simp [c_3, c_9]; done) | (exfalso; simp_all; done) | rfl, rfl⟩
    ·
      simp only [i_le, Decidable.not_not] at c_9
      refine lv_iload_n hx hb dX2_lesser_12 rfl (lv_at hl 0 rfl) ?_
      refine lv_sipush (v := 192) hx hb dX2_lesser_13 (by decide) ?_
      refine lv_icmp_lt (tgt := 38) hx hb dX2_lesser_16 (by decide) (fun c_16 => ?_) (fun c_16 => ?_)
      ·
        refine lv_iload_n hx hb dX2_lesser_38 rfl (lv_at hl 0 rfl) ?_
        refine lv_sipush (v := 376) hx hb dX2_lesser_39 (by decide) ?_
        refine lv_icmp_ne (tgt := 51) hx hb dX2_lesser_42 (by decide) (fun c_42 => ?_) (fun c_42 => ?_)
        ·
          refine lv_iload_n hx hb dX2_lesser_51 rfl (lv_at hl 0 rfl) ?_
          refine wd_iret hx hb hr hlocks hW hS dX2_lesser_52 ?_
          exact ⟨by first | (simp [j_le, c_3, c_9, c_16, c_42]; done) | (simp only [j_le, i_le]; simp [c_3, c_9, c_16, c_42]; done) | (exfalso; simp_all; done) | rfl, rfl⟩
        ·
          refine lv_sipush (v := 255) hx hb dX2_lesser_45 (by decide) ?_
          refine lv_goto (tgt := 52) hx hb dX2_lesser_48 (by decide) ?_
          refine wd_iret hx hb hr hlocks hW hS dX2_lesser_52 ?_
          exact ⟨by first | (simp [j_le, c_3, c_9, c_16, c_42]; done) | (simp only [j_le, i_le]; simp [c_3, c_9, c_16, c_42]; done) | (exfalso; simp_all; done) | rfl, rfl⟩
      ·
        refine lv_iload_n hx hb dX2_lesser_19 rfl (lv_at hl 0 rfl) ?_
        refine lv_sipush (v := 222) hx hb dX2_lesser_20 (by decide) ?_
        refine lv_icmp_gt (tgt := 38) hx hb dX2_lesser_23 (by decide) (fun c_23 => ?_) (fun c_23 => ?_)
        ·
          refine lv_iload_n hx hb dX2_lesser_38 rfl (lv_at hl 0 rfl) ?_
          refine lv_sipush (v := 376) hx hb dX2_lesser_39 (by decide) ?_
          refine lv_icmp_ne (tgt := 51) hx hb dX2_lesser_42 (by decide) (fun c_42 => ?_) (fun c_42 => ?_)
          ·
            refine lv_iload_n hx hb dX2_lesser_51 rfl (lv_at hl 0 rfl) ?_
            refine wd_iret hx hb hr hlocks hW hS dX2_lesser_52 ?_
            exact ⟨by first | (simp [j_le, c_3, c_9, c_16, c_23, c_42]; done) | (simp only [j_le, i_le]; simp [c_3, c_9, c_16, c_23, c_42]; done) | (exfalso; simp_all; done) | rfl, rfl⟩
          ·
            refine lv_sipush (v := 255) hx hb dX2_lesser_45 (by decide) ?_
            refine lv_goto (tgt := 52) hx hb dX2_lesser_48 (by decide) ?_
            refine wd_iret hx hb hr hlocks hW hS dX2_lesser_52 ?_
            exact ⟨by first | (simp [j_le, c_3, c_9, c_16, c_23, c_42]; done) | (simp only [j_le, i_le]; simp [c_3, c_9, c_16, c_23, c_42]; done) | (exfalso; simp_all; done) | rfl, rfl⟩
        ·
          refine lv_iload_n hx hb dX2_lesser_26 rfl (lv_at hl 0 rfl) ?_
          refine lv_sipush (v := 215) hx hb dX2_lesser_27 (by decide) ?_
          refine lv_icmp_eq (tgt := 38) hx hb dX2_lesser_30 (by decide) (fun c_30 => ?_) (fun c_30 => ?_)
          ·
            refine lv_iload_n hx hb dX2_lesser_38 rfl (lv_at hl 0 rfl) ?_
            refine lv_sipush (v := 376) hx hb dX2_lesser_39 (by decide) ?_
            refine lv_icmp_ne (tgt := 51) hx hb dX2_lesser_42 (by decide) (fun c_42 => ?_) (fun c_42 => ?_)
            ·
              refine lv_iload_n hx hb dX2_lesser_51 rfl (lv_at hl 0 rfl) ?_
              refine wd_iret hx hb hr hlocks hW hS dX2_lesser_52 ?_
              exact ⟨by first | (simp [j_le, c_3, c_9, c_16, c_23, c_30, c_42]; done) | (simp only [j_le, i_le]; simp [c_3, c_9, c_16, c_23, c_30, c_42]; done) | (exfalso; simp_all; done) | rfl, rfl⟩
            ·
              refine lv_sipush (v := 255) hx hb dX2_lesser_45 (by decide) ?_
              refine lv_goto (tgt := 52) hx hb dX2_lesser_48 (by decide) ?_
              refine wd_iret hx hb hr hlocks hW hS dX2_lesser_52 ?_
              exact ⟨by first | (simp [j_le, c_3, c_9, c_16, c_23, c_30, c_42]; done) | (simp only [j_le, i_le]; simp [c_3, c_9, c_16, c_23, c_30, c_42]; done) | (exfalso; simp_all; done) | rfl, rfl⟩
          ·
            refine lv_iload_n hx hb dX2_lesser_33 rfl (lv_at hl 0 rfl) ?_
            refine lv_bipush (v := 32) hx hb dX2_lesser_34 (by decide) ?_
            refine lv_iadd hx hb dX2_lesser_36 ?_
            refine wd_iret hx hb hr hlocks hW hS dX2_lesser_37 ?_
            exact ⟨by first | (simp [j_le, c_3, c_9, c_16, c_23, c_30]; done) | (simp only [j_le, i_le]; simp [c_3, c_9, c_16, c_23, c_30]; done) | (exfalso; simp_all; done) | rfl, rfl⟩
end
section
set_option maxHeartbeats 4000000 in
set_option maxRecDepth 100000 in
theorem k_X2_isInsidePair (l : Launch) (D : va_G) (cI cT : ClassId) (w : Wd) (sz : Nat) (a : Nat) (len : Nat) (g : Nat → Int32) (n : Int32) (k : Int32) (ha : w a = some (e_ints cI len g)) (hlen : len < 2 ^ 31) : wd_Mi l D vwCl (gK D cI cT) yX2_isInsidePair wsX2_isInsidePair (wd_rm 1 0 0) [.ref a, .int n, .int k] w sz (fun r w' => r = j_b (j_ins g len n k) ∧ w' = w) := by
  refine wd_met (cc := cX2_isInsidePair) (maxL := 3) (ret := (some .boolean)) (by decide) rfl (Nat.le_of_ble_eq_true rfl) ?_
  intro pg ev sg mi bl mt cd ls C0 hsz hK hW hl
  obtain ⟨hx, hb, hr, hml, hown, hts, hlocks, hnm⟩ := C0
  subst hsz
  have hown : sg.vm.findClass RX2 = some mi.cls := hown
  have hS : va_S (wd_A w sg.heap.size) sg.heap sg.heap [] := va_S.rf
  have hA : ∀ q, sg.heap.size ≤ q → wd_A w sg.heap.size q := fun q h => Or.inr h
  have hl : lv_has ls 3 [(0, .ref a), (1, .int n), (2, .int k)] := hl
  refine lv_iload_n hx hb dX2_isInsidePair_0 rfl (lv_at hl 2 rfl) ?_
  refine lv_iconst (v := 1) hx hb dX2_isInsidePair_1 (by decide) ?_
  refine lv_icmp_lt (tgt := 16) hx hb dX2_isInsidePair_2 (by decide) (fun c_2 => ?_) (fun c_2 => ?_)
  ·
    refine lv_iconst (v := 0) hx hb dX2_isInsidePair_16 (by decide) ?_
    refine wd_zret hx hb hr hlocks (Or.inl rfl) hW hS dX2_isInsidePair_17 ?_
    exact ⟨by first | (simp [j_b, j_ins, c_2]; done) | (simp only [j_b, j_ins, i_le]; simp [c_2]; done) | (exfalso; simp_all; done) | (simp only [j_ins, j_b, i_le, Decidable.not_not]; simp_all), rfl⟩
  ·
    refine lv_iload_n hx hb dX2_isInsidePair_5 rfl (lv_at hl 2 rfl) ?_
    refine lv_iload_n hx hb dX2_isInsidePair_6 rfl (lv_at hl 1 rfl) ?_
    refine lv_icmp_ge (tgt := 16) hx hb dX2_isInsidePair_7 (by decide) (fun c_7 => ?_) (fun c_7 => ?_)
    ·
      simp only [i_le, Decidable.not_not] at c_7
      refine lv_iconst (v := 0) hx hb dX2_isInsidePair_16 (by decide) ?_
      refine wd_zret hx hb hr hlocks (Or.inl rfl) hW hS dX2_isInsidePair_17 ?_
      exact ⟨by first | (simp [j_b, j_ins, c_2, c_7]; done) | (simp only [j_b, j_ins, i_le]; simp [c_2, c_7]; done) | (exfalso; simp_all; done) | (simp only [j_ins, j_b, i_le, Decidable.not_not]; simp_all), rfl⟩
    ·
      simp only [i_le, Decidable.not_not] at c_7
      refine lv_iload_n hx hb dX2_isInsidePair_10 rfl (lv_at hl 2 rfl) ?_
      refine lv_aload_n hx hb dX2_isInsidePair_11 rfl (lv_at hl 0 rfl) ?_
      refine wd_alen hx hb hK.1 hW 0 ha rfl dX2_isInsidePair_12 ?_
      refine lv_icmp_lt (tgt := 18) hx hb dX2_isInsidePair_13 (by decide) (fun c_13 => ?_) (fun c_13 => ?_)
      ·
        refine lv_aload_n hx hb dX2_isInsidePair_18 rfl (lv_at hl 0 rfl) ?_
        refine lv_iload_n hx hb dX2_isInsidePair_19 rfl (lv_at hl 2 rfl) ?_
        refine lv_iconst (v := 1) hx hb dX2_isInsidePair_20 (by decide) ?_
        refine lv_isub hx hb dX2_isInsidePair_21 ?_
        refine wd_iald hx hb hK.1 hW 0 ha rfl (in_pred c_2 c_13 hlen) dX2_isInsidePair_22 ?_
        refine wd_callSi (As := [.int (g (k - 1).toNatClampNeg)]) (rest := []) (c2 := 0) (s2 := 0) ⟨hx, hb, hml, hown, hts⟩ (k_X2_isHigh l D cI cT w sg.heap.size (g (k - 1).toNatClampNeg) ) (va_cwS 1 hts gX2_isInsidePair_X2_isHigh rfl rfl rfl (by decide +kernel) ⟨Nat.le_of_ble_eq_true rfl, Nat.le_of_ble_eq_true rfl⟩) gK_ok hK hW hS hA rfl hl.1 rfl (Nat.le_of_ble_eq_true rfl) dX2_isInsidePair_23 ⟨Nat.le_of_ble_eq_true rfl, Nat.le_of_ble_eq_true rfl⟩ rfl rfl (fun r_23 w_23 H locs hp_23 hW hz hS => ?_)
        obtain ⟨q_r, q_w⟩ := hp_23
        subst r_23
        subst w_23
        refine lv_if_eq (tgt := 42) hx hb dX2_isInsidePair_26 (by decide) (fun c_26 => ?_) (fun c_26 => ?_)
        ·
          have c_26 := j_b0 c_26
          refine lv_iconst (v := 0) hx hb dX2_isInsidePair_42 (by decide) ?_
          refine wd_zret hx hb hr hlocks (Or.inl rfl) hW hS dX2_isInsidePair_43 ?_
          exact ⟨by first | (simp [j_b, j_ins, c_2, c_7, c_13, c_26]; done) | (simp only [j_b, j_ins, i_le]; simp [c_2, c_7, c_13, c_26]; done) | (exfalso; simp_all; done) | (simp only [j_ins, j_b, i_le, Decidable.not_not]; simp_all), rfl⟩
        ·
          have c_26 := j_bn c_26
          refine lv_aload_n hx hb dX2_isInsidePair_29 rfl (lv_at hl 0 rfl) ?_
          refine lv_iload_n hx hb dX2_isInsidePair_30 rfl (lv_at hl 2 rfl) ?_
          refine wd_iald hx hb hK.1 hW 0 ha rfl (in_k1 c_2 c_13 hlen) dX2_isInsidePair_31 ?_
          refine wd_callSi (As := [.int (g k.toNatClampNeg)]) (rest := []) (c2 := 0) (s2 := 0) ⟨hx, hb, hml, hown, hts⟩ (k_X2_isLow l D cI cT w H.size (g k.toNatClampNeg) ) (va_cwS 1 hts gX2_isInsidePair_X2_isLow rfl rfl rfl (by decide +kernel) ⟨Nat.le_of_ble_eq_true rfl, Nat.le_of_ble_eq_true rfl⟩) gK_ok hK hW hS hA rfl hl.1 rfl (Nat.le_of_ble_eq_true rfl) dX2_isInsidePair_32 ⟨Nat.le_of_ble_eq_true rfl, Nat.le_of_ble_eq_true rfl⟩ rfl rfl (fun r_32 w_32 H locs hp_32 hW hz hS => ?_)
          obtain ⟨q_r, q_w⟩ := hp_32
          subst r_32
          subst w_32
          refine lv_if_eq (tgt := 42) hx hb dX2_isInsidePair_35 (by decide) (fun c_35 => ?_) (fun c_35 => ?_)
          ·
            have c_35 := j_b0 c_35
            refine lv_iconst (v := 0) hx hb dX2_isInsidePair_42 (by decide) ?_
            refine wd_zret hx hb hr hlocks (Or.inl rfl) hW hS dX2_isInsidePair_43 ?_
            exact ⟨by first | (simp [j_b, j_ins, c_2, c_7, c_13, c_26, c_35]; done) | (simp only [j_b, j_ins, i_le]; simp [c_2, c_7, c_13, c_26, c_35]; done) | (exfalso; simp_all; done) | (simp only [j_ins, j_b, i_le, Decidable.not_not]; simp_all), rfl⟩
          ·
            have c_35 := j_bn c_35
            refine lv_iconst (v := 1) hx hb dX2_isInsidePair_38 (by decide) ?_
            refine lv_goto (tgt := 43) hx hb dX2_isInsidePair_39 (by decide) ?_
            refine wd_zret hx hb hr hlocks (Or.inr rfl) hW hS dX2_isInsidePair_43 ?_
            exact ⟨by first | (simp [j_b, j_ins, c_2, c_7, c_13, c_26, c_35]; done) | (simp only [j_b, j_ins, i_le]; simp [c_2, c_7, c_13, c_26, c_35]; done) | (exfalso; simp_all; done) | (simp only [j_ins, j_b, i_le, Decidable.not_not]; simp_all), rfl⟩
      ·
        refine lv_iconst (v := 0) hx hb dX2_isInsidePair_16 (by decide) ?_
        refine wd_zret hx hb hr hlocks (Or.inl rfl) hW hS dX2_isInsidePair_17 ?_
        exact ⟨by first | (simp [j_b, j_ins, c_2, c_7, c_13]; done) | (simp only [j_b, j_ins, i_le]; simp [c_2, c_7, c_13]; done) | (exfalso; simp_all; done) | (simp only [j_ins, j_b, i_le, Decidable.not_not]; simp_all), rfl⟩
set_option maxHeartbeats 4000000 in
set_option maxRecDepth 100000 in
theorem k_X2_pairedPoint (l : Launch) (D : va_G) (cI cT : ClassId) (w : Wd) (sz : Nat) (a : Nat) (len : Nat) (g : Nat → Int32) (k : Int32) (ha : w a = some (e_ints cI len g)) (hlen : len < 2 ^ 31) : wd_Mi l D vwCl (gK D cI cT) yX2_pairedPoint wsX2_pairedPoint (wd_rm 0 0 0) [.ref a, .int k] w sz (fun r w' => r = j_pp g len k ∧ w' = w) := by
  refine wd_met (cc := cX2_pairedPoint) (maxL := 2) (ret := (some .int)) (by decide) rfl (Nat.le_of_ble_eq_true rfl) ?_
  intro pg ev sg mi bl mt cd ls C0 hsz hK hW hl
  obtain ⟨hx, hb, hr, hml, hown, hts, hlocks, hnm⟩ := C0
  subst hsz
  have hown : sg.vm.findClass RX2 = some mi.cls := hown
  have hS : va_S (wd_A w sg.heap.size) sg.heap sg.heap [] := va_S.rf
  have hA : ∀ q, sg.heap.size ≤ q → wd_A w sg.heap.size q := fun q h => Or.inr h
  have hl : lv_has ls 2 [(0, .ref a), (1, .int k)] := hl
  refine lv_iload_n hx hb dX2_pairedPoint_0 rfl (lv_at hl 1 rfl) ?_
  refine lv_if_lt (tgt := 12) hx hb dX2_pairedPoint_1 (by decide) (fun c_1 => ?_) (fun c_1 => ?_)
  ·
    refine lv_iconst (v := 0) hx hb dX2_pairedPoint_12 (by decide) ?_
    refine wd_iret hx hb hr hlocks hW hS dX2_pairedPoint_13 ?_
    exact ⟨by first | (simp [j_pp, c_1]; done) | (simp only [j_pp, i_le]; simp [c_1]; done) | (exfalso; simp_all; done) | (simp only [j_pp, i_le, Decidable.not_not]; simp_all), rfl⟩
  ·
    refine lv_iload_n hx hb dX2_pairedPoint_4 rfl (lv_at hl 1 rfl) ?_
    refine lv_aload_n hx hb dX2_pairedPoint_5 rfl (lv_at hl 0 rfl) ?_
    refine wd_alen hx hb hK.1 hW 0 ha rfl dX2_pairedPoint_6 ?_
    refine lv_iconst (v := 1) hx hb dX2_pairedPoint_7 (by decide) ?_
    refine lv_isub hx hb dX2_pairedPoint_8 ?_
    refine lv_icmp_lt (tgt := 14) hx hb dX2_pairedPoint_9 (by decide) (fun c_9 => ?_) (fun c_9 => ?_)
    ·
      refine lv_ldc (v := 65536) hx hb hown (hts (.constant RX2 173 65536) (by decide +kernel)) dX2_pairedPoint_14 ?_
      refine lv_aload_n hx hb dX2_pairedPoint_16 rfl (lv_at hl 0 rfl) ?_
      refine lv_iload_n hx hb dX2_pairedPoint_17 rfl (lv_at hl 1 rfl) ?_
      refine wd_iald hx hb hK.1 hW 0 ha rfl (in_m1 c_1 c_9 hlen).1 dX2_pairedPoint_18 ?_
      refine lv_ldc (v := 55296) hx hb hown (hts (.constant RX2 182 55296) (by decide +kernel)) dX2_pairedPoint_19 ?_
      refine lv_isub hx hb dX2_pairedPoint_21 ?_
      refine lv_sipush (v := 1024) hx hb dX2_pairedPoint_22 (by decide) ?_
      refine lv_imul hx hb dX2_pairedPoint_25 ?_
      refine lv_iadd hx hb dX2_pairedPoint_26 ?_
      refine lv_aload_n hx hb dX2_pairedPoint_27 rfl (lv_at hl 0 rfl) ?_
      refine lv_iload_n hx hb dX2_pairedPoint_28 rfl (lv_at hl 1 rfl) ?_
      refine lv_iconst (v := 1) hx hb dX2_pairedPoint_29 (by decide) ?_
      refine lv_iadd hx hb dX2_pairedPoint_30 ?_
      refine wd_iald hx hb hK.1 hW 0 ha rfl (in_m1 c_1 c_9 hlen).2 dX2_pairedPoint_31 ?_
      refine lv_ldc (v := 56320) hx hb hown (hts (.constant RX2 183 56320) (by decide +kernel)) dX2_pairedPoint_32 ?_
      refine lv_isub hx hb dX2_pairedPoint_34 ?_
      refine lv_iadd hx hb dX2_pairedPoint_35 ?_
      refine wd_iret hx hb hr hlocks hW hS dX2_pairedPoint_36 ?_
      exact ⟨by first | (simp [j_pp, c_1, c_9]; done) | (simp only [j_pp, i_le]; simp [c_1, c_9]; done) | (exfalso; simp_all; done) | (simp only [j_pp, i_le, Decidable.not_not]; simp_all), rfl⟩
    ·
      refine lv_iconst (v := 0) hx hb dX2_pairedPoint_12 (by decide) ?_
      refine wd_iret hx hb hr hlocks hW hS dX2_pairedPoint_13 ?_
      exact ⟨by first | (simp [j_pp, c_1, c_9]; done) | (simp only [j_pp, i_le]; simp [c_1, c_9]; done) | (exfalso; simp_all; done) | (simp only [j_pp, i_le, Decidable.not_not]; simp_all), rfl⟩
set_option maxHeartbeats 4000000 in
set_option maxRecDepth 100000 in
theorem k_X0_empty (l : Launch) (D : va_G) (cI cT : ClassId) (w : Wd) (sz : Nat) (r : Nat) (rI : Nat) (n : Nat) (X : Rw) (hR : rowAt w r rI cI n X) : wd_Mv l D vwCl (gK D cI cT) yX0_empty wsX0_empty (wd_rm 0 0 0) [.ref r] w sz (fun w' => w' = rowSet w r rI cI n (r_nil X)) := by
  refine wd_met (cc := cX0_empty) (maxL := 1) (ret := none) (by decide) rfl (Nat.le_of_ble_eq_true rfl) ?_
  intro pg ev sg mi bl mt cd ls C0 hsz hK hW hl
  obtain ⟨hx, hb, hr, hml, hown, hts, hlocks, hnm⟩ := C0
  subst hsz
  have hown : sg.vm.findClass RX0 = some mi.cls := hown
  have hS : va_S (wd_A w sg.heap.size) sg.heap sg.heap [] := va_S.rf
  have hA : ∀ q, sg.heap.size ≤ q → wd_A w sg.heap.size q := fun q h => Or.inr h
  have hl : lv_has ls 1 [(0, .ref r)] := hl
  refine lv_aload_n hx hb dX0_empty_0 rfl (lv_at hl 0 rfl) ?_
  refine lv_iconst (v := 0) hx hb dX0_empty_1 (by decide) ?_
  refine wd_put (ci := 0) (v := .int 0) (ty := .int) (C := RX0) (T := TX0) (N := 2) hx hb hts (by decide +kernel) tyX0 tyX0_ok nmX0 hown hK.1 hW hS hR.1 rfl 1 (by decide) (hts (.fieldLink RX0 15 "CharRows$Row" "count" "I") (by decide +kernel)) (fun _ h9 => h9) rfl (by decide +kernel) rfl rfl (Nat.le_of_ble_eq_true rfl) dX0_empty_2 (fun H locs hW hS => ?_)
  have f1_r : (wd_up w r (.inr (0, [.ref rI, .int 0]))) r = some (.inr (0, [.ref rI, .int 0])) := wd_up_self _ _ _
  have f1_rI : (wd_up w r (.inr (0, [.ref rI, .int 0]))) rI = some (.inl (cI, n, .inl X.1)) := (wd_up_ne _ _ (wd_ne hR.2.1 hR.1 (by intro h9; cases h9))).trans hR.2.1
  refine wd_vret hx hb hr hlocks hW hS dX0_empty_5 ?_
  show _ = _
  funext q
  by_cases h1 : q = r
  · subst h1; rw [wd_up_self, rowSet, wd_up_self]; rfl
  · rw [wd_up_ne _ _ h1, rowSet, wd_up_ne _ _ h1]
    by_cases h2 : q = rI
    · subst h2; rw [wd_up_self, hR.2.1]; rfl
    · rw [wd_up_ne _ _ h2]
set_option maxHeartbeats 4000000 in
set_option maxRecDepth 100000 in
theorem k_X0_add (l : Launch) (D : va_G) (cI cT : ClassId) (w : Wd) (sz : Nat) (r : Nat) (rI : Nat) (n : Nat) (X : Rw) (x : Int32) (hR : rowAt w r rI cI n X) : wd_Mv l D vwCl (gK D cI cT) yX0_add wsX0_add (wd_rm 0 0 0) [.ref r, .int x] w sz (fun w' => w' = rowSet w r rI cI n (r_add n x X)) := by
  refine wd_met (cc := cX0_add) (maxL := 2) (ret := none) (by decide) rfl (Nat.le_of_ble_eq_true rfl) ?_
  intro pg ev sg mi bl mt cd ls C0 hsz hK hW hl
  obtain ⟨hx, hb, hr, hml, hown, hts, hlocks, hnm⟩ := C0
  subst hsz
  have hown : sg.vm.findClass RX0 = some mi.cls := hown
  have hS : va_S (wd_A w sg.heap.size) sg.heap sg.heap [] := va_S.rf
  have hA : ∀ q, sg.heap.size ≤ q → wd_A w sg.heap.size q := fun q h => Or.inr h
  have hl : lv_has ls 2 [(0, .ref r), (1, .int x)] := hl
  have hX1 := hR.2.2.1
  have hX2 := hR.2.2.2
  refine lv_aload_n hx hb dX0_add_0 rfl (lv_at hl 0 rfl) ?_
  refine wd_get (ci := 0) (v := .int (nI X.2)) (C := RX0) (T := TX0) (N := 2) hx hb hts (by decide +kernel) hown hK.1 hW hR.1 rfl 1 (by decide) (hts (.fieldLink RX0 15 "CharRows$Row" "count" "I") (by decide +kernel)) (fun _ h9 => h9) rfl dX0_add_1 ?_
  refine lv_if_lt (tgt := 39) hx hb dX0_add_4 (by decide) (fun c_4 => ?_) (fun c_4 => ?_)
  ·
    exact absurd c_4 (nI_pos (by omega))
  ·
    have c_4 : ¬ (X.2 < 0) := fun q9 => absurd ((nI_ltI (by omega) (by omega)).mpr q9) (show ¬ (nI X.2 < nI 0) from c_4)
    refine lv_aload_n hx hb dX0_add_7 rfl (lv_at hl 0 rfl) ?_
    refine wd_get (ci := 0) (v := .int (nI X.2)) (C := RX0) (T := TX0) (N := 2) hx hb hts (by decide +kernel) hown hK.1 hW hR.1 rfl 1 (by decide) (hts (.fieldLink RX0 15 "CharRows$Row" "count" "I") (by decide +kernel)) (fun _ h9 => h9) rfl dX0_add_8 ?_
    refine lv_aload_n hx hb dX0_add_11 rfl (lv_at hl 0 rfl) ?_
    refine wd_get (ci := 0) (v := .ref rI) (C := RX0) (T := TX0) (N := 2) hx hb hts (by decide +kernel) hown hK.1 hW hR.1 rfl 0 (by decide) (hts (.fieldLink RX0 9 "CharRows$Row" "items" "[I") (by decide +kernel)) (fun _ h9 => h9) rfl dX0_add_12 ?_
    refine wd_alen hx hb hK.1 hW 0 hR.2.1 rfl dX0_add_15 ?_
    refine lv_icmp_ge (tgt := 39) hx hb dX0_add_16 (by decide) (fun c_16 => ?_) (fun c_16 => ?_)
    ·
      have c_16 : n ≤ X.2 := (nI_leI (by omega) (by omega)).mp (show (nI n ≤ nI X.2) from c_16)
      refine wd_vret hx hb hr hlocks hW hS dX0_add_39 ?_
      show _ = _
      rw [r_add, if_neg (by omega), rowSet_self hR]
    ·
      have c_16 : ¬ (n ≤ X.2) := fun q9 => absurd ((nI_leI (by omega) (by omega)).mpr q9) (show ¬ (nI n ≤ nI X.2) from c_16)
      refine lv_aload_n hx hb dX0_add_19 rfl (lv_at hl 0 rfl) ?_
      refine wd_get (ci := 0) (v := .ref rI) (C := RX0) (T := TX0) (N := 2) hx hb hts (by decide +kernel) hown hK.1 hW hR.1 rfl 0 (by decide) (hts (.fieldLink RX0 9 "CharRows$Row" "items" "[I") (by decide +kernel)) (fun _ h9 => h9) rfl dX0_add_20 ?_
      refine lv_aload_n hx hb dX0_add_23 rfl (lv_at hl 0 rfl) ?_
      refine wd_get (ci := 0) (v := .int (nI X.2)) (C := RX0) (T := TX0) (N := 2) hx hb hts (by decide +kernel) hown hK.1 hW hR.1 rfl 1 (by decide) (hts (.fieldLink RX0 15 "CharRows$Row" "count" "I") (by decide +kernel)) (fun _ h9 => h9) rfl dX0_add_24 ?_
      refine lv_iload_n hx hb dX0_add_27 rfl (lv_at hl 1 rfl) ?_
      refine wd_iast hx hb hK.1 hW hS 0 hR.2.1 rfl (vp_in_nI (by omega) (by omega)) dX0_add_28 (fun H locs hW hS => ?_)
      rw [nI_clamp (by omega)] at hW
      have f1_r : (wd_up w rI (.inl (cI, n, .inl (upd X.1 X.2 x)))) r = some (.inr (0, [.ref rI, .int (nI X.2)])) := (wd_up_ne _ _ (wd_ne hR.1 hR.2.1 (by intro h9; cases h9))).trans hR.1
      have f1_rI : (wd_up w rI (.inl (cI, n, .inl (upd X.1 X.2 x)))) rI = some (.inl (cI, n, .inl (upd X.1 X.2 x))) := wd_up_self _ _ _
      refine lv_aload_n hx hb dX0_add_29 rfl (lv_at hl 0 rfl) ?_
      refine lv_dup hx hb dX0_add_30 rfl ?_
      refine wd_get (ci := 0) (v := .int (nI X.2)) (C := RX0) (T := TX0) (N := 2) hx hb hts (by decide +kernel) hown hK.1 hW f1_r rfl 1 (by decide) (hts (.fieldLink RX0 15 "CharRows$Row" "count" "I") (by decide +kernel)) (fun _ h9 => h9) rfl dX0_add_31 ?_
      refine lv_iconst (v := 1) hx hb dX0_add_34 (by decide) ?_
      refine lv_iadd hx hb dX0_add_35 ?_
      refine wd_topE (y := nI (X.2 + 1)) (nI_1 _) ?_
      refine wd_put (ci := 0) (v := .int (nI (X.2 + 1))) (ty := .int) (C := RX0) (T := TX0) (N := 2) hx hb hts (by decide +kernel) tyX0 tyX0_ok nmX0 hown hK.1 hW hS f1_r rfl 1 (by decide) (hts (.fieldLink RX0 15 "CharRows$Row" "count" "I") (by decide +kernel)) (fun _ h9 => h9) rfl (by decide +kernel) rfl rfl (Nat.le_of_ble_eq_true rfl) dX0_add_36 (fun H locs hW hS => ?_)
      have f2_r : (wd_up (wd_up w rI (.inl (cI, n, .inl (upd X.1 X.2 x)))) r (.inr (0, [.ref rI, .int (nI (X.2 + 1))]))) r = some (.inr (0, [.ref rI, .int (nI (X.2 + 1))])) := wd_up_self _ _ _
      have f2_rI : (wd_up (wd_up w rI (.inl (cI, n, .inl (upd X.1 X.2 x)))) r (.inr (0, [.ref rI, .int (nI (X.2 + 1))]))) rI = some (.inl (cI, n, .inl (upd X.1 X.2 x))) := (wd_up_ne _ _ (wd_ne f1_rI f1_r (by intro h9; cases h9))).trans f1_rI
      refine wd_vret hx hb hr hlocks hW hS dX0_add_39 ?_
      show _ = _
      rw [r_add, if_pos (Nat.lt_of_not_le c_16)]
      rfl
set_option maxHeartbeats 4000000 in
set_option maxRecDepth 100000 in
theorem k_X0_addUnitsOf (l : Launch) (D : va_G) (cI cT : ClassId) (w : Wd) (sz : Nat) (r : Nat) (rI : Nat) (n : Nat) (X : Rw) (p : Int32) (hR : rowAt w r rI cI n X) : wd_Mv l D vwCl (gK D cI cT) yX0_addUnitsOf wsX0_addUnitsOf (wd_rm 1 0 0) [.ref r, .int p] w sz (fun w' => w' = rowSet w r rI cI n (r_uni n p X)) := by
  refine wd_met (cc := cX0_addUnitsOf) (maxL := 3) (ret := none) (by decide) rfl (Nat.le_of_ble_eq_true rfl) ?_
  intro pg ev sg mi bl mt cd ls C0 hsz hK hW hl
  obtain ⟨hx, hb, hr, hml, hown, hts, hlocks, hnm⟩ := C0
  subst hsz
  have hown : sg.vm.findClass RX0 = some mi.cls := hown
  have hS : va_S (wd_A w sg.heap.size) sg.heap sg.heap [] := va_S.rf
  have hA : ∀ q, sg.heap.size ≤ q → wd_A w sg.heap.size q := fun q h => Or.inr h
  have hl : lv_has ls 3 [(0, .ref r), (1, .int p)] := hl
  refine lv_iload_n hx hb dX0_addUnitsOf_0 rfl (lv_at hl 1 rfl) ?_
  refine lv_ldc (v := 65536) hx hb hown (hts (.constant RX0 23 65536) (by decide +kernel)) dX0_addUnitsOf_1 ?_
  refine lv_icmp_ge (tgt := 12) hx hb dX0_addUnitsOf_3 (by decide) (fun c_3 => ?_) (fun c_3 => ?_)
  ·
    simp only [i_le, Decidable.not_not] at c_3
    refine lv_iload_n hx hb dX0_addUnitsOf_12 rfl (lv_at hl 1 rfl) ?_
    refine lv_ldc (v := 65536) hx hb hown (hts (.constant RX0 23 65536) (by decide +kernel)) dX0_addUnitsOf_13 ?_
    refine lv_isub hx hb dX0_addUnitsOf_15 ?_
    refine lv_istore_n (lv' := [(2, .int (p - 65536)), (0, .ref r), (1, .int p)]) hx hb dX0_addUnitsOf_16 rfl hl (by decide) rfl (fun ls hl => ?_)
    refine lv_aload_n hx hb dX0_addUnitsOf_17 rfl (lv_at hl 1 rfl) ?_
    refine lv_ldc (v := 55296) hx hb hown (hts (.constant RX0 24 55296) (by decide +kernel)) dX0_addUnitsOf_18 ?_
    refine lv_iload_n hx hb dX0_addUnitsOf_20 rfl (lv_at hl 0 rfl) ?_
    refine lv_sipush (v := 1024) hx hb dX0_addUnitsOf_21 (by decide) ?_
    refine lv_idiv hx hb dX0_addUnitsOf_24 (by decide) ?_
    refine lv_iadd hx hb dX0_addUnitsOf_25 ?_
    refine wd_callVv (As := [.int (55296 + ((p - 65536) / 1024))]) (rest := []) (c2 := 0) (s2 := 0) ⟨hx, hb, hml, hown, hts⟩ (k_X0_add l D cI cT w sg.heap.size r rI n X (55296 + ((p - 65536) / 1024)) hR) (cwV 1 hts gX0_addUnitsOf_X0_add rfl rfl rfl (by decide +kernel) ⟨Nat.le_of_ble_eq_true rfl, Nat.le_of_ble_eq_true rfl⟩) gK_ok hK hW (wd_recv (ci := 0) hK.1 hW rfl hR.1) hS hA rfl hl.1 rfl (Nat.le_of_ble_eq_true rfl) dX0_addUnitsOf_26 ⟨Nat.le_of_ble_eq_true rfl, Nat.le_of_ble_eq_true rfl⟩ rfl rfl (fun w_26 H locs hp_26 hW hz hS => ?_)
    subst w_26
    have hR_26 : rowAt (rowSet w r rI cI n (r_add n (55296 + ((p - 65536) / 1024)) X)) r rI cI n (r_add n (55296 + ((p - 65536) / 1024)) X) := rowSet_at hR.ne (r_add_le hR.2.2.1) hR.2.2.2
    refine lv_aload_n hx hb dX0_addUnitsOf_29 rfl (lv_at hl 1 rfl) ?_
    refine lv_ldc (v := 56320) hx hb hown (hts (.constant RX0 25 56320) (by decide +kernel)) dX0_addUnitsOf_30 ?_
    refine lv_iload_n hx hb dX0_addUnitsOf_32 rfl (lv_at hl 0 rfl) ?_
    refine lv_sipush (v := 1024) hx hb dX0_addUnitsOf_33 (by decide) ?_
    refine lv_irem hx hb dX0_addUnitsOf_36 (by decide) ?_
    refine lv_iadd hx hb dX0_addUnitsOf_37 ?_
    refine wd_callVv (As := [.int (56320 + ((p - 65536) - (p - 65536) / 1024 * 1024))]) (rest := []) (c2 := 0) (s2 := 0) ⟨hx, hb, hml, hown, hts⟩ (k_X0_add l D cI cT (rowSet w r rI cI n (r_add n (55296 + ((p - 65536) / 1024)) X)) H.size r rI n (r_add n (55296 + ((p - 65536) / 1024)) X) (56320 + ((p - 65536) - (p - 65536) / 1024 * 1024)) hR_26) (cwV 1 hts gX0_addUnitsOf_X0_add rfl rfl rfl (by decide +kernel) ⟨Nat.le_of_ble_eq_true rfl, Nat.le_of_ble_eq_true rfl⟩) gK_ok hK hW (wd_recv (ci := 0) hK.1 hW rfl hR_26.1) hS hA rfl hl.1 rfl (Nat.le_of_ble_eq_true rfl) dX0_addUnitsOf_38 ⟨Nat.le_of_ble_eq_true rfl, Nat.le_of_ble_eq_true rfl⟩ rfl rfl (fun w_38 H locs hp_38 hW hz hS => ?_)
    subst w_38
    rw [rowSet_twice] at hW
    have hR_38 : rowAt (rowSet w r rI cI n (r_add n (56320 + ((p - 65536) - (p - 65536) / 1024 * 1024)) (r_add n (55296 + ((p - 65536) / 1024)) X))) r rI cI n (r_add n (56320 + ((p - 65536) - (p - 65536) / 1024 * 1024)) (r_add n (55296 + ((p - 65536) / 1024)) X)) := rowSet_at hR_26.ne (r_add_le hR_26.2.2.1) hR_26.2.2.2
    refine wd_vret hx hb hr hlocks hW hS dX0_addUnitsOf_41 ?_
    show _ = _
    rw [r_uni, if_neg (by simpa using c_3)]
  ·
    simp only [i_le, Decidable.not_not] at c_3
    refine lv_aload_n hx hb dX0_addUnitsOf_6 rfl (lv_at hl 0 rfl) ?_
    refine lv_iload_n hx hb dX0_addUnitsOf_7 rfl (lv_at hl 1 rfl) ?_
    refine wd_callVv (As := [.int p]) (rest := []) (c2 := 0) (s2 := 0) ⟨hx, hb, hml, hown, hts⟩ (k_X0_add l D cI cT w sg.heap.size r rI n X p hR) (cwV 1 hts gX0_addUnitsOf_X0_add rfl rfl rfl (by decide +kernel) ⟨Nat.le_of_ble_eq_true rfl, Nat.le_of_ble_eq_true rfl⟩) gK_ok hK hW (wd_recv (ci := 0) hK.1 hW rfl hR.1) hS hA rfl hl.1 rfl (Nat.le_of_ble_eq_true rfl) dX0_addUnitsOf_8 ⟨Nat.le_of_ble_eq_true rfl, Nat.le_of_ble_eq_true rfl⟩ rfl rfl (fun w_8 H locs hp_8 hW hz hS => ?_)
    subst w_8
    have hR_8 : rowAt (rowSet w r rI cI n (r_add n p X)) r rI cI n (r_add n p X) := rowSet_at hR.ne (r_add_le hR.2.2.1) hR.2.2.2
    refine wd_vret hx hb hr hlocks hW hS dX0_addUnitsOf_11 ?_
    show _ = _
    rw [r_uni, if_pos (by simpa using c_3)]
set_option maxHeartbeats 4000000 in
set_option maxRecDepth 100000 in
theorem k_X0_addAll (l : Launch) (D : va_G) (cI cT : ClassId) (w : Wd) (sz : Nat) (r : Nat) (rI : Nat) (n : Nat) (X : Rw) (a : Nat) (len : Nat) (g : Nat → Int32) (hR : rowAt w r rI cI n X) (ha : w a = some (e_ints cI len g)) (hlen : len < 2 ^ 31) (hne : a ≠ rI) : wd_Mv l D vwCl (gK D cI cT) yX0_addAll wsX0_addAll (wd_rm 1 0 0) [.ref r, .ref a] w sz (fun w' => w' = rowSet w r rI cI n (r_all n g len X)) := by
  refine wd_met (cc := cX0_addAll) (maxL := 3) (ret := none) (by decide) rfl (Nat.le_of_ble_eq_true rfl) ?_
  intro pg ev sg mi bl mt cd ls C0 hsz hK hW hl
  obtain ⟨hx, hb, hr, hml, hown, hts, hlocks, hnm⟩ := C0
  subst hsz
  have hown : sg.vm.findClass RX0 = some mi.cls := hown
  have hS : va_S (wd_A w sg.heap.size) sg.heap sg.heap [] := va_S.rf
  have hA : ∀ q, sg.heap.size ≤ q → wd_A w sg.heap.size q := fun q h => Or.inr h
  have hl : lv_has ls 3 [(0, .ref r), (1, .ref a)] := hl
  refine lv_iconst (v := 0) hx hb dX0_addAll_0 (by decide) ?_
  refine lv_istore_n (lv' := [(2, .int 0), (0, .ref r), (1, .ref a)]) hx hb dX0_addAll_1 rfl hl (by decide) rfl (fun ls hl => ?_)
  refine wd_loop1 (fun (k : Nat) (H : Heap) (locs : List Loc) (ls : Array Slot) => k ≤ len ∧ wd_P D vwCl (wd_A w sg.heap.size) (rowSet w r rI cI n (r_all n g k X)) H ∧ va_S (wd_A w sg.heap.size) sg.heap H locs ∧ lv_has ls 3 [(0, .ref r), (1, .ref a), (2, .int (nI k))]) (fun (k : Nat) => len - k) 0 ⟨Nat.zero_le _, (by rw [show r_all n g 0 X = X from rfl, rowSet_self hR]; exact hW), hS, (lv_sub hl [1, 2, 0] rfl)⟩ (fun k H locs ls hI ih => ?_)
  obtain ⟨hk, hW, hS, hl⟩ := hI
  have hRk : rowAt (rowSet w r rI cI n (r_all n g k X)) r rI cI n (r_all n g k X) := rowSet_at hR.ne (r_all_le hR.2.2.1) hR.2.2.2
  have fo_a_k : (rowSet w r rI cI n (r_all n g k X)) a = some (.inl (cI, len, .inl g)) := (rowSet_ne (wd_ne ha hR.1 (by intro h9; cases h9)) hne).trans ha
  refine lv_iload_n hx hb dX0_addAll_2 rfl (lv_at hl 2 rfl) ?_
  refine lv_aload_n hx hb dX0_addAll_3 rfl (lv_at hl 1 rfl) ?_
  refine wd_alen hx hb hK.1 hW 0 fo_a_k rfl dX0_addAll_4 ?_
  refine lv_icmp_ge (tgt := 21) hx hb dX0_addAll_5 (by decide) (fun c_5 => ?_) (fun c_5 => ?_)
  ·
    have c_5 : len ≤ k := (nI_leI (by omega) (by omega)).mp (show (nI len ≤ nI k) from c_5)
    refine wd_vret hx hb hr hlocks hW hS dX0_addAll_21 ?_
    show _ = _
    rw [show len = k by omega]
  ·
    have c_5 : ¬ (len ≤ k) := fun q9 => absurd ((nI_leI (by omega) (by omega)).mpr q9) (show ¬ (nI len ≤ nI k) from c_5)
    refine lv_aload_n hx hb dX0_addAll_8 rfl (lv_at hl 0 rfl) ?_
    refine lv_aload_n hx hb dX0_addAll_9 rfl (lv_at hl 1 rfl) ?_
    refine lv_iload_n hx hb dX0_addAll_10 rfl (lv_at hl 2 rfl) ?_
    refine wd_iald hx hb hK.1 hW 0 fo_a_k rfl (vp_in_nI (by omega) (by omega)) dX0_addAll_11 ?_
    refine wd_topE (y := g k) (by rw [nI_clamp (by omega)]) ?_
    refine wd_callVv (As := [.int (g k)]) (rest := []) (c2 := 0) (s2 := 0) ⟨hx, hb, hml, hown, hts⟩ (k_X0_add l D cI cT (rowSet w r rI cI n (r_all n g k X)) H.size r rI n (r_all n g k X) (g k) hRk) (cwV 1 hts gX0_addAll_X0_add rfl rfl rfl (by decide +kernel) ⟨Nat.le_of_ble_eq_true rfl, Nat.le_of_ble_eq_true rfl⟩) gK_ok hK hW (wd_recv (ci := 0) hK.1 hW rfl hRk.1) hS hA rfl hl.1 rfl (Nat.le_of_ble_eq_true rfl) dX0_addAll_12 ⟨Nat.le_of_ble_eq_true rfl, Nat.le_of_ble_eq_true rfl⟩ rfl rfl (fun w_12 H locs hp_12 hW hz hS => ?_)
    subst w_12
    rw [rowSet_twice] at hW
    have hR_12 : rowAt (rowSet w r rI cI n (r_add n (g k) (r_all n g k X))) r rI cI n (r_add n (g k) (r_all n g k X)) := rowSet_at hRk.ne (r_add_le hRk.2.2.1) hRk.2.2.2
    have fo_a_12 : (rowSet w r rI cI n (r_add n (g k) (r_all n g k X))) a = some (.inl (cI, len, .inl g)) := (rowSet_ne (wd_ne ha hR.1 (by intro h9; cases h9)) hne).trans ha
    refine lv_iinc (v := nI (k + 1)) (lv' := [(2, .int (nI (k + 1))), (0, .ref r), (1, .ref a)]) hx hb dX0_addAll_15 hl (k := 2) rfl (nI_add k 1) (by decide) rfl (fun ls hl => ?_)
    refine lv_goto (tgt := 2) hx hb dX0_addAll_18 (by decide) ?_
    exact ih (k + 1) H locs ls ⟨(by omega), hW, hS, (lv_sub hl [1, 2, 0] rfl)⟩ (by omega)
end
section
/-! A Text of the class: an object and its array of ints -/
abbrev e_text (kd : Int32) (tI : Nat) : va_E := .inr (1, [.int kd, .ref tI])
def txtAt (w : Wd) (tx tI : Nat) (cI : ClassId) (kd : Int32) (len : Nat) (g : Nat → Int32) : Prop := w tx = some (e_text kd tI) ∧ w tI = some (e_ints cI len g) ∧ len ≤ 240
theorem wd_loop4 {p : Program} {l : Launch} {e : Env} {R : Room} {s : State} {m : MethodId} {args : Array Value} {below : List Frame} {meth : Method} {c : Code} {H : Heap} {locs : List Loc} {cells slots : Nat} {Q : State → Prop} {pc : Nat} {ls : Array Slot} {rest : List Value} {A1 A2 A3 A4 : Type} (I : A1 → A2 → A3 → A4 → Heap → List Loc → Array Slot → Prop) (μ : A1 → A2 → A3 → A4 → Nat) (a1 : A1) (a2 : A2) (a3 : A3) (a4 : A4) (h0 : I a1 a2 a3 a4 H locs ls)
    (hs : ∀ (x1 : A1) (x2 : A2) (x3 : A3) (x4 : A4) (H : Heap) (locs : List Loc) (ls : Array Slot), I x1 x2 x3 x4 H locs ls → (∀ (y1 : A1) (y2 : A2) (y3 : A3) (y4 : A4) (H : Heap) (locs : List Loc) (ls : Array Slot), I y1 y2 y3 y4 H locs ls → μ y1 y2 y3 y4 < μ x1 x2 x3 x4 → W p l e R s m args below meth c H locs cells slots Q (F0 m pc ls rest)) → W p l e R s m args below meth c H locs cells slots Q (F0 m pc ls rest)) : W p l e R s m args below meth c H locs cells slots Q (F0 m pc ls rest) :=
  wd_loop1 (fun (x : A1 × A2 × A3 × A4) => I x.1 x.2.1 x.2.2.1 x.2.2.2) (fun x => μ x.1 x.2.1 x.2.2.1 x.2.2.2) (a1, a2, a3, a4) h0 (fun x H locs ls hI ih => hs x.1 x.2.1 x.2.2.1 x.2.2.2 H locs ls hI (fun y1 y2 y3 y4 => ih (y1, y2, y3, y4)))
theorem j_srch_hit {P : Nat → Prop} [DecidablePred P] {m k : Nat} (h : P k) (hm : 0 < m) : j_srch P m k = nI k := by
  cases m with
  | zero => omega
  | succ m => rw [j_srch, if_pos h]
theorem j_srch_miss {P : Nat → Prop} [DecidablePred P] {m k : Nat} (h : ¬ P k) (hm : 0 < m) : j_srch P m k = j_srch P (m - 1) (k + 1) := by
  cases m with
  | zero => omega
  | succ m => rw [j_srch, if_neg h]; rfl
theorem j_srch_0 {P : Nat → Prop} [DecidablePred P] {m k : Nat} (hm : m = 0) : j_srch P m k = -1 := by subst hm; rfl
theorem j_r2_out {n : Nat} {g : Nat → Int32} {len : Nat} {form : Int32} {m k : Nat} {Y : Rw} (h : len ≤ k ∨ 60 < Y.2) : j_r2 n g len form m k Y = (-1, Y) := by
  cases m with
  | zero => rfl
  | succ m => rw [j_r2, if_neg (by omega)]
theorem j_r2_end {n : Nat} {g : Nat → Int32} {len : Nat} {form : Int32} {m k : Nat} {Y : Rw} (h1 : k < len) (h2 : Y.2 ≤ 60) (h3 : k + 1 = len) (hm : 0 < m) : j_r2 n g len form m k Y = (nI k, Y) := by
  cases m with
  | zero => omega
  | succ m => rw [j_r2, if_pos ⟨h1, h2⟩, if_pos h3]
theorem j_r2_go {n : Nat} {g : Nat → Int32} {len : Nat} {form : Int32} {m k : Nat} {Y : Rw} (h1 : k < len) (h2 : Y.2 ≤ 60) (h3 : k + 1 ≠ len) (hm : 0 < m) : j_r2 n g len form m k Y = j_r2 n g len form (m - 1) (k + 2) (r_add n ((if form = 1 then g k else g (k + 1)) * 256 + (if form = 1 then g (k + 1) else g k)) Y) := by
  cases m with
  | zero => omega
  | succ m => rw [j_r2, if_pos ⟨h1, h2⟩, if_neg h3]; rfl
theorem j_rm_out {n : Nat} {g : Nat → Int32} {len m k : Nat} {nx : Int32} {Y : Rw} (h : len ≤ k ∨ 60 < Y.2) : j_rm n g len m k nx Y = (-1, Y) := by
  cases m with
  | zero => rfl
  | succ m => rw [j_rm, if_neg (by omega)]
theorem j_rm_skip {n : Nat} {g : Nat → Int32} {len m k : Nat} {nx : Int32} {Y : Rw} (h1 : k < len) (h2 : Y.2 ≤ 60) (h3 : nI k < nx) (hm : 0 < m) : j_rm n g len m k nx Y = j_rm n g len (m - 1) (k + 1) nx Y := by
  cases m with
  | zero => omega
  | succ m => rw [j_rm, if_pos ⟨h1, h2⟩, if_neg (by rw [i_le]; simpa using h3)]; rfl
theorem j_rm_bad {n : Nat} {g : Nat → Int32} {len m k : Nat} {nx : Int32} {Y : Rw} (h1 : k < len) (h2 : Y.2 ≤ 60) (h3 : ¬ nI k < nx) (h4 : j_pf g len k = -1) (hm : 0 < m) : j_rm n g len m k nx Y = (nI k, Y) := by
  cases m with
  | zero => omega
  | succ m => rw [j_rm, if_pos ⟨h1, h2⟩, if_pos (by rw [i_le]; exact h3), if_pos h4]
theorem j_rm_go {n : Nat} {g : Nat → Int32} {len m k : Nat} {nx : Int32} {Y : Rw} (h1 : k < len) (h2 : Y.2 ≤ 60) (h3 : ¬ nI k < nx) (h4 : j_pf g len k ≠ -1) (hm : 0 < m) : j_rm n g len m k nx Y = j_rm n g len (m - 1) (k + 1) (nI k + j_bc (g k)) (r_uni n (j_pf g len k) Y) := by
  cases m with
  | zero => omega
  | succ m => rw [j_rm, if_pos ⟨h1, h2⟩, if_pos (by rw [i_le]; exact h3), if_neg h4]; rfl
theorem j_pfl_out {g : Nat → Int32} {len : Nat} {lim : Int32} {q m : Nat} {p : Int32} (h : ¬ nI m < lim ∨ len ≤ m) : j_pfl g len lim q m p = some p := by
  cases q with
  | zero => rfl
  | succ q => rw [j_pfl, if_neg (fun h9 => by rcases h with h | h; exact h h9.1; exact absurd h9.2 (by omega))]
theorem j_pfl_bad {g : Nat → Int32} {len : Nat} {lim : Int32} {q m : Nat} {p : Int32} (h1 : nI m < lim) (h2 : m < len) (h3 : g m < 128 ∨ 191 < g m) (hq : 0 < q) : j_pfl g len lim q m p = none := by
  cases q with
  | zero => omega
  | succ q => rw [j_pfl, if_pos ⟨h1, h2⟩, if_pos h3]
theorem j_pfl_go {g : Nat → Int32} {len : Nat} {lim : Int32} {q m : Nat} {p : Int32} (h1 : nI m < lim) (h2 : m < len) (h3 : ¬ (g m < 128 ∨ 191 < g m)) (hq : 0 < q) : j_pfl g len lim q m p = j_pfl g len lim (q - 1) (m + 1) (p * 64 + (g m - 128)) := by
  cases q with
  | zero => omega
  | succ q => rw [j_pfl, if_pos ⟨h1, h2⟩, if_neg h3]; rfl
theorem j_cmp_eq {f g : Nat → Int32} {m k : Nat} (h : f k = g k) (hm : 0 < m) : j_cmp f g m k = j_cmp f g (m - 1) (k + 1) := by
  cases m with
  | zero => omega
  | succ m => rw [j_cmp, if_pos h]; rfl
theorem j_cmp_ne {f g : Nat → Int32} {m k : Nat} (h : ¬ f k = g k) (hm : 0 < m) : j_cmp f g m k = some (if f k < g k then -1 else 1) := by
  cases m with
  | zero => omega
  | succ m => rw [j_cmp, if_neg h]
theorem j_beyond_spec {len pn : Nat} {k : Int32} (hl : len ≤ 240) (hp : pn ≤ 240) (h : ¬ j_beyond len k (nI pn)) : ∃ k' : Nat, k = nI k' ∧ k' + pn ≤ len := by
  simp only [j_beyond, not_or] at h
  obtain ⟨h1, h2, h3, h4⟩ := h
  obtain ⟨j, hj, rfl⟩ := nI_of h1
  refine ⟨j, rfl, ?_⟩
  rw [i_lt, nI_toInt (by omega), nI_toInt hj] at h3
  rw [pk_sub (by omega), i_lt, nI_toInt (by omega), nI_toInt (by omega)] at h4
  omega
theorem r_tu1_le {n : Nat} {form x : Int32} {Y : Rw} (h : Y.2 ≤ n) : (r_tu1 n form x Y).2 ≤ n := r_add_le (r_add_le h)
theorem r_mb_le {n : Nat} {p : Int32} {Y : Rw} (h : Y.2 ≤ n) : (r_mb n p Y).2 ≤ n := by
  unfold r_mb
  split
  · exact r_add_le h
  · split
    · exact r_add_le (r_add_le h)
    · split
      · exact r_add_le (r_add_le (r_add_le h))
      · exact r_add_le (r_add_le (r_add_le (r_add_le h)))
theorem j_r2_le {n : Nat} {g : Nat → Int32} {len : Nat} {form : Int32} : ∀ (m k : Nat) (Y : Rw), Y.2 ≤ n → (j_r2 n g len form m k Y).2.2 ≤ n
  | 0, _, _, h => h
  | m + 1, k, Y, h => by
    rw [j_r2]
    split
    · split
      · exact h
      · exact j_r2_le m _ _ (r_add_le h)
    · exact h
theorem j_rm_le {n : Nat} {g : Nat → Int32} {len : Nat} : ∀ (m k : Nat) (nx : Int32) (Y : Rw), Y.2 ≤ n → (j_rm n g len m k nx Y).2.2 ≤ n
  | 0, _, _, _, h => h
  | m + 1, k, nx, Y, h => by
    rw [j_rm]
    split
    · split
      · split
        · exact h
        · exact j_rm_le m _ _ _ (r_uni_le h)
      · exact j_rm_le m _ _ _ h
    · exact h
theorem j_ru_le {n : Nat} {g : Nat → Int32} {len : Nat} {form : Int32} {X : Rw} : (j_ru n g len form X).2.2 ≤ n := by
  unfold j_ru
  split
  · exact j_rm_le _ _ _ _ r_nil_le
  · split
    · exact r_all_le r_nil_le
    · exact j_r2_le _ _ _ r_nil_le
end
section
set_option maxHeartbeats 4000000 in
set_option maxRecDepth 100000 in
theorem k_X0_addPointsOf (l : Launch) (D : va_G) (cI cT : ClassId) (w : Wd) (sz : Nat) (r : Nat) (rI : Nat) (n : Nat) (X : Rw) (a : Nat) (len : Nat) (g : Nat → Int32) (mm : Nat) (hR : rowAt w r rI cI n X) (ha : w a = some (e_ints cI len g)) (hlen : len < 2 ^ 31) (hne : a ≠ rI) (hmm : mm < 2 ^ 31) : wd_Mv l D vwCl (gK D cI cT) yX0_addPointsOf wsX0_addPointsOf (wd_rm 2 0 0) [.ref r, .ref a, .int (nI mm)] w sz (fun w' => w' = rowSet w r rI cI n (r_pts n g len mm X)) := by
  refine wd_met (cc := cX0_addPointsOf) (maxL := 4) (ret := none) (by decide) rfl (Nat.le_of_ble_eq_true rfl) ?_
  intro pg ev sg mi bl mt cd ls C0 hsz hK hW hl
  obtain ⟨hx, hb, hr, hml, hown, hts, hlocks, hnm⟩ := C0
  subst hsz
  have hown : sg.vm.findClass RX0 = some mi.cls := hown
  have hS : va_S (wd_A w sg.heap.size) sg.heap sg.heap [] := va_S.rf
  have hA : ∀ q, sg.heap.size ≤ q → wd_A w sg.heap.size q := fun q h => Or.inr h
  have hl : lv_has ls 4 [(0, .ref r), (1, .ref a), (2, .int (nI mm))] := hl
  refine lv_iconst (v := 0) hx hb dX0_addPointsOf_0 (by decide) ?_
  refine lv_istore_n (lv' := [(3, .int 0), (0, .ref r), (1, .ref a), (2, .int (nI mm))]) hx hb dX0_addPointsOf_1 rfl hl (by decide) rfl (fun ls hl => ?_)
  refine wd_loop1 (fun (k : Nat) (H : Heap) (locs : List Loc) (ls : Array Slot) => k ≤ min mm len ∧ wd_P D vwCl (wd_A w sg.heap.size) (rowSet w r rI cI n (itN (r_pt1 n g len (nI mm)) k X)) H ∧ va_S (wd_A w sg.heap.size) sg.heap H locs ∧ lv_has ls 4 [(0, .ref r), (1, .ref a), (2, .int (nI mm)), (3, .int (nI k))]) (fun (k : Nat) => mm - k) 0 ⟨Nat.zero_le _, (by rw [show itN (r_pt1 n g len (nI mm)) 0 X = X from rfl, rowSet_self hR]; exact hW), hS, (lv_sub hl [1, 2, 3, 0] rfl)⟩ (fun k H locs ls hI ih => ?_)
  obtain ⟨hk, hW, hS, hl⟩ := hI
  have hRk : rowAt (rowSet w r rI cI n (itN (r_pt1 n g len (nI mm)) k X)) r rI cI n (itN (r_pt1 n g len (nI mm)) k X) := rowSet_at hR.ne (itN_le (fun _ _ h => r_pt1_le h) _ _ hR.2.2.1) hR.2.2.2
  have fo_a_k : (rowSet w r rI cI n (itN (r_pt1 n g len (nI mm)) k X)) a = some (.inl (cI, len, .inl g)) := (rowSet_ne (wd_ne ha hR.1 (by intro h9; cases h9)) hne).trans ha
  refine lv_iload_n hx hb dX0_addPointsOf_2 rfl (lv_at hl 3 rfl) ?_
  refine lv_iload_n hx hb dX0_addPointsOf_3 rfl (lv_at hl 2 rfl) ?_
  refine lv_icmp_ge (tgt := 58) hx hb dX0_addPointsOf_4 (by decide) (fun c_4 => ?_) (fun c_4 => ?_)
  ·
    have c_4 : mm ≤ k := (nI_leI (by omega) (by omega)).mp (show (nI mm ≤ nI k) from c_4)
    refine wd_vret hx hb hr hlocks hW hS dX0_addPointsOf_58 ?_
    show _ = _
    rw [r_pts, show min mm len = k by omega]
  ·
    have c_4 : ¬ (mm ≤ k) := fun q9 => absurd ((nI_leI (by omega) (by omega)).mpr q9) (show ¬ (nI mm ≤ nI k) from c_4)
    refine lv_iload_n hx hb dX0_addPointsOf_7 rfl (lv_at hl 3 rfl) ?_
    refine lv_aload_n hx hb dX0_addPointsOf_8 rfl (lv_at hl 1 rfl) ?_
    refine wd_alen hx hb hK.1 hW 0 fo_a_k rfl dX0_addPointsOf_9 ?_
    refine lv_icmp_ge (tgt := 58) hx hb dX0_addPointsOf_10 (by decide) (fun c_10 => ?_) (fun c_10 => ?_)
    ·
      have c_10 : len ≤ k := (nI_leI (by omega) (by omega)).mp (show (nI len ≤ nI k) from c_10)
      refine wd_vret hx hb hr hlocks hW hS dX0_addPointsOf_58 ?_
      show _ = _
      rw [r_pts, show min mm len = k by omega]
    ·
      have c_10 : ¬ (len ≤ k) := fun q9 => absurd ((nI_leI (by omega) (by omega)).mpr q9) (show ¬ (nI len ≤ nI k) from c_10)
      refine lv_aload_n hx hb dX0_addPointsOf_13 rfl (lv_at hl 1 rfl) ?_
      refine lv_iload_n hx hb dX0_addPointsOf_14 rfl (lv_at hl 2 rfl) ?_
      refine lv_iload_n hx hb dX0_addPointsOf_15 rfl (lv_at hl 3 rfl) ?_
      refine lv_iconst (v := 1) hx hb dX0_addPointsOf_16 (by decide) ?_
      refine lv_iadd hx hb dX0_addPointsOf_17 ?_
      refine wd_callSNi (As := [.ref a, .int (nI mm), .int ((nI k) + 1)]) (rest := []) (c2 := 0) (s2 := 0) ⟨hx, hb, hml, hown, hts⟩ (k_X2_isInsidePair l D cI cT (rowSet w r rI cI n (itN (r_pt1 n g len (nI mm)) k X)) H.size a len g (nI mm) ((nI k) + 1) fo_a_k (by omega)) ⟨va_cnB 3 hts gX0_addPointsOf_X2_isInsidePair_n26 rfl rfl rfl hK.2.2.1 (hts (.initialized RX2) (by decide +kernel)) (by decide +kernel) ⟨Nat.le_of_ble_eq_true rfl, Nat.le_of_ble_eq_true rfl⟩, hts (.static yX2_isInsidePair) (by decide +kernel), trivial⟩ gK_ok hK hW hS hA rfl hl.1 rfl (Nat.le_of_ble_eq_true rfl) dX0_addPointsOf_18 ⟨Nat.le_of_ble_eq_true rfl, Nat.le_of_ble_eq_true rfl⟩ rfl rfl (fun r_18 w_18 H locs hp_18 hW hz hS => ?_)
      obtain ⟨q_r, q_w⟩ := hp_18
      subst r_18
      subst w_18
      refine lv_if_eq (tgt := 36) hx hb dX0_addPointsOf_21 (by decide) (fun c_21 => ?_) (fun c_21 => ?_)
      ·
        have c_21 := j_b0 c_21
        refine lv_aload_n hx hb dX0_addPointsOf_36 rfl (lv_at hl 1 rfl) ?_
        refine lv_iload_n hx hb dX0_addPointsOf_37 rfl (lv_at hl 2 rfl) ?_
        refine lv_iload_n hx hb dX0_addPointsOf_38 rfl (lv_at hl 3 rfl) ?_
        refine wd_callSNi (As := [.ref a, .int (nI mm), .int (nI k)]) (rest := []) (c2 := 0) (s2 := 0) ⟨hx, hb, hml, hown, hts⟩ (k_X2_isInsidePair l D cI cT (rowSet w r rI cI n (itN (r_pt1 n g len (nI mm)) k X)) H.size a len g (nI mm) (nI k) fo_a_k (by omega)) ⟨va_cnB 3 hts gX0_addPointsOf_X2_isInsidePair_n26 rfl rfl rfl hK.2.2.1 (hts (.initialized RX2) (by decide +kernel)) (by decide +kernel) ⟨Nat.le_of_ble_eq_true rfl, Nat.le_of_ble_eq_true rfl⟩, hts (.static yX2_isInsidePair) (by decide +kernel), trivial⟩ gK_ok hK hW hS hA rfl hl.1 rfl (Nat.le_of_ble_eq_true rfl) dX0_addPointsOf_39 ⟨Nat.le_of_ble_eq_true rfl, Nat.le_of_ble_eq_true rfl⟩ rfl rfl (fun r_39 w_39 H locs hp_39 hW hz hS => ?_)
        obtain ⟨q_r, q_w⟩ := hp_39
        subst r_39
        subst w_39
        refine lv_if_ne (tgt := 52) hx hb dX0_addPointsOf_42 (by decide) (fun c_42 => ?_) (fun c_42 => ?_)
        ·
          have c_42 := j_bn c_42
          refine lv_iinc (v := nI (k + 1)) (lv' := [(3, .int (nI (k + 1))), (0, .ref r), (1, .ref a), (2, .int (nI mm))]) hx hb dX0_addPointsOf_52 hl (k := 3) rfl (nI_add k 1) (by decide) rfl (fun ls hl => ?_)
          refine lv_goto (tgt := 2) hx hb dX0_addPointsOf_55 (by decide) ?_
          exact ih (k + 1) H locs ls ⟨(by omega), (by rw [show itN (r_pt1 n g len (nI mm)) (k + 1) X = itN (r_pt1 n g len (nI mm)) k X from by (show r_pt1 n g len (nI mm) k _ = _; rw [r_pt1, if_neg c_21, if_pos c_42])]; exact hW), hS, (lv_sub hl [1, 2, 3, 0] rfl)⟩ (by omega)
        ·
          have c_42 := j_b0 c_42
          refine lv_aload_n hx hb dX0_addPointsOf_45 rfl (lv_at hl 0 rfl) ?_
          refine lv_aload_n hx hb dX0_addPointsOf_46 rfl (lv_at hl 1 rfl) ?_
          refine lv_iload_n hx hb dX0_addPointsOf_47 rfl (lv_at hl 3 rfl) ?_
          refine wd_iald hx hb hK.1 hW 0 fo_a_k rfl (vp_in_nI (by omega) (by omega)) dX0_addPointsOf_48 ?_
          refine wd_topE (y := g k) (by rw [nI_clamp (by omega)]) ?_
          refine wd_callVv (As := [.int (g k)]) (rest := []) (c2 := 0) (s2 := 0) ⟨hx, hb, hml, hown, hts⟩ (k_X0_add l D cI cT (rowSet w r rI cI n (itN (r_pt1 n g len (nI mm)) k X)) H.size r rI n (itN (r_pt1 n g len (nI mm)) k X) (g k) hRk) (cwV 1 hts gX0_addPointsOf_X0_add rfl rfl rfl (by decide +kernel) ⟨Nat.le_of_ble_eq_true rfl, Nat.le_of_ble_eq_true rfl⟩) gK_ok hK hW (wd_recv (ci := 0) hK.1 hW rfl hRk.1) hS hA rfl hl.1 rfl (Nat.le_of_ble_eq_true rfl) dX0_addPointsOf_49 ⟨Nat.le_of_ble_eq_true rfl, Nat.le_of_ble_eq_true rfl⟩ rfl rfl (fun w_49 H locs hp_49 hW hz hS => ?_)
          subst w_49
          rw [rowSet_twice] at hW
          have hR_49 : rowAt (rowSet w r rI cI n (r_add n (g k) (itN (r_pt1 n g len (nI mm)) k X))) r rI cI n (r_add n (g k) (itN (r_pt1 n g len (nI mm)) k X)) := rowSet_at hRk.ne (r_add_le hRk.2.2.1) hRk.2.2.2
          have fo_a_49 : (rowSet w r rI cI n (r_add n (g k) (itN (r_pt1 n g len (nI mm)) k X))) a = some (.inl (cI, len, .inl g)) := (rowSet_ne (wd_ne ha hR.1 (by intro h9; cases h9)) hne).trans ha
          refine lv_iinc (v := nI (k + 1)) (lv' := [(3, .int (nI (k + 1))), (0, .ref r), (1, .ref a), (2, .int (nI mm))]) hx hb dX0_addPointsOf_52 hl (k := 3) rfl (nI_add k 1) (by decide) rfl (fun ls hl => ?_)
          refine lv_goto (tgt := 2) hx hb dX0_addPointsOf_55 (by decide) ?_
          exact ih (k + 1) H locs ls ⟨(by omega), (by rw [show itN (r_pt1 n g len (nI mm)) (k + 1) X = r_add n (g k) (itN (r_pt1 n g len (nI mm)) k X) from by (show r_pt1 n g len (nI mm) k _ = _; rw [r_pt1, if_neg c_21, if_neg c_42])]; exact hW), hS, (lv_sub hl [1, 2, 3, 0] rfl)⟩ (by omega)
      ·
        have c_21 := j_bn c_21
        refine lv_aload_n hx hb dX0_addPointsOf_24 rfl (lv_at hl 0 rfl) ?_
        refine lv_aload_n hx hb dX0_addPointsOf_25 rfl (lv_at hl 1 rfl) ?_
        refine lv_iload_n hx hb dX0_addPointsOf_26 rfl (lv_at hl 3 rfl) ?_
        refine wd_callSNi (As := [.ref a, .int (nI k)]) (rest := [.ref r]) (c2 := 0) (s2 := 0) ⟨hx, hb, hml, hown, hts⟩ (k_X2_pairedPoint l D cI cT (rowSet w r rI cI n (itN (r_pt1 n g len (nI mm)) k X)) H.size a len g (nI k) fo_a_k (by omega)) ⟨va_cnB 2 hts gX0_addPointsOf_X2_pairedPoint_n30 rfl rfl rfl hK.2.2.2.1 (hts (.initialized RX2) (by decide +kernel)) (by decide +kernel) ⟨Nat.le_of_ble_eq_true rfl, Nat.le_of_ble_eq_true rfl⟩, hts (.static yX2_pairedPoint) (by decide +kernel), trivial⟩ gK_ok hK hW hS hA rfl hl.1 rfl (Nat.le_of_ble_eq_true rfl) dX0_addPointsOf_27 ⟨Nat.le_of_ble_eq_true rfl, Nat.le_of_ble_eq_true rfl⟩ rfl rfl (fun r_27 w_27 H locs hp_27 hW hz hS => ?_)
        obtain ⟨q_r, q_w⟩ := hp_27
        subst r_27
        subst w_27
        refine wd_callVv (As := [.int (j_pp g len (nI k))]) (rest := []) (c2 := 0) (s2 := 0) ⟨hx, hb, hml, hown, hts⟩ (k_X0_add l D cI cT (rowSet w r rI cI n (itN (r_pt1 n g len (nI mm)) k X)) H.size r rI n (itN (r_pt1 n g len (nI mm)) k X) (j_pp g len (nI k)) hRk) (cwV 1 hts gX0_addPointsOf_X0_add rfl rfl rfl (by decide +kernel) ⟨Nat.le_of_ble_eq_true rfl, Nat.le_of_ble_eq_true rfl⟩) gK_ok hK hW (wd_recv (ci := 0) hK.1 hW rfl hRk.1) hS hA rfl hl.1 rfl (Nat.le_of_ble_eq_true rfl) dX0_addPointsOf_30 ⟨Nat.le_of_ble_eq_true rfl, Nat.le_of_ble_eq_true rfl⟩ rfl rfl (fun w_30 H locs hp_30 hW hz hS => ?_)
        subst w_30
        rw [rowSet_twice] at hW
        have hR_30 : rowAt (rowSet w r rI cI n (r_add n (j_pp g len (nI k)) (itN (r_pt1 n g len (nI mm)) k X))) r rI cI n (r_add n (j_pp g len (nI k)) (itN (r_pt1 n g len (nI mm)) k X)) := rowSet_at hRk.ne (r_add_le hRk.2.2.1) hRk.2.2.2
        have fo_a_30 : (rowSet w r rI cI n (r_add n (j_pp g len (nI k)) (itN (r_pt1 n g len (nI mm)) k X))) a = some (.inl (cI, len, .inl g)) := (rowSet_ne (wd_ne ha hR.1 (by intro h9; cases h9)) hne).trans ha
        refine lv_goto (tgt := 52) hx hb dX0_addPointsOf_33 (by decide) ?_
        refine lv_iinc (v := nI (k + 1)) (lv' := [(3, .int (nI (k + 1))), (0, .ref r), (1, .ref a), (2, .int (nI mm))]) hx hb dX0_addPointsOf_52 hl (k := 3) rfl (nI_add k 1) (by decide) rfl (fun ls hl => ?_)
        refine lv_goto (tgt := 2) hx hb dX0_addPointsOf_55 (by decide) ?_
        exact ih (k + 1) H locs ls ⟨(by omega), (by rw [show itN (r_pt1 n g len (nI mm)) (k + 1) X = r_add n (j_pp g len (nI k)) (itN (r_pt1 n g len (nI mm)) k X) from by (show r_pt1 n g len (nI mm) k _ = _; rw [r_pt1, if_pos c_21])]; exact hW), hS, (lv_sub hl [1, 2, 3, 0] rfl)⟩ (by omega)
set_option maxHeartbeats 4000000 in
set_option maxRecDepth 100000 in
theorem k_X2_partsPair (l : Launch) (D : va_G) (cI cT : ClassId) (w : Wd) (sz : Nat) (tx : Nat) (tI : Nat) (kd : Int32) (len : Nat) (g : Nat → Int32) (k : Int32) (hT : txtAt w tx tI cI kd len g) : wd_Mi l D vwCl (gK D cI cT) yX2_partsPair wsX2_partsPair (wd_rm 2 0 0) [.ref tx, .int k] w sz (fun r w' => r = j_b (j_parts kd g len k) ∧ w' = w) := by
  refine wd_met (cc := cX2_partsPair) (maxL := 2) (ret := (some .boolean)) (by decide) rfl (Nat.le_of_ble_eq_true rfl) ?_
  intro pg ev sg mi bl mt cd ls C0 hsz hK hW hl
  obtain ⟨hx, hb, hr, hml, hown, hts, hlocks, hnm⟩ := C0
  subst hsz
  have hown : sg.vm.findClass RX2 = some mi.cls := hown
  have hS : va_S (wd_A w sg.heap.size) sg.heap sg.heap [] := va_S.rf
  have hA : ∀ q, sg.heap.size ≤ q → wd_A w sg.heap.size q := fun q h => Or.inr h
  have hl : lv_has ls 2 [(0, .ref tx), (1, .int k)] := hl
  have hlen := hT.2.2
  refine lv_aload_n hx hb dX2_partsPair_0 rfl (lv_at hl 0 rfl) ?_
  refine wd_get (ci := 1) (v := .int kd) (C := RX1) (T := TX1) (N := 2) hx hb hts (by decide +kernel) hown hK.1 hW hT.1 rfl 0 (by decide) (hts (.fieldLink RX2 94 "CharRows$Text" "kindOfItems" "I") (by decide +kernel)) (fun _ h9 => h9) rfl dX2_partsPair_1 ?_
  refine lv_if_ne (tgt := 27) hx hb dX2_partsPair_4 (by decide) (fun c_4 => ?_) (fun c_4 => ?_)
  ·
    refine lv_iconst (v := 0) hx hb dX2_partsPair_27 (by decide) ?_
    refine wd_zret hx hb hr hlocks (Or.inl rfl) hW hS dX2_partsPair_28 ?_
    exact ⟨by first | (simp [j_b, j_parts, c_4]; done) | (simp only [j_b, j_parts, i_le]; simp [c_4]; done) | (exfalso; simp_all; done) | (simp only [j_parts, j_b]; simp_all), rfl⟩
  ·
    refine lv_aload_n hx hb dX2_partsPair_7 rfl (lv_at hl 0 rfl) ?_
    refine wd_get (ci := 1) (v := .ref tI) (C := RX1) (T := TX1) (N := 2) hx hb hts (by decide +kernel) hown hK.1 hW hT.1 rfl 1 (by decide) (hts (.fieldLink RX2 93 "CharRows$Text" "items" "[I") (by decide +kernel)) (fun _ h9 => h9) rfl dX2_partsPair_8 ?_
    refine lv_aload_n hx hb dX2_partsPair_11 rfl (lv_at hl 0 rfl) ?_
    refine wd_get (ci := 1) (v := .ref tI) (C := RX1) (T := TX1) (N := 2) hx hb hts (by decide +kernel) hown hK.1 hW hT.1 rfl 1 (by decide) (hts (.fieldLink RX2 93 "CharRows$Text" "items" "[I") (by decide +kernel)) (fun _ h9 => h9) rfl dX2_partsPair_12 ?_
    refine wd_alen hx hb hK.1 hW 0 hT.2.1 rfl dX2_partsPair_15 ?_
    refine lv_iload_n hx hb dX2_partsPair_16 rfl (lv_at hl 1 rfl) ?_
    refine wd_callSi (As := [.ref tI, .int (nI len), .int k]) (rest := []) (c2 := 0) (s2 := 0) ⟨hx, hb, hml, hown, hts⟩ (k_X2_isInsidePair l D cI cT w sg.heap.size tI len g (nI len) k hT.2.1 (by omega)) (va_cwS 3 hts gX2_partsPair_X2_isInsidePair rfl rfl rfl (by decide +kernel) ⟨Nat.le_of_ble_eq_true rfl, Nat.le_of_ble_eq_true rfl⟩) gK_ok hK hW hS hA rfl hl.1 rfl (Nat.le_of_ble_eq_true rfl) dX2_partsPair_17 ⟨Nat.le_of_ble_eq_true rfl, Nat.le_of_ble_eq_true rfl⟩ rfl rfl (fun r_17 w_17 H locs hp_17 hW hz hS => ?_)
    obtain ⟨q_r, q_w⟩ := hp_17
    subst r_17
    subst w_17
    refine lv_if_eq (tgt := 27) hx hb dX2_partsPair_20 (by decide) (fun c_20 => ?_) (fun c_20 => ?_)
    ·
      have c_20 := j_b0 c_20
      refine lv_iconst (v := 0) hx hb dX2_partsPair_27 (by decide) ?_
      refine wd_zret hx hb hr hlocks (Or.inl rfl) hW hS dX2_partsPair_28 ?_
      exact ⟨by first | (simp [j_b, j_parts, c_4, c_20]; done) | (simp only [j_b, j_parts, i_le]; simp [c_4, c_20]; done) | (exfalso; simp_all; done) | (simp only [j_parts, j_b]; simp_all), rfl⟩
    ·
      have c_20 := j_bn c_20
      refine lv_iconst (v := 1) hx hb dX2_partsPair_23 (by decide) ?_
      refine lv_goto (tgt := 28) hx hb dX2_partsPair_24 (by decide) ?_
      refine wd_zret hx hb hr hlocks (Or.inr rfl) hW hS dX2_partsPair_28 ?_
      exact ⟨by first | (simp [j_b, j_parts, c_4, c_20]; done) | (simp only [j_b, j_parts, i_le]; simp [c_4, c_20]; done) | (exfalso; simp_all; done) | (simp only [j_parts, j_b]; simp_all), rfl⟩
set_option maxHeartbeats 4000000 in
set_option maxRecDepth 100000 in
theorem k_X2_isBeyond (l : Launch) (D : va_G) (cI cT : ClassId) (w : Wd) (sz : Nat) (tx : Nat) (tI : Nat) (kd : Int32) (len : Nat) (g : Nat → Int32) (i : Int32) (n : Int32) (hT : txtAt w tx tI cI kd len g) : wd_Mi l D vwCl (gK D cI cT) yX2_isBeyond wsX2_isBeyond (wd_rm 0 0 0) [.ref tx, .int i, .int n] w sz (fun r w' => r = j_b (j_beyond len i n) ∧ w' = w) := by
  refine wd_met (cc := cX2_isBeyond) (maxL := 4) (ret := (some .boolean)) (by decide) rfl (Nat.le_of_ble_eq_true rfl) ?_
  intro pg ev sg mi bl mt cd ls C0 hsz hK hW hl
  obtain ⟨hx, hb, hr, hml, hown, hts, hlocks, hnm⟩ := C0
  subst hsz
  have hown : sg.vm.findClass RX2 = some mi.cls := hown
  have hS : va_S (wd_A w sg.heap.size) sg.heap sg.heap [] := va_S.rf
  have hA : ∀ q, sg.heap.size ≤ q → wd_A w sg.heap.size q := fun q h => Or.inr h
  have hl : lv_has ls 4 [(0, .ref tx), (1, .int i), (2, .int n)] := hl
  have hlen := hT.2.2
  refine lv_aload_n hx hb dX2_isBeyond_0 rfl (lv_at hl 0 rfl) ?_
  refine wd_get (ci := 1) (v := .ref tI) (C := RX1) (T := TX1) (N := 2) hx hb hts (by decide +kernel) hown hK.1 hW hT.1 rfl 1 (by decide) (hts (.fieldLink RX2 93 "CharRows$Text" "items" "[I") (by decide +kernel)) (fun _ h9 => h9) rfl dX2_isBeyond_1 ?_
  refine wd_alen hx hb hK.1 hW 0 hT.2.1 rfl dX2_isBeyond_4 ?_
  refine lv_istore_n (lv' := [(3, .int (nI len)), (0, .ref tx), (1, .int i), (2, .int n)]) hx hb dX2_isBeyond_5 rfl hl (by decide) rfl (fun ls hl => ?_)
  refine lv_iload_n hx hb dX2_isBeyond_6 rfl (lv_at hl 2 rfl) ?_
  refine lv_if_lt (tgt := 26) hx hb dX2_isBeyond_7 (by decide) (fun c_7 => ?_) (fun c_7 => ?_)
  ·
    refine lv_iconst (v := 1) hx hb dX2_isBeyond_26 (by decide) ?_
    refine lv_goto (tgt := 31) hx hb dX2_isBeyond_27 (by decide) ?_
    refine wd_zret hx hb hr hlocks (Or.inr rfl) hW hS dX2_isBeyond_31 ?_
    exact ⟨by first | (simp [j_b, j_beyond, c_7]; done) | (simp only [j_b, j_beyond, i_le]; simp [c_7]; done) | (exfalso; simp_all; done) | rfl, rfl⟩
  ·
    refine lv_iload_n hx hb dX2_isBeyond_10 rfl (lv_at hl 3 rfl) ?_
    refine lv_if_lt (tgt := 26) hx hb dX2_isBeyond_11 (by decide) (fun c_11 => ?_) (fun c_11 => ?_)
    ·
      refine lv_iconst (v := 1) hx hb dX2_isBeyond_26 (by decide) ?_
      refine lv_goto (tgt := 31) hx hb dX2_isBeyond_27 (by decide) ?_
      refine wd_zret hx hb hr hlocks (Or.inr rfl) hW hS dX2_isBeyond_31 ?_
      exact ⟨by first | (simp [j_b, j_beyond, c_7, c_11]; done) | (simp only [j_b, j_beyond, i_le]; simp [c_7, c_11]; done) | (exfalso; simp_all; done) | rfl, rfl⟩
    ·
      refine lv_iload_n hx hb dX2_isBeyond_14 rfl (lv_at hl 2 rfl) ?_
      refine lv_iload_n hx hb dX2_isBeyond_15 rfl (lv_at hl 0 rfl) ?_
      refine lv_icmp_gt (tgt := 26) hx hb dX2_isBeyond_16 (by decide) (fun c_16 => ?_) (fun c_16 => ?_)
      ·
        refine lv_iconst (v := 1) hx hb dX2_isBeyond_26 (by decide) ?_
        refine lv_goto (tgt := 31) hx hb dX2_isBeyond_27 (by decide) ?_
        refine wd_zret hx hb hr hlocks (Or.inr rfl) hW hS dX2_isBeyond_31 ?_
        exact ⟨by first | (simp [j_b, j_beyond, c_7, c_11, c_16]; done) | (simp only [j_b, j_beyond, i_le]; simp [c_7, c_11, c_16]; done) | (exfalso; simp_all; done) | rfl, rfl⟩
      ·
        refine lv_iload_n hx hb dX2_isBeyond_19 rfl (lv_at hl 3 rfl) ?_
        refine lv_iload_n hx hb dX2_isBeyond_20 rfl (lv_at hl 0 rfl) ?_
        refine lv_iload_n hx hb dX2_isBeyond_21 rfl (lv_at hl 2 rfl) ?_
        refine lv_isub hx hb dX2_isBeyond_22 ?_
        refine lv_icmp_le (tgt := 30) hx hb dX2_isBeyond_23 (by decide) (fun c_23 => ?_) (fun c_23 => ?_)
        ·
          simp only [i_le, Decidable.not_not] at c_23
          refine lv_iconst (v := 0) hx hb dX2_isBeyond_30 (by decide) ?_
          refine wd_zret hx hb hr hlocks (Or.inl rfl) hW hS dX2_isBeyond_31 ?_
          exact ⟨by first | (simp [j_b, j_beyond, c_7, c_11, c_16, c_23]; done) | (simp only [j_b, j_beyond, i_le]; simp [c_7, c_11, c_16, c_23]; done) | (exfalso; simp_all; done) | rfl, rfl⟩
        ·
          simp only [i_le, Decidable.not_not] at c_23
          refine lv_iconst (v := 1) hx hb dX2_isBeyond_26 (by decide) ?_
          refine lv_goto (tgt := 31) hx hb dX2_isBeyond_27 (by decide) ?_
          refine wd_zret hx hb hr hlocks (Or.inr rfl) hW hS dX2_isBeyond_31 ?_
          exact ⟨by first | (simp [j_b, j_beyond, c_7, c_11, c_16, c_23]; done) | (simp only [j_b, j_beyond, i_le]; simp [c_7, c_11, c_16, c_23]; done) | (exfalso; simp_all; done) | rfl, rfl⟩
set_option maxHeartbeats 4000000 in
set_option maxRecDepth 100000 in
theorem k_X2_listPoints (l : Launch) (D : va_G) (cI cT : ClassId) (w : Wd) (sz : Nat) (tx : Nat) (tI : Nat) (kd : Int32) (len : Nat) (g : Nat → Int32) (r : Nat) (rI : Nat) (n : Nat) (X : Rw) (hT : txtAt w tx tI cI kd len g) (hR : rowAt w r rI cI n X) (hne : tI ≠ rI) : wd_Mv l D vwCl (gK D cI cT) yX2_listPoints wsX2_listPoints (wd_rm 3 0 0) [.ref tx, .ref r] w sz (fun w' => w' = rowSet w r rI cI n (r_lp n kd g len X)) := by
  refine wd_met (cc := cX2_listPoints) (maxL := 2) (ret := none) (by decide) rfl (Nat.le_of_ble_eq_true rfl) ?_
  intro pg ev sg mi bl mt cd ls C0 hsz hK hW hl
  obtain ⟨hx, hb, hr, hml, hown, hts, hlocks, hnm⟩ := C0
  subst hsz
  have hown : sg.vm.findClass RX2 = some mi.cls := hown
  have hS : va_S (wd_A w sg.heap.size) sg.heap sg.heap [] := va_S.rf
  have hA : ∀ q, sg.heap.size ≤ q → wd_A w sg.heap.size q := fun q h => Or.inr h
  have hl : lv_has ls 2 [(0, .ref tx), (1, .ref r)] := hl
  have hlen := hT.2.2
  refine lv_aload_n hx hb dX2_listPoints_0 rfl (lv_at hl 1 rfl) ?_
  refine wd_callVv (As := []) (rest := []) (c2 := 0) (s2 := 0) ⟨hx, hb, hml, hown, hts⟩ (k_X0_empty l D cI cT w sg.heap.size r rI n X hR) (cwV 0 hts gX2_listPoints_X0_empty rfl rfl rfl (by decide +kernel) ⟨Nat.le_of_ble_eq_true rfl, Nat.le_of_ble_eq_true rfl⟩) gK_ok hK hW (wd_recv (ci := 0) hK.1 hW rfl hR.1) hS hA rfl hl.1 rfl (Nat.le_of_ble_eq_true rfl) dX2_listPoints_1 ⟨Nat.le_of_ble_eq_true rfl, Nat.le_of_ble_eq_true rfl⟩ rfl rfl (fun w_1 H locs hp_1 hW hz hS => ?_)
  subst w_1
  have hR_1 : rowAt (rowSet w r rI cI n (r_nil X)) r rI cI n (r_nil X) := rowSet_at hR.ne (Nat.zero_le _) hR.2.2.2
  have fo_tx_1 : (rowSet w r rI cI n (r_nil X)) tx = some (.inr (1, [.int kd, .ref tI])) := (rowSet_ne (wd_ne hT.1 hR.1 (by simp)) (wd_ne hT.1 hR.2.1 (by simp))).trans hT.1
  have fo_tI_1 : (rowSet w r rI cI n (r_nil X)) tI = some (.inl (cI, len, .inl g)) := (rowSet_ne (wd_ne hT.2.1 hR.1 (by simp)) hne).trans hT.2.1
  refine lv_aload_n hx hb dX2_listPoints_4 rfl (lv_at hl 0 rfl) ?_
  refine wd_get (ci := 1) (v := .int kd) (C := RX1) (T := TX1) (N := 2) hx hb hts (by decide +kernel) hown hK.1 hW fo_tx_1 rfl 0 (by decide) (hts (.fieldLink RX2 94 "CharRows$Text" "kindOfItems" "I") (by decide +kernel)) (fun _ h9 => h9) rfl dX2_listPoints_5 ?_
  refine lv_if_ne (tgt := 27) hx hb dX2_listPoints_8 (by decide) (fun c_8 => ?_) (fun c_8 => ?_)
  ·
    refine lv_aload_n hx hb dX2_listPoints_27 rfl (lv_at hl 1 rfl) ?_
    refine lv_aload_n hx hb dX2_listPoints_28 rfl (lv_at hl 0 rfl) ?_
    refine wd_get (ci := 1) (v := .ref tI) (C := RX1) (T := TX1) (N := 2) hx hb hts (by decide +kernel) hown hK.1 hW fo_tx_1 rfl 1 (by decide) (hts (.fieldLink RX2 93 "CharRows$Text" "items" "[I") (by decide +kernel)) (fun _ h9 => h9) rfl dX2_listPoints_29 ?_
    refine wd_callVv (As := [.ref tI]) (rest := []) (c2 := 0) (s2 := 0) ⟨hx, hb, hml, hown, hts⟩ (k_X0_addAll l D cI cT (rowSet w r rI cI n (r_nil X)) H.size r rI n (r_nil X) tI len g hR_1 fo_tI_1 (by omega) hne) (cwV 1 hts gX2_listPoints_X0_addAll rfl rfl rfl (by decide +kernel) ⟨Nat.le_of_ble_eq_true rfl, Nat.le_of_ble_eq_true rfl⟩) gK_ok hK hW (wd_recv (ci := 0) hK.1 hW rfl hR_1.1) hS hA rfl hl.1 rfl (Nat.le_of_ble_eq_true rfl) dX2_listPoints_32 ⟨Nat.le_of_ble_eq_true rfl, Nat.le_of_ble_eq_true rfl⟩ rfl rfl (fun w_32 H locs hp_32 hW hz hS => ?_)
    subst w_32
    rw [rowSet_twice] at hW
    have hR_32 : rowAt (rowSet w r rI cI n (r_all n g len (r_nil X))) r rI cI n (r_all n g len (r_nil X)) := rowSet_at hR_1.ne (r_all_le hR_1.2.2.1) hR_1.2.2.2
    have fo_tx_32 : (rowSet w r rI cI n (r_all n g len (r_nil X))) tx = some (.inr (1, [.int kd, .ref tI])) := (rowSet_ne (wd_ne hT.1 hR.1 (by simp)) (wd_ne hT.1 hR.2.1 (by simp))).trans hT.1
    have fo_tI_32 : (rowSet w r rI cI n (r_all n g len (r_nil X))) tI = some (.inl (cI, len, .inl g)) := (rowSet_ne (wd_ne hT.2.1 hR.1 (by simp)) hne).trans hT.2.1
    refine wd_vret hx hb hr hlocks hW hS dX2_listPoints_35 ?_
    show _ = _
    rw [r_lp]
    simp [c_8]
  ·
    refine lv_aload_n hx hb dX2_listPoints_11 rfl (lv_at hl 1 rfl) ?_
    refine lv_aload_n hx hb dX2_listPoints_12 rfl (lv_at hl 0 rfl) ?_
    refine wd_get (ci := 1) (v := .ref tI) (C := RX1) (T := TX1) (N := 2) hx hb hts (by decide +kernel) hown hK.1 hW fo_tx_1 rfl 1 (by decide) (hts (.fieldLink RX2 93 "CharRows$Text" "items" "[I") (by decide +kernel)) (fun _ h9 => h9) rfl dX2_listPoints_13 ?_
    refine lv_aload_n hx hb dX2_listPoints_16 rfl (lv_at hl 0 rfl) ?_
    refine wd_get (ci := 1) (v := .ref tI) (C := RX1) (T := TX1) (N := 2) hx hb hts (by decide +kernel) hown hK.1 hW fo_tx_1 rfl 1 (by decide) (hts (.fieldLink RX2 93 "CharRows$Text" "items" "[I") (by decide +kernel)) (fun _ h9 => h9) rfl dX2_listPoints_17 ?_
    refine wd_alen hx hb hK.1 hW 0 fo_tI_1 rfl dX2_listPoints_20 ?_
    refine wd_callVv (As := [.ref tI, .int (nI len)]) (rest := []) (c2 := 0) (s2 := 0) ⟨hx, hb, hml, hown, hts⟩ (k_X0_addPointsOf l D cI cT (rowSet w r rI cI n (r_nil X)) H.size r rI n (r_nil X) tI len g len hR_1 fo_tI_1 (by omega) hne (by omega)) (cwV 2 hts gX2_listPoints_X0_addPointsOf rfl rfl rfl (by decide +kernel) ⟨Nat.le_of_ble_eq_true rfl, Nat.le_of_ble_eq_true rfl⟩) gK_ok hK hW (wd_recv (ci := 0) hK.1 hW rfl hR_1.1) hS hA rfl hl.1 rfl (Nat.le_of_ble_eq_true rfl) dX2_listPoints_21 ⟨Nat.le_of_ble_eq_true rfl, Nat.le_of_ble_eq_true rfl⟩ rfl rfl (fun w_21 H locs hp_21 hW hz hS => ?_)
    subst w_21
    rw [rowSet_twice] at hW
    have hR_21 : rowAt (rowSet w r rI cI n (r_pts n g len len (r_nil X))) r rI cI n (r_pts n g len len (r_nil X)) := rowSet_at hR_1.ne (r_pts_le hR_1.2.2.1) hR_1.2.2.2
    have fo_tx_21 : (rowSet w r rI cI n (r_pts n g len len (r_nil X))) tx = some (.inr (1, [.int kd, .ref tI])) := (rowSet_ne (wd_ne hT.1 hR.1 (by simp)) (wd_ne hT.1 hR.2.1 (by simp))).trans hT.1
    have fo_tI_21 : (rowSet w r rI cI n (r_pts n g len len (r_nil X))) tI = some (.inl (cI, len, .inl g)) := (rowSet_ne (wd_ne hT.2.1 hR.1 (by simp)) hne).trans hT.2.1
    refine lv_goto (tgt := 35) hx hb dX2_listPoints_24 (by decide) ?_
    refine wd_vret hx hb hr hlocks hW hS dX2_listPoints_35 ?_
    show _ = _
    rw [r_lp]
    simp [c_8]
set_option maxHeartbeats 4000000 in
set_option maxRecDepth 100000 in
theorem k_X2_listUnits (l : Launch) (D : va_G) (cI cT : ClassId) (w : Wd) (sz : Nat) (tx : Nat) (tI : Nat) (kd : Int32) (len : Nat) (g : Nat → Int32) (r : Nat) (rI : Nat) (n : Nat) (X : Rw) (hT : txtAt w tx tI cI kd len g) (hR : rowAt w r rI cI n X) (hne : tI ≠ rI) : wd_Mv l D vwCl (gK D cI cT) yX2_listUnits wsX2_listUnits (wd_rm 3 0 0) [.ref tx, .ref r] w sz (fun w' => w' = rowSet w r rI cI n (r_lu n kd g len X)) := by
  refine wd_met (cc := cX2_listUnits) (maxL := 3) (ret := none) (by decide) rfl (Nat.le_of_ble_eq_true rfl) ?_
  intro pg ev sg mi bl mt cd ls C0 hsz hK hW hl
  obtain ⟨hx, hb, hr, hml, hown, hts, hlocks, hnm⟩ := C0
  subst hsz
  have hown : sg.vm.findClass RX2 = some mi.cls := hown
  have hS : va_S (wd_A w sg.heap.size) sg.heap sg.heap [] := va_S.rf
  have hA : ∀ q, sg.heap.size ≤ q → wd_A w sg.heap.size q := fun q h => Or.inr h
  have hl : lv_has ls 3 [(0, .ref tx), (1, .ref r)] := hl
  have hlen := hT.2.2
  refine lv_aload_n hx hb dX2_listUnits_0 rfl (lv_at hl 1 rfl) ?_
  refine wd_callVv (As := []) (rest := []) (c2 := 0) (s2 := 0) ⟨hx, hb, hml, hown, hts⟩ (k_X0_empty l D cI cT w sg.heap.size r rI n X hR) (cwV 0 hts gX2_listUnits_X0_empty rfl rfl rfl (by decide +kernel) ⟨Nat.le_of_ble_eq_true rfl, Nat.le_of_ble_eq_true rfl⟩) gK_ok hK hW (wd_recv (ci := 0) hK.1 hW rfl hR.1) hS hA rfl hl.1 rfl (Nat.le_of_ble_eq_true rfl) dX2_listUnits_1 ⟨Nat.le_of_ble_eq_true rfl, Nat.le_of_ble_eq_true rfl⟩ rfl rfl (fun w_1 H locs hp_1 hW hz hS => ?_)
  subst w_1
  have hR_1 : rowAt (rowSet w r rI cI n (r_nil X)) r rI cI n (r_nil X) := rowSet_at hR.ne (Nat.zero_le _) hR.2.2.2
  have fo_tx_1 : (rowSet w r rI cI n (r_nil X)) tx = some (.inr (1, [.int kd, .ref tI])) := (rowSet_ne (wd_ne hT.1 hR.1 (by simp)) (wd_ne hT.1 hR.2.1 (by simp))).trans hT.1
  have fo_tI_1 : (rowSet w r rI cI n (r_nil X)) tI = some (.inl (cI, len, .inl g)) := (rowSet_ne (wd_ne hT.2.1 hR.1 (by simp)) hne).trans hT.2.1
  refine lv_aload_n hx hb dX2_listUnits_4 rfl (lv_at hl 0 rfl) ?_
  refine wd_get (ci := 1) (v := .int kd) (C := RX1) (T := TX1) (N := 2) hx hb hts (by decide +kernel) hown hK.1 hW fo_tx_1 rfl 0 (by decide) (hts (.fieldLink RX2 94 "CharRows$Text" "kindOfItems" "I") (by decide +kernel)) (fun _ h9 => h9) rfl dX2_listUnits_5 ?_
  refine lv_iconst (v := 1) hx hb dX2_listUnits_8 (by decide) ?_
  refine lv_icmp_eq (tgt := 21) hx hb dX2_listUnits_9 (by decide) (fun c_9 => ?_) (fun c_9 => ?_)
  ·
    refine lv_iconst (v := 0) hx hb dX2_listUnits_21 (by decide) ?_
    refine lv_istore_n (lv' := [(2, .int 0), (0, .ref tx), (1, .ref r)]) hx hb dX2_listUnits_22 rfl hl (by decide) rfl (fun ls hl => ?_)
    refine wd_loop1 (fun (k : Nat) (H : Heap) (locs : List Loc) (ls : Array Slot) => k ≤ len ∧ wd_P D vwCl (wd_A w sg.heap.size) (rowSet w r rI cI n (itN (fun k X => r_uni n (g k) X) k (r_nil X))) H ∧ va_S (wd_A w sg.heap.size) sg.heap H locs ∧ lv_has ls 3 [(0, .ref tx), (1, .ref r), (2, .int (nI k))]) (fun (k : Nat) => len - k) 0 ⟨Nat.zero_le _, hW, hS, (lv_sub hl [1, 2, 0] rfl)⟩ (fun k H locs ls hI ih => ?_)
    obtain ⟨hk, hW, hS, hl⟩ := hI
    have hRk : rowAt (rowSet w r rI cI n (itN (fun k X => r_uni n (g k) X) k (r_nil X))) r rI cI n (itN (fun k X => r_uni n (g k) X) k (r_nil X)) := rowSet_at hR.ne (itN_le (fun _ _ h => r_uni_le h) _ _ r_nil_le) hR.2.2.2
    have fo_tx_k : (rowSet w r rI cI n (itN (fun k X => r_uni n (g k) X) k (r_nil X))) tx = some (.inr (1, [.int kd, .ref tI])) := (rowSet_ne (wd_ne hT.1 hR.1 (by simp)) (wd_ne hT.1 hR.2.1 (by simp))).trans hT.1
    have fo_tI_k : (rowSet w r rI cI n (itN (fun k X => r_uni n (g k) X) k (r_nil X))) tI = some (.inl (cI, len, .inl g)) := (rowSet_ne (wd_ne hT.2.1 hR.1 (by simp)) hne).trans hT.2.1
    refine lv_iload_n hx hb dX2_listUnits_23 rfl (lv_at hl 2 rfl) ?_
    refine lv_aload_n hx hb dX2_listUnits_24 rfl (lv_at hl 0 rfl) ?_
    refine wd_get (ci := 1) (v := .ref tI) (C := RX1) (T := TX1) (N := 2) hx hb hts (by decide +kernel) hown hK.1 hW fo_tx_k rfl 1 (by decide) (hts (.fieldLink RX2 93 "CharRows$Text" "items" "[I") (by decide +kernel)) (fun _ h9 => h9) rfl dX2_listUnits_25 ?_
    refine wd_alen hx hb hK.1 hW 0 fo_tI_k rfl dX2_listUnits_28 ?_
    refine lv_icmp_ge (tgt := 48) hx hb dX2_listUnits_29 (by decide) (fun c_29 => ?_) (fun c_29 => ?_)
    ·
      have c_29 : len ≤ k := (nI_leI (by omega) (by omega)).mp (show (nI len ≤ nI k) from c_29)
      refine wd_vret hx hb hr hlocks hW hS dX2_listUnits_48 ?_
      show _ = _
      rw [r_lu, if_neg (by simpa using c_9), show len = k by omega]
    ·
      have c_29 : ¬ (len ≤ k) := fun q9 => absurd ((nI_leI (by omega) (by omega)).mpr q9) (show ¬ (nI len ≤ nI k) from c_29)
      refine lv_aload_n hx hb dX2_listUnits_32 rfl (lv_at hl 1 rfl) ?_
      refine lv_aload_n hx hb dX2_listUnits_33 rfl (lv_at hl 0 rfl) ?_
      refine wd_get (ci := 1) (v := .ref tI) (C := RX1) (T := TX1) (N := 2) hx hb hts (by decide +kernel) hown hK.1 hW fo_tx_k rfl 1 (by decide) (hts (.fieldLink RX2 93 "CharRows$Text" "items" "[I") (by decide +kernel)) (fun _ h9 => h9) rfl dX2_listUnits_34 ?_
      refine lv_iload_n hx hb dX2_listUnits_37 rfl (lv_at hl 2 rfl) ?_
      refine wd_iald hx hb hK.1 hW 0 fo_tI_k rfl (vp_in_nI (by omega) (by omega)) dX2_listUnits_38 ?_
      refine wd_topE (y := g k) (by rw [nI_clamp (by omega)]) ?_
      refine wd_callVv (As := [.int (g k)]) (rest := []) (c2 := 0) (s2 := 0) ⟨hx, hb, hml, hown, hts⟩ (k_X0_addUnitsOf l D cI cT (rowSet w r rI cI n (itN (fun k X => r_uni n (g k) X) k (r_nil X))) H.size r rI n (itN (fun k X => r_uni n (g k) X) k (r_nil X)) (g k) hRk) (cwV 1 hts gX2_listUnits_X0_addUnitsOf rfl rfl rfl (by decide +kernel) ⟨Nat.le_of_ble_eq_true rfl, Nat.le_of_ble_eq_true rfl⟩) gK_ok hK hW (wd_recv (ci := 0) hK.1 hW rfl hRk.1) hS hA rfl hl.1 rfl (Nat.le_of_ble_eq_true rfl) dX2_listUnits_39 ⟨Nat.le_of_ble_eq_true rfl, Nat.le_of_ble_eq_true rfl⟩ rfl rfl (fun w_39 H locs hp_39 hW hz hS => ?_)
      subst w_39
      rw [rowSet_twice] at hW
      have hR_39 : rowAt (rowSet w r rI cI n (r_uni n (g k) (itN (fun k X => r_uni n (g k) X) k (r_nil X)))) r rI cI n (r_uni n (g k) (itN (fun k X => r_uni n (g k) X) k (r_nil X))) := rowSet_at hRk.ne (r_uni_le hRk.2.2.1) hRk.2.2.2
      have fo_tx_39 : (rowSet w r rI cI n (r_uni n (g k) (itN (fun k X => r_uni n (g k) X) k (r_nil X)))) tx = some (.inr (1, [.int kd, .ref tI])) := (rowSet_ne (wd_ne hT.1 hR.1 (by simp)) (wd_ne hT.1 hR.2.1 (by simp))).trans hT.1
      have fo_tI_39 : (rowSet w r rI cI n (r_uni n (g k) (itN (fun k X => r_uni n (g k) X) k (r_nil X)))) tI = some (.inl (cI, len, .inl g)) := (rowSet_ne (wd_ne hT.2.1 hR.1 (by simp)) hne).trans hT.2.1
      refine lv_iinc (v := nI (k + 1)) (lv' := [(2, .int (nI (k + 1))), (0, .ref tx), (1, .ref r)]) hx hb dX2_listUnits_42 hl (k := 2) rfl (nI_add k 1) (by decide) rfl (fun ls hl => ?_)
      refine lv_goto (tgt := 23) hx hb dX2_listUnits_45 (by decide) ?_
      exact ih (k + 1) H locs ls ⟨(by omega), hW, hS, (lv_sub hl [1, 2, 0] rfl)⟩ (by omega)
  ·
    refine lv_aload_n hx hb dX2_listUnits_12 rfl (lv_at hl 1 rfl) ?_
    refine lv_aload_n hx hb dX2_listUnits_13 rfl (lv_at hl 0 rfl) ?_
    refine wd_get (ci := 1) (v := .ref tI) (C := RX1) (T := TX1) (N := 2) hx hb hts (by decide +kernel) hown hK.1 hW fo_tx_1 rfl 1 (by decide) (hts (.fieldLink RX2 93 "CharRows$Text" "items" "[I") (by decide +kernel)) (fun _ h9 => h9) rfl dX2_listUnits_14 ?_
    refine wd_callVv (As := [.ref tI]) (rest := []) (c2 := 0) (s2 := 0) ⟨hx, hb, hml, hown, hts⟩ (k_X0_addAll l D cI cT (rowSet w r rI cI n (r_nil X)) H.size r rI n (r_nil X) tI len g hR_1 fo_tI_1 (by omega) hne) (cwV 1 hts gX2_listUnits_X0_addAll rfl rfl rfl (by decide +kernel) ⟨Nat.le_of_ble_eq_true rfl, Nat.le_of_ble_eq_true rfl⟩) gK_ok hK hW (wd_recv (ci := 0) hK.1 hW rfl hR_1.1) hS hA rfl hl.1 rfl (Nat.le_of_ble_eq_true rfl) dX2_listUnits_17 ⟨Nat.le_of_ble_eq_true rfl, Nat.le_of_ble_eq_true rfl⟩ rfl rfl (fun w_17 H locs hp_17 hW hz hS => ?_)
    subst w_17
    rw [rowSet_twice] at hW
    have hR_17 : rowAt (rowSet w r rI cI n (r_all n g len (r_nil X))) r rI cI n (r_all n g len (r_nil X)) := rowSet_at hR_1.ne (r_all_le hR_1.2.2.1) hR_1.2.2.2
    have fo_tx_17 : (rowSet w r rI cI n (r_all n g len (r_nil X))) tx = some (.inr (1, [.int kd, .ref tI])) := (rowSet_ne (wd_ne hT.1 hR.1 (by simp)) (wd_ne hT.1 hR.2.1 (by simp))).trans hT.1
    have fo_tI_17 : (rowSet w r rI cI n (r_all n g len (r_nil X))) tI = some (.inl (cI, len, .inl g)) := (rowSet_ne (wd_ne hT.2.1 hR.1 (by simp)) hne).trans hT.2.1
    refine wd_vret hx hb hr hlocks hW hS dX2_listUnits_20 ?_
    show _ = _
    rw [r_lu, if_pos c_9]
set_option maxHeartbeats 4000000 in
set_option maxRecDepth 100000 in
theorem k_X2_isToldIn (l : Launch) (D : va_G) (cI cT : ClassId) (w : Wd) (sz : Nat) (p : Int32) (q : Int32) : wd_Mi l D vwCl (gK D cI cT) yX2_isToldIn wsX2_isToldIn (wd_rm 1 0 0) [.int p, .int q] w sz (fun r w' => r = j_b (j_told p q) ∧ w' = w) := by
  refine wd_met (cc := cX2_isToldIn) (maxL := 2) (ret := (some .boolean)) (by decide) rfl (Nat.le_of_ble_eq_true rfl) ?_
  intro pg ev sg mi bl mt cd ls C0 hsz hK hW hl
  obtain ⟨hx, hb, hr, hml, hown, hts, hlocks, hnm⟩ := C0
  subst hsz
  have hown : sg.vm.findClass RX2 = some mi.cls := hown
  have hS : va_S (wd_A w sg.heap.size) sg.heap sg.heap [] := va_S.rf
  have hA : ∀ q, sg.heap.size ≤ q → wd_A w sg.heap.size q := fun q h => Or.inr h
  have hl : lv_has ls 2 [(0, .int p), (1, .int q)] := hl
  refine lv_iload_n hx hb dX2_isToldIn_0 rfl (lv_at hl 1 rfl) ?_
  refine lv_iconst (v := 3) hx hb dX2_isToldIn_1 (by decide) ?_
  refine lv_icmp_ne (tgt := 32) hx hb dX2_isToldIn_2 (by decide) (fun c_2 => ?_) (fun c_2 => ?_)
  ·
    refine lv_iload_n hx hb dX2_isToldIn_32 rfl (lv_at hl 1 rfl) ?_
    refine lv_iconst (v := 4) hx hb dX2_isToldIn_33 (by decide) ?_
    refine lv_icmp_ne (tgt := 55) hx hb dX2_isToldIn_34 (by decide) (fun c_34 => ?_) (fun c_34 => ?_)
    ·
      refine lv_iconst (v := 1) hx hb dX2_isToldIn_55 (by decide) ?_
      refine wd_zret hx hb hr hlocks (Or.inr rfl) hW hS dX2_isToldIn_56 ?_
      exact ⟨by first | (simp [j_b, j_told, c_2, c_34]; done) | (simp only [j_b, j_told, i_le]; simp [c_2, c_34]; done) | (exfalso; simp_all; done) | (simp only [j_told, j_b]; simp_all), rfl⟩
    ·
      refine lv_iload_n hx hb dX2_isToldIn_37 rfl (lv_at hl 0 rfl) ?_
      refine lv_ldc (v := 65536) hx hb hown (hts (.constant RX2 173 65536) (by decide +kernel)) dX2_isToldIn_38 ?_
      refine lv_icmp_lt (tgt := 53) hx hb dX2_isToldIn_40 (by decide) (fun c_40 => ?_) (fun c_40 => ?_)
      ·
        refine lv_iconst (v := 0) hx hb dX2_isToldIn_53 (by decide) ?_
        refine wd_zret hx hb hr hlocks (Or.inl rfl) hW hS dX2_isToldIn_54 ?_
        exact ⟨by first | (simp [j_b, j_told, c_2, c_34, c_40]; done) | (simp only [j_b, j_told, i_le]; simp [c_2, c_34, c_40]; done) | (exfalso; simp_all; done) | (simp only [j_told, j_b]; simp_all), rfl⟩
      ·
        refine lv_iload_n hx hb dX2_isToldIn_43 rfl (lv_at hl 0 rfl) ?_
        refine lv_ldc (v := 1114111) hx hb hown (hts (.constant RX2 181 1114111) (by decide +kernel)) dX2_isToldIn_44 ?_
        refine lv_icmp_gt (tgt := 53) hx hb dX2_isToldIn_46 (by decide) (fun c_46 => ?_) (fun c_46 => ?_)
        ·
          refine lv_iconst (v := 0) hx hb dX2_isToldIn_53 (by decide) ?_
          refine wd_zret hx hb hr hlocks (Or.inl rfl) hW hS dX2_isToldIn_54 ?_
          exact ⟨by first | (simp [j_b, j_told, c_2, c_34, c_40, c_46]; done) | (simp only [j_b, j_told, i_le]; simp [c_2, c_34, c_40, c_46]; done) | (exfalso; simp_all; done) | (simp only [j_told, j_b]; simp_all), rfl⟩
        ·
          refine lv_iconst (v := 1) hx hb dX2_isToldIn_49 (by decide) ?_
          refine lv_goto (tgt := 54) hx hb dX2_isToldIn_50 (by decide) ?_
          refine wd_zret hx hb hr hlocks (Or.inr rfl) hW hS dX2_isToldIn_54 ?_
          exact ⟨by first | (simp [j_b, j_told, c_2, c_34, c_40, c_46]; done) | (simp only [j_b, j_told, i_le]; simp [c_2, c_34, c_40, c_46]; done) | (exfalso; simp_all; done) | (simp only [j_told, j_b]; simp_all), rfl⟩
  ·
    refine lv_iload_n hx hb dX2_isToldIn_5 rfl (lv_at hl 0 rfl) ?_
    refine lv_sipush (v := 2048) hx hb dX2_isToldIn_6 (by decide) ?_
    refine lv_icmp_lt (tgt := 30) hx hb dX2_isToldIn_9 (by decide) (fun c_9 => ?_) (fun c_9 => ?_)
    ·
      refine lv_iconst (v := 0) hx hb dX2_isToldIn_30 (by decide) ?_
      refine wd_zret hx hb hr hlocks (Or.inl rfl) hW hS dX2_isToldIn_31 ?_
      exact ⟨by first | (simp [j_b, j_told, c_2, c_9]; done) | (simp only [j_b, j_told, i_le]; simp [c_2, c_9]; done) | (exfalso; simp_all; done) | (simp only [j_told, j_b]; simp_all), rfl⟩
    ·
      refine lv_iload_n hx hb dX2_isToldIn_12 rfl (lv_at hl 0 rfl) ?_
      refine wd_callSi (As := [.int p]) (rest := []) (c2 := 0) (s2 := 0) ⟨hx, hb, hml, hown, hts⟩ (k_X2_isHigh l D cI cT w sg.heap.size p ) (va_cwS 1 hts gX2_isToldIn_X2_isHigh rfl rfl rfl (by decide +kernel) ⟨Nat.le_of_ble_eq_true rfl, Nat.le_of_ble_eq_true rfl⟩) gK_ok hK hW hS hA rfl hl.1 rfl (Nat.le_of_ble_eq_true rfl) dX2_isToldIn_13 ⟨Nat.le_of_ble_eq_true rfl, Nat.le_of_ble_eq_true rfl⟩ rfl rfl (fun r_13 w_13 H locs hp_13 hW hz hS => ?_)
      obtain ⟨q_r, q_w⟩ := hp_13
      subst r_13
      subst w_13
      refine lv_if_ne (tgt := 30) hx hb dX2_isToldIn_16 (by decide) (fun c_16 => ?_) (fun c_16 => ?_)
      ·
        have c_16 := j_bn c_16
        refine lv_iconst (v := 0) hx hb dX2_isToldIn_30 (by decide) ?_
        refine wd_zret hx hb hr hlocks (Or.inl rfl) hW hS dX2_isToldIn_31 ?_
        exact ⟨by first | (simp [j_b, j_told, c_2, c_9, c_16]; done) | (simp only [j_b, j_told, i_le]; simp [c_2, c_9, c_16]; done) | (exfalso; simp_all; done) | (simp only [j_told, j_b]; simp_all), rfl⟩
      ·
        have c_16 := j_b0 c_16
        refine lv_iload_n hx hb dX2_isToldIn_19 rfl (lv_at hl 0 rfl) ?_
        refine wd_callSi (As := [.int p]) (rest := []) (c2 := 0) (s2 := 0) ⟨hx, hb, hml, hown, hts⟩ (k_X2_isLow l D cI cT w H.size p ) (va_cwS 1 hts gX2_isToldIn_X2_isLow rfl rfl rfl (by decide +kernel) ⟨Nat.le_of_ble_eq_true rfl, Nat.le_of_ble_eq_true rfl⟩) gK_ok hK hW hS hA rfl hl.1 rfl (Nat.le_of_ble_eq_true rfl) dX2_isToldIn_20 ⟨Nat.le_of_ble_eq_true rfl, Nat.le_of_ble_eq_true rfl⟩ rfl rfl (fun r_20 w_20 H locs hp_20 hW hz hS => ?_)
        obtain ⟨q_r, q_w⟩ := hp_20
        subst r_20
        subst w_20
        refine lv_if_ne (tgt := 30) hx hb dX2_isToldIn_23 (by decide) (fun c_23 => ?_) (fun c_23 => ?_)
        ·
          have c_23 := j_bn c_23
          refine lv_iconst (v := 0) hx hb dX2_isToldIn_30 (by decide) ?_
          refine wd_zret hx hb hr hlocks (Or.inl rfl) hW hS dX2_isToldIn_31 ?_
          exact ⟨by first | (simp [j_b, j_told, c_2, c_9, c_16, c_23]; done) | (simp only [j_b, j_told, i_le]; simp [c_2, c_9, c_16, c_23]; done) | (exfalso; simp_all; done) | (simp only [j_told, j_b]; simp_all), rfl⟩
        ·
          have c_23 := j_b0 c_23
          refine lv_iconst (v := 1) hx hb dX2_isToldIn_26 (by decide) ?_
          refine lv_goto (tgt := 31) hx hb dX2_isToldIn_27 (by decide) ?_
          refine wd_zret hx hb hr hlocks (Or.inr rfl) hW hS dX2_isToldIn_31 ?_
          exact ⟨by first | (simp [j_b, j_told, c_2, c_9, c_16, c_23]; done) | (simp only [j_b, j_told, i_le]; simp [c_2, c_9, c_16, c_23]; done) | (exfalso; simp_all; done) | (simp only [j_told, j_b]; simp_all), rfl⟩
set_option maxHeartbeats 4000000 in
set_option maxRecDepth 100000 in
theorem k_X2_firstByteOffset (l : Launch) (D : va_G) (cI cT : ClassId) (w : Wd) (sz : Nat) (q : Int32) : wd_Mi l D vwCl (gK D cI cT) yX2_firstByteOffset wsX2_firstByteOffset (wd_rm 0 0 0) [.int q] w sz (fun r w' => r = j_fbo q ∧ w' = w) := by
  refine wd_met (cc := cX2_firstByteOffset) (maxL := 1) (ret := (some .int)) (by decide) rfl (Nat.le_of_ble_eq_true rfl) ?_
  intro pg ev sg mi bl mt cd ls C0 hsz hK hW hl
  obtain ⟨hx, hb, hr, hml, hown, hts, hlocks, hnm⟩ := C0
  subst hsz
  have hown : sg.vm.findClass RX2 = some mi.cls := hown
  have hS : va_S (wd_A w sg.heap.size) sg.heap sg.heap [] := va_S.rf
  have hA : ∀ q, sg.heap.size ≤ q → wd_A w sg.heap.size q := fun q h => Or.inr h
  have hl : lv_has ls 1 [(0, .int q)] := hl
  refine lv_iload_n hx hb dX2_firstByteOffset_0 rfl (lv_at hl 0 rfl) ?_
  by_cases e2 : q = 2
  ·
    refine lv_tableIn (off := 27) (tgt := 28) hx hb dX2_firstByteOffset_1 (by rw [e2]; decide) (by rw [e2]; decide) (by rw [e2]; decide) (by decide) ?_
    refine lv_sipush (v := 192) hx hb dX2_firstByteOffset_28 (by decide) ?_
    refine wd_iret hx hb hr hlocks hW hS dX2_firstByteOffset_31 ?_
    exact ⟨by first | (simp [j_fbo, e2]; done) | (simp only [j_fbo, i_le]; simp [e2]; done) | (exfalso; simp_all; done) | rfl, rfl⟩
  by_cases e3 : q = 3
  ·
    refine lv_tableIn (off := 31) (tgt := 32) hx hb dX2_firstByteOffset_1 (by rw [e3]; decide) (by rw [e3]; decide) (by rw [e3]; decide) (by decide) ?_
    refine lv_sipush (v := 224) hx hb dX2_firstByteOffset_32 (by decide) ?_
    refine wd_iret hx hb hr hlocks hW hS dX2_firstByteOffset_35 ?_
    exact ⟨by first | (simp [j_fbo, e2, e3]; done) | (simp only [j_fbo, i_le]; simp [e2, e3]; done) | (exfalso; simp_all; done) | rfl, rfl⟩
  by_cases e4 : q = 4
  ·
    refine lv_tableIn (off := 35) (tgt := 36) hx hb dX2_firstByteOffset_1 (by rw [e4]; decide) (by rw [e4]; decide) (by rw [e4]; decide) (by decide) ?_
    refine lv_sipush (v := 240) hx hb dX2_firstByteOffset_36 (by decide) ?_
    refine wd_iret hx hb hr hlocks hW hS dX2_firstByteOffset_39 ?_
    exact ⟨by first | (simp [j_fbo, e2, e3, e4]; done) | (simp only [j_fbo, i_le]; simp [e2, e3, e4]; done) | (exfalso; simp_all; done) | rfl, rfl⟩
  refine lv_tableOut (tgt := 40) hx hb dX2_firstByteOffset_1 (by have h2 : q.toInt ≠ 2 := fun h => e2 (Int32.toInt_inj.mp (h.trans rfl)); have h3 : q.toInt ≠ 3 := fun h => e3 (Int32.toInt_inj.mp (h.trans rfl)); have h4 : q.toInt ≠ 4 := fun h => e4 (Int32.toInt_inj.mp (h.trans rfl)); omega) (by decide) ?_
  refine lv_iconst (v := 0) hx hb dX2_firstByteOffset_40 (by decide) ?_
  refine wd_iret hx hb hr hlocks hW hS dX2_firstByteOffset_41 ?_
  exact ⟨by first | (simp [j_fbo, e2, e3, e4]; done) | (simp only [j_fbo, i_le]; simp [e2, e3, e4]; done) | (exfalso; simp_all; done) | rfl, rfl⟩
set_option maxHeartbeats 4000000 in
set_option maxRecDepth 100000 in
theorem k_X2_firstUntellable (l : Launch) (D : va_G) (cI cT : ClassId) (w : Wd) (sz : Nat) (r : Nat) (rI : Nat) (n : Nat) (X : Rw) (form : Int32) (hR : rowAt w r rI cI n X) : wd_Mi l D vwCl (gK D cI cT) yX2_firstUntellable wsX2_firstUntellable (wd_rm 1 0 0) [.ref r, .int form] w sz (fun q w' => q = j_fu X n form ∧ w' = w) := by
  refine wd_met (cc := cX2_firstUntellable) (maxL := 4) (ret := (some .int)) (by decide) rfl (Nat.le_of_ble_eq_true rfl) ?_
  intro pg ev sg mi bl mt cd ls C0 hsz hK hW hl
  obtain ⟨hx, hb, hr, hml, hown, hts, hlocks, hnm⟩ := C0
  subst hsz
  have hown : sg.vm.findClass RX2 = some mi.cls := hown
  have hS : va_S (wd_A w sg.heap.size) sg.heap sg.heap [] := va_S.rf
  have hA : ∀ q, sg.heap.size ≤ q → wd_A w sg.heap.size q := fun q h => Or.inr h
  have hl : lv_has ls 4 [(0, .ref r), (1, .int form)] := hl
  have hX1 := hR.2.2.1
  have hX2 := hR.2.2.2
  refine lv_iconst (v := 0) hx hb dX2_firstUntellable_0 (by decide) ?_
  refine lv_istore_n (lv' := [(2, .int 0), (0, .ref r), (1, .int form)]) hx hb dX2_firstUntellable_1 rfl hl (by decide) rfl (fun ls hl => ?_)
  refine wd_loop1 (fun (k : Nat) (H : Heap) (locs : List Loc) (ls : Array Slot) => k ≤ min X.2 n ∧ j_srch (fun k => j_bad form (X.1 k)) (min X.2 n) 0 = j_srch (fun k => j_bad form (X.1 k)) (min X.2 n - k) k ∧ wd_P D vwCl (wd_A w sg.heap.size) w H ∧ va_S (wd_A w sg.heap.size) sg.heap H locs ∧ lv_has ls 4 [(0, .ref r), (1, .int form), (2, .int (nI k))]) (fun (k : Nat) => n - k) 0 ⟨Nat.zero_le _, rfl, hW, hS, (lv_sub hl [1, 2, 0] rfl)⟩ (fun k H locs ls hI ih => ?_)
  obtain ⟨hk, hI, hW, hS, hl⟩ := hI
  refine lv_iload_n hx hb dX2_firstUntellable_2 rfl (lv_at hl 2 rfl) ?_
  refine lv_aload_n hx hb dX2_firstUntellable_3 rfl (lv_at hl 0 rfl) ?_
  refine wd_get (ci := 0) (v := .int (nI X.2)) (C := RX0) (T := TX0) (N := 2) hx hb hts (by decide +kernel) hown hK.1 hW hR.1 rfl 1 (by decide) (hts (.fieldLink RX2 48 "CharRows$Row" "count" "I") (by decide +kernel)) (fun _ h9 => h9) rfl dX2_firstUntellable_4 ?_
  refine lv_icmp_ge (tgt := 63) hx hb dX2_firstUntellable_7 (by decide) (fun c_7 => ?_) (fun c_7 => ?_)
  ·
    have c_7 : X.2 ≤ k := (nI_leI (by omega) (by omega)).mp (show (nI X.2 ≤ nI k) from c_7)
    refine lv_iconst (v := (-1)) hx hb dX2_firstUntellable_63 (by decide) ?_
    refine wd_iret hx hb hr hlocks hW hS dX2_firstUntellable_64 ?_
    exact ⟨by rw [j_fu, hI]; exact (j_srch_0 (by omega)).symm, rfl⟩
  ·
    have c_7 : ¬ (X.2 ≤ k) := fun q9 => absurd ((nI_leI (by omega) (by omega)).mpr q9) (show ¬ (nI X.2 ≤ nI k) from c_7)
    refine lv_iload_n hx hb dX2_firstUntellable_10 rfl (lv_at hl 2 rfl) ?_
    refine lv_aload_n hx hb dX2_firstUntellable_11 rfl (lv_at hl 0 rfl) ?_
    refine wd_get (ci := 0) (v := .ref rI) (C := RX0) (T := TX0) (N := 2) hx hb hts (by decide +kernel) hown hK.1 hW hR.1 rfl 0 (by decide) (hts (.fieldLink RX2 74 "CharRows$Row" "items" "[I") (by decide +kernel)) (fun _ h9 => h9) rfl dX2_firstUntellable_12 ?_
    refine wd_alen hx hb hK.1 hW 0 hR.2.1 rfl dX2_firstUntellable_15 ?_
    refine lv_icmp_ge (tgt := 63) hx hb dX2_firstUntellable_16 (by decide) (fun c_16 => ?_) (fun c_16 => ?_)
    ·
      have c_16 : n ≤ k := (nI_leI (by omega) (by omega)).mp (show (nI n ≤ nI k) from c_16)
      refine lv_iconst (v := (-1)) hx hb dX2_firstUntellable_63 (by decide) ?_
      refine wd_iret hx hb hr hlocks hW hS dX2_firstUntellable_64 ?_
      exact ⟨by rw [j_fu, hI]; exact (j_srch_0 (by omega)).symm, rfl⟩
    ·
      have c_16 : ¬ (n ≤ k) := fun q9 => absurd ((nI_leI (by omega) (by omega)).mpr q9) (show ¬ (nI n ≤ nI k) from c_16)
      refine lv_aload_n hx hb dX2_firstUntellable_19 rfl (lv_at hl 0 rfl) ?_
      refine wd_get (ci := 0) (v := .ref rI) (C := RX0) (T := TX0) (N := 2) hx hb hts (by decide +kernel) hown hK.1 hW hR.1 rfl 0 (by decide) (hts (.fieldLink RX2 74 "CharRows$Row" "items" "[I") (by decide +kernel)) (fun _ h9 => h9) rfl dX2_firstUntellable_20 ?_
      refine lv_iload_n hx hb dX2_firstUntellable_23 rfl (lv_at hl 2 rfl) ?_
      refine wd_iald hx hb hK.1 hW 0 hR.2.1 rfl (vp_in_nI (by omega) (by omega)) dX2_firstUntellable_24 ?_
      refine wd_topE (y := X.1 k) (by rw [nI_clamp (by omega)]) ?_
      refine lv_istore_n (lv' := [(3, .int (X.1 k)), (0, .ref r), (1, .int form), (2, .int (nI k))]) hx hb dX2_firstUntellable_25 rfl hl (by decide) rfl (fun ls hl => ?_)
      refine lv_iload_n hx hb dX2_firstUntellable_26 rfl (lv_at hl 2 rfl) ?_
      refine lv_iconst (v := 3) hx hb dX2_firstUntellable_27 (by decide) ?_
      refine lv_icmp_ne (tgt := 41) hx hb dX2_firstUntellable_28 (by decide) (fun c_28 => ?_) (fun c_28 => ?_)
      ·
        refine lv_iload_n hx hb dX2_firstUntellable_41 rfl (lv_at hl 0 rfl) ?_
        refine wd_callSi (As := [.int (X.1 k)]) (rest := []) (c2 := 0) (s2 := 0) ⟨hx, hb, hml, hown, hts⟩ (k_X2_isHigh l D cI cT w H.size (X.1 k) ) (va_cwS 1 hts gX2_firstUntellable_X2_isHigh rfl rfl rfl (by decide +kernel) ⟨Nat.le_of_ble_eq_true rfl, Nat.le_of_ble_eq_true rfl⟩) gK_ok hK hW hS hA rfl hl.1 rfl (Nat.le_of_ble_eq_true rfl) dX2_firstUntellable_42 ⟨Nat.le_of_ble_eq_true rfl, Nat.le_of_ble_eq_true rfl⟩ rfl rfl (fun r_42 w_42 H locs hp_42 hW hz hS => ?_)
        obtain ⟨q_r, q_w⟩ := hp_42
        subst r_42
        subst w_42
        refine lv_if_ne (tgt := 55) hx hb dX2_firstUntellable_45 (by decide) (fun c_45 => ?_) (fun c_45 => ?_)
        ·
          have c_45 := j_bn c_45
          refine lv_iload_n hx hb dX2_firstUntellable_55 rfl (lv_at hl 3 rfl) ?_
          refine wd_iret hx hb hr hlocks hW hS dX2_firstUntellable_56 ?_
          exact ⟨by rw [j_fu, hI]; exact (j_srch_hit (P := fun k => j_bad form (X.1 k)) (by show j_bad form (X.1 k); rw [j_bad, if_neg c_28]; exact Or.inl c_45) (by omega)).symm, rfl⟩
        ·
          have c_45 := j_b0 c_45
          refine lv_iload_n hx hb dX2_firstUntellable_48 rfl (lv_at hl 0 rfl) ?_
          refine wd_callSi (As := [.int (X.1 k)]) (rest := []) (c2 := 0) (s2 := 0) ⟨hx, hb, hml, hown, hts⟩ (k_X2_isLow l D cI cT w H.size (X.1 k) ) (va_cwS 1 hts gX2_firstUntellable_X2_isLow rfl rfl rfl (by decide +kernel) ⟨Nat.le_of_ble_eq_true rfl, Nat.le_of_ble_eq_true rfl⟩) gK_ok hK hW hS hA rfl hl.1 rfl (Nat.le_of_ble_eq_true rfl) dX2_firstUntellable_49 ⟨Nat.le_of_ble_eq_true rfl, Nat.le_of_ble_eq_true rfl⟩ rfl rfl (fun r_49 w_49 H locs hp_49 hW hz hS => ?_)
          obtain ⟨q_r, q_w⟩ := hp_49
          subst r_49
          subst w_49
          refine lv_if_eq (tgt := 57) hx hb dX2_firstUntellable_52 (by decide) (fun c_52 => ?_) (fun c_52 => ?_)
          ·
            have c_52 := j_b0 c_52
            refine lv_iinc (v := nI (k + 1)) (lv' := [(2, .int (nI (k + 1))), (3, .int (X.1 k)), (0, .ref r), (1, .int form)]) hx hb dX2_firstUntellable_57 hl (k := 3) rfl (nI_add k 1) (by decide) rfl (fun ls hl => ?_)
            refine lv_goto (tgt := 2) hx hb dX2_firstUntellable_60 (by decide) ?_
            exact ih (k + 1) H locs ls ⟨(by omega), (hI.trans ((j_srch_miss (P := fun k => j_bad form (X.1 k)) (by show ¬ j_bad form (X.1 k); rw [j_bad, if_neg c_28]; exact fun h => h.elim c_45 c_52) (by omega)).trans (by rw [show min X.2 n - k - 1 = min X.2 n - (k + 1) by omega]))), hW, hS, (lv_sub hl [2, 3, 0] rfl)⟩ (by omega)
          ·
            have c_52 := j_bn c_52
            refine lv_iload_n hx hb dX2_firstUntellable_55 rfl (lv_at hl 3 rfl) ?_
            refine wd_iret hx hb hr hlocks hW hS dX2_firstUntellable_56 ?_
            exact ⟨by rw [j_fu, hI]; exact (j_srch_hit (P := fun k => j_bad form (X.1 k)) (by show j_bad form (X.1 k); rw [j_bad, if_neg c_28]; exact Or.inr c_52) (by omega)).symm, rfl⟩
      ·
        refine lv_iload_n hx hb dX2_firstUntellable_31 rfl (lv_at hl 0 rfl) ?_
        refine lv_sipush (v := 255) hx hb dX2_firstUntellable_32 (by decide) ?_
        refine lv_icmp_le (tgt := 57) hx hb dX2_firstUntellable_35 (by decide) (fun c_35 => ?_) (fun c_35 => ?_)
        ·
          simp only [i_le, Decidable.not_not] at c_35
          refine lv_iinc (v := nI (k + 1)) (lv' := [(2, .int (nI (k + 1))), (3, .int (X.1 k)), (0, .ref r), (1, .int form)]) hx hb dX2_firstUntellable_57 hl (k := 3) rfl (nI_add k 1) (by decide) rfl (fun ls hl => ?_)
          refine lv_goto (tgt := 2) hx hb dX2_firstUntellable_60 (by decide) ?_
          exact ih (k + 1) H locs ls ⟨(by omega), (hI.trans ((j_srch_miss (P := fun k => j_bad form (X.1 k)) (by show ¬ j_bad form (X.1 k); rw [j_bad, if_pos (by simpa using c_28)]; exact c_35) (by omega)).trans (by rw [show min X.2 n - k - 1 = min X.2 n - (k + 1) by omega]))), hW, hS, (lv_sub hl [2, 3, 0] rfl)⟩ (by omega)
        ·
          simp only [i_le, Decidable.not_not] at c_35
          refine lv_goto (tgt := 55) hx hb dX2_firstUntellable_38 (by decide) ?_
          refine lv_iload_n hx hb dX2_firstUntellable_55 rfl (lv_at hl 3 rfl) ?_
          refine wd_iret hx hb hr hlocks hW hS dX2_firstUntellable_56 ?_
          exact ⟨by rw [j_fu, hI]; exact (j_srch_hit (P := fun k => j_bad form (X.1 k)) (by show j_bad form (X.1 k); rw [j_bad, if_pos (by simpa using c_28)]; exact c_35) (by omega)).symm, rfl⟩
set_option maxHeartbeats 4000000 in
set_option maxRecDepth 100000 in
theorem k_X2_tellInManyBytes (l : Launch) (D : va_G) (cI cT : ClassId) (w : Wd) (sz : Nat) (r : Nat) (rI : Nat) (n : Nat) (X : Rw) (p : Int32) (hR : rowAt w r rI cI n X) : wd_Mv l D vwCl (gK D cI cT) yX2_tellInManyBytes wsX2_tellInManyBytes (wd_rm 1 0 0) [.int p, .ref r] w sz (fun w' => w' = rowSet w r rI cI n (r_mb n p X)) := by
  refine wd_met (cc := cX2_tellInManyBytes) (maxL := 2) (ret := none) (by decide) rfl (Nat.le_of_ble_eq_true rfl) ?_
  intro pg ev sg mi bl mt cd ls C0 hsz hK hW hl
  obtain ⟨hx, hb, hr, hml, hown, hts, hlocks, hnm⟩ := C0
  subst hsz
  have hown : sg.vm.findClass RX2 = some mi.cls := hown
  have hS : va_S (wd_A w sg.heap.size) sg.heap sg.heap [] := va_S.rf
  have hA : ∀ q, sg.heap.size ≤ q → wd_A w sg.heap.size q := fun q h => Or.inr h
  have hl : lv_has ls 2 [(0, .int p), (1, .ref r)] := hl
  refine lv_iload_n hx hb dX2_tellInManyBytes_0 rfl (lv_at hl 0 rfl) ?_
  refine lv_sipush (v := 128) hx hb dX2_tellInManyBytes_1 (by decide) ?_
  refine lv_icmp_ge (tgt := 13) hx hb dX2_tellInManyBytes_4 (by decide) (fun c_4 => ?_) (fun c_4 => ?_)
  ·
    simp only [i_le, Decidable.not_not] at c_4
    refine lv_iload_n hx hb dX2_tellInManyBytes_13 rfl (lv_at hl 0 rfl) ?_
    refine lv_sipush (v := 2048) hx hb dX2_tellInManyBytes_14 (by decide) ?_
    refine lv_icmp_ge (tgt := 35) hx hb dX2_tellInManyBytes_17 (by decide) (fun c_17 => ?_) (fun c_17 => ?_)
    ·
      simp only [i_le, Decidable.not_not] at c_17
      refine lv_iload_n hx hb dX2_tellInManyBytes_35 rfl (lv_at hl 0 rfl) ?_
      refine lv_ldc (v := 65536) hx hb hown (hts (.constant RX2 173 65536) (by decide +kernel)) dX2_tellInManyBytes_36 ?_
      refine lv_icmp_ge (tgt := 72) hx hb dX2_tellInManyBytes_38 (by decide) (fun c_38 => ?_) (fun c_38 => ?_)
      ·
        simp only [i_le, Decidable.not_not] at c_38
        refine lv_aload_n hx hb dX2_tellInManyBytes_72 rfl (lv_at hl 1 rfl) ?_
        refine lv_sipush (v := 240) hx hb dX2_tellInManyBytes_73 (by decide) ?_
        refine lv_iload_n hx hb dX2_tellInManyBytes_76 rfl (lv_at hl 0 rfl) ?_
        refine lv_ldc (v := 262144) hx hb hown (hts (.constant RX2 192 262144) (by decide +kernel)) dX2_tellInManyBytes_77 ?_
        refine lv_idiv hx hb dX2_tellInManyBytes_79 (by decide) ?_
        refine lv_iadd hx hb dX2_tellInManyBytes_80 ?_
        refine wd_callVv (As := [.int (240 + (p / 262144))]) (rest := []) (c2 := 0) (s2 := 0) ⟨hx, hb, hml, hown, hts⟩ (k_X0_add l D cI cT w sg.heap.size r rI n X (240 + (p / 262144)) hR) (cwV 1 hts gX2_tellInManyBytes_X0_add rfl rfl rfl (by decide +kernel) ⟨Nat.le_of_ble_eq_true rfl, Nat.le_of_ble_eq_true rfl⟩) gK_ok hK hW (wd_recv (ci := 0) hK.1 hW rfl hR.1) hS hA rfl hl.1 rfl (Nat.le_of_ble_eq_true rfl) dX2_tellInManyBytes_81 ⟨Nat.le_of_ble_eq_true rfl, Nat.le_of_ble_eq_true rfl⟩ rfl rfl (fun w_81 H locs hp_81 hW hz hS => ?_)
        subst w_81
        have hR_81 : rowAt (rowSet w r rI cI n (r_add n (240 + (p / 262144)) X)) r rI cI n (r_add n (240 + (p / 262144)) X) := rowSet_at hR.ne (r_add_le hR.2.2.1) hR.2.2.2
        refine lv_aload_n hx hb dX2_tellInManyBytes_84 rfl (lv_at hl 1 rfl) ?_
        refine lv_sipush (v := 128) hx hb dX2_tellInManyBytes_85 (by decide) ?_
        refine lv_iload_n hx hb dX2_tellInManyBytes_88 rfl (lv_at hl 0 rfl) ?_
        refine lv_sipush (v := 4096) hx hb dX2_tellInManyBytes_89 (by decide) ?_
        refine lv_idiv hx hb dX2_tellInManyBytes_92 (by decide) ?_
        refine lv_bipush (v := 64) hx hb dX2_tellInManyBytes_93 (by decide) ?_
        refine lv_irem hx hb dX2_tellInManyBytes_95 (by decide) ?_
        refine lv_iadd hx hb dX2_tellInManyBytes_96 ?_
        refine wd_callVv (As := [.int (128 + ((p / 4096) - (p / 4096) / 64 * 64))]) (rest := []) (c2 := 0) (s2 := 0) ⟨hx, hb, hml, hown, hts⟩ (k_X0_add l D cI cT (rowSet w r rI cI n (r_add n (240 + (p / 262144)) X)) H.size r rI n (r_add n (240 + (p / 262144)) X) (128 + ((p / 4096) - (p / 4096) / 64 * 64)) hR_81) (cwV 1 hts gX2_tellInManyBytes_X0_add rfl rfl rfl (by decide +kernel) ⟨Nat.le_of_ble_eq_true rfl, Nat.le_of_ble_eq_true rfl⟩) gK_ok hK hW (wd_recv (ci := 0) hK.1 hW rfl hR_81.1) hS hA rfl hl.1 rfl (Nat.le_of_ble_eq_true rfl) dX2_tellInManyBytes_97 ⟨Nat.le_of_ble_eq_true rfl, Nat.le_of_ble_eq_true rfl⟩ rfl rfl (fun w_97 H locs hp_97 hW hz hS => ?_)
        subst w_97
        rw [rowSet_twice] at hW
        have hR_97 : rowAt (rowSet w r rI cI n (r_add n (128 + ((p / 4096) - (p / 4096) / 64 * 64)) (r_add n (240 + (p / 262144)) X))) r rI cI n (r_add n (128 + ((p / 4096) - (p / 4096) / 64 * 64)) (r_add n (240 + (p / 262144)) X)) := rowSet_at hR_81.ne (r_add_le hR_81.2.2.1) hR_81.2.2.2
        refine lv_aload_n hx hb dX2_tellInManyBytes_100 rfl (lv_at hl 1 rfl) ?_
        refine lv_sipush (v := 128) hx hb dX2_tellInManyBytes_101 (by decide) ?_
        refine lv_iload_n hx hb dX2_tellInManyBytes_104 rfl (lv_at hl 0 rfl) ?_
        refine lv_bipush (v := 64) hx hb dX2_tellInManyBytes_105 (by decide) ?_
        refine lv_idiv hx hb dX2_tellInManyBytes_107 (by decide) ?_
        refine lv_bipush (v := 64) hx hb dX2_tellInManyBytes_108 (by decide) ?_
        refine lv_irem hx hb dX2_tellInManyBytes_110 (by decide) ?_
        refine lv_iadd hx hb dX2_tellInManyBytes_111 ?_
        refine wd_callVv (As := [.int (128 + ((p / 64) - (p / 64) / 64 * 64))]) (rest := []) (c2 := 0) (s2 := 0) ⟨hx, hb, hml, hown, hts⟩ (k_X0_add l D cI cT (rowSet w r rI cI n (r_add n (128 + ((p / 4096) - (p / 4096) / 64 * 64)) (r_add n (240 + (p / 262144)) X))) H.size r rI n (r_add n (128 + ((p / 4096) - (p / 4096) / 64 * 64)) (r_add n (240 + (p / 262144)) X)) (128 + ((p / 64) - (p / 64) / 64 * 64)) hR_97) (cwV 1 hts gX2_tellInManyBytes_X0_add rfl rfl rfl (by decide +kernel) ⟨Nat.le_of_ble_eq_true rfl, Nat.le_of_ble_eq_true rfl⟩) gK_ok hK hW (wd_recv (ci := 0) hK.1 hW rfl hR_97.1) hS hA rfl hl.1 rfl (Nat.le_of_ble_eq_true rfl) dX2_tellInManyBytes_112 ⟨Nat.le_of_ble_eq_true rfl, Nat.le_of_ble_eq_true rfl⟩ rfl rfl (fun w_112 H locs hp_112 hW hz hS => ?_)
        subst w_112
        rw [rowSet_twice] at hW
        have hR_112 : rowAt (rowSet w r rI cI n (r_add n (128 + ((p / 64) - (p / 64) / 64 * 64)) (r_add n (128 + ((p / 4096) - (p / 4096) / 64 * 64)) (r_add n (240 + (p / 262144)) X)))) r rI cI n (r_add n (128 + ((p / 64) - (p / 64) / 64 * 64)) (r_add n (128 + ((p / 4096) - (p / 4096) / 64 * 64)) (r_add n (240 + (p / 262144)) X))) := rowSet_at hR_97.ne (r_add_le hR_97.2.2.1) hR_97.2.2.2
        refine lv_aload_n hx hb dX2_tellInManyBytes_115 rfl (lv_at hl 1 rfl) ?_
        refine lv_sipush (v := 128) hx hb dX2_tellInManyBytes_116 (by decide) ?_
        refine lv_iload_n hx hb dX2_tellInManyBytes_119 rfl (lv_at hl 0 rfl) ?_
        refine lv_bipush (v := 64) hx hb dX2_tellInManyBytes_120 (by decide) ?_
        refine lv_irem hx hb dX2_tellInManyBytes_122 (by decide) ?_
        refine lv_iadd hx hb dX2_tellInManyBytes_123 ?_
        refine wd_callVv (As := [.int (128 + (p - p / 64 * 64))]) (rest := []) (c2 := 0) (s2 := 0) ⟨hx, hb, hml, hown, hts⟩ (k_X0_add l D cI cT (rowSet w r rI cI n (r_add n (128 + ((p / 64) - (p / 64) / 64 * 64)) (r_add n (128 + ((p / 4096) - (p / 4096) / 64 * 64)) (r_add n (240 + (p / 262144)) X)))) H.size r rI n (r_add n (128 + ((p / 64) - (p / 64) / 64 * 64)) (r_add n (128 + ((p / 4096) - (p / 4096) / 64 * 64)) (r_add n (240 + (p / 262144)) X))) (128 + (p - p / 64 * 64)) hR_112) (cwV 1 hts gX2_tellInManyBytes_X0_add rfl rfl rfl (by decide +kernel) ⟨Nat.le_of_ble_eq_true rfl, Nat.le_of_ble_eq_true rfl⟩) gK_ok hK hW (wd_recv (ci := 0) hK.1 hW rfl hR_112.1) hS hA rfl hl.1 rfl (Nat.le_of_ble_eq_true rfl) dX2_tellInManyBytes_124 ⟨Nat.le_of_ble_eq_true rfl, Nat.le_of_ble_eq_true rfl⟩ rfl rfl (fun w_124 H locs hp_124 hW hz hS => ?_)
        subst w_124
        rw [rowSet_twice] at hW
        have hR_124 : rowAt (rowSet w r rI cI n (r_add n (128 + (p - p / 64 * 64)) (r_add n (128 + ((p / 64) - (p / 64) / 64 * 64)) (r_add n (128 + ((p / 4096) - (p / 4096) / 64 * 64)) (r_add n (240 + (p / 262144)) X))))) r rI cI n (r_add n (128 + (p - p / 64 * 64)) (r_add n (128 + ((p / 64) - (p / 64) / 64 * 64)) (r_add n (128 + ((p / 4096) - (p / 4096) / 64 * 64)) (r_add n (240 + (p / 262144)) X)))) := rowSet_at hR_112.ne (r_add_le hR_112.2.2.1) hR_112.2.2.2
        refine wd_vret hx hb hr hlocks hW hS dX2_tellInManyBytes_127 ?_
        show _ = _
        rw [r_mb]
        simp [c_4, c_17, c_38]
      ·
        simp only [i_le, Decidable.not_not] at c_38
        refine lv_aload_n hx hb dX2_tellInManyBytes_41 rfl (lv_at hl 1 rfl) ?_
        refine lv_sipush (v := 224) hx hb dX2_tellInManyBytes_42 (by decide) ?_
        refine lv_iload_n hx hb dX2_tellInManyBytes_45 rfl (lv_at hl 0 rfl) ?_
        refine lv_sipush (v := 4096) hx hb dX2_tellInManyBytes_46 (by decide) ?_
        refine lv_idiv hx hb dX2_tellInManyBytes_49 (by decide) ?_
        refine lv_iadd hx hb dX2_tellInManyBytes_50 ?_
        refine wd_callVv (As := [.int (224 + (p / 4096))]) (rest := []) (c2 := 0) (s2 := 0) ⟨hx, hb, hml, hown, hts⟩ (k_X0_add l D cI cT w sg.heap.size r rI n X (224 + (p / 4096)) hR) (cwV 1 hts gX2_tellInManyBytes_X0_add rfl rfl rfl (by decide +kernel) ⟨Nat.le_of_ble_eq_true rfl, Nat.le_of_ble_eq_true rfl⟩) gK_ok hK hW (wd_recv (ci := 0) hK.1 hW rfl hR.1) hS hA rfl hl.1 rfl (Nat.le_of_ble_eq_true rfl) dX2_tellInManyBytes_51 ⟨Nat.le_of_ble_eq_true rfl, Nat.le_of_ble_eq_true rfl⟩ rfl rfl (fun w_51 H locs hp_51 hW hz hS => ?_)
        subst w_51
        have hR_51 : rowAt (rowSet w r rI cI n (r_add n (224 + (p / 4096)) X)) r rI cI n (r_add n (224 + (p / 4096)) X) := rowSet_at hR.ne (r_add_le hR.2.2.1) hR.2.2.2
        refine lv_aload_n hx hb dX2_tellInManyBytes_54 rfl (lv_at hl 1 rfl) ?_
        refine lv_sipush (v := 128) hx hb dX2_tellInManyBytes_55 (by decide) ?_
        refine lv_iload_n hx hb dX2_tellInManyBytes_58 rfl (lv_at hl 0 rfl) ?_
        refine lv_bipush (v := 64) hx hb dX2_tellInManyBytes_59 (by decide) ?_
        refine lv_idiv hx hb dX2_tellInManyBytes_61 (by decide) ?_
        refine lv_bipush (v := 64) hx hb dX2_tellInManyBytes_62 (by decide) ?_
        refine lv_irem hx hb dX2_tellInManyBytes_64 (by decide) ?_
        refine lv_iadd hx hb dX2_tellInManyBytes_65 ?_
        refine wd_callVv (As := [.int (128 + ((p / 64) - (p / 64) / 64 * 64))]) (rest := []) (c2 := 0) (s2 := 0) ⟨hx, hb, hml, hown, hts⟩ (k_X0_add l D cI cT (rowSet w r rI cI n (r_add n (224 + (p / 4096)) X)) H.size r rI n (r_add n (224 + (p / 4096)) X) (128 + ((p / 64) - (p / 64) / 64 * 64)) hR_51) (cwV 1 hts gX2_tellInManyBytes_X0_add rfl rfl rfl (by decide +kernel) ⟨Nat.le_of_ble_eq_true rfl, Nat.le_of_ble_eq_true rfl⟩) gK_ok hK hW (wd_recv (ci := 0) hK.1 hW rfl hR_51.1) hS hA rfl hl.1 rfl (Nat.le_of_ble_eq_true rfl) dX2_tellInManyBytes_66 ⟨Nat.le_of_ble_eq_true rfl, Nat.le_of_ble_eq_true rfl⟩ rfl rfl (fun w_66 H locs hp_66 hW hz hS => ?_)
        subst w_66
        rw [rowSet_twice] at hW
        have hR_66 : rowAt (rowSet w r rI cI n (r_add n (128 + ((p / 64) - (p / 64) / 64 * 64)) (r_add n (224 + (p / 4096)) X))) r rI cI n (r_add n (128 + ((p / 64) - (p / 64) / 64 * 64)) (r_add n (224 + (p / 4096)) X)) := rowSet_at hR_51.ne (r_add_le hR_51.2.2.1) hR_51.2.2.2
        refine lv_goto (tgt := 115) hx hb dX2_tellInManyBytes_69 (by decide) ?_
        refine lv_aload_n hx hb dX2_tellInManyBytes_115 rfl (lv_at hl 1 rfl) ?_
        refine lv_sipush (v := 128) hx hb dX2_tellInManyBytes_116 (by decide) ?_
        refine lv_iload_n hx hb dX2_tellInManyBytes_119 rfl (lv_at hl 0 rfl) ?_
        refine lv_bipush (v := 64) hx hb dX2_tellInManyBytes_120 (by decide) ?_
        refine lv_irem hx hb dX2_tellInManyBytes_122 (by decide) ?_
        refine lv_iadd hx hb dX2_tellInManyBytes_123 ?_
        refine wd_callVv (As := [.int (128 + (p - p / 64 * 64))]) (rest := []) (c2 := 0) (s2 := 0) ⟨hx, hb, hml, hown, hts⟩ (k_X0_add l D cI cT (rowSet w r rI cI n (r_add n (128 + ((p / 64) - (p / 64) / 64 * 64)) (r_add n (224 + (p / 4096)) X))) H.size r rI n (r_add n (128 + ((p / 64) - (p / 64) / 64 * 64)) (r_add n (224 + (p / 4096)) X)) (128 + (p - p / 64 * 64)) hR_66) (cwV 1 hts gX2_tellInManyBytes_X0_add rfl rfl rfl (by decide +kernel) ⟨Nat.le_of_ble_eq_true rfl, Nat.le_of_ble_eq_true rfl⟩) gK_ok hK hW (wd_recv (ci := 0) hK.1 hW rfl hR_66.1) hS hA rfl hl.1 rfl (Nat.le_of_ble_eq_true rfl) dX2_tellInManyBytes_124 ⟨Nat.le_of_ble_eq_true rfl, Nat.le_of_ble_eq_true rfl⟩ rfl rfl (fun w_124 H locs hp_124 hW hz hS => ?_)
        subst w_124
        rw [rowSet_twice] at hW
        have hR_124 : rowAt (rowSet w r rI cI n (r_add n (128 + (p - p / 64 * 64)) (r_add n (128 + ((p / 64) - (p / 64) / 64 * 64)) (r_add n (224 + (p / 4096)) X)))) r rI cI n (r_add n (128 + (p - p / 64 * 64)) (r_add n (128 + ((p / 64) - (p / 64) / 64 * 64)) (r_add n (224 + (p / 4096)) X))) := rowSet_at hR_66.ne (r_add_le hR_66.2.2.1) hR_66.2.2.2
        refine wd_vret hx hb hr hlocks hW hS dX2_tellInManyBytes_127 ?_
        show _ = _
        rw [r_mb]
        simp [c_4, c_17, c_38]
    ·
      simp only [i_le, Decidable.not_not] at c_17
      refine lv_aload_n hx hb dX2_tellInManyBytes_20 rfl (lv_at hl 1 rfl) ?_
      refine lv_sipush (v := 192) hx hb dX2_tellInManyBytes_21 (by decide) ?_
      refine lv_iload_n hx hb dX2_tellInManyBytes_24 rfl (lv_at hl 0 rfl) ?_
      refine lv_bipush (v := 64) hx hb dX2_tellInManyBytes_25 (by decide) ?_
      refine lv_idiv hx hb dX2_tellInManyBytes_27 (by decide) ?_
      refine lv_iadd hx hb dX2_tellInManyBytes_28 ?_
      refine wd_callVv (As := [.int (192 + (p / 64))]) (rest := []) (c2 := 0) (s2 := 0) ⟨hx, hb, hml, hown, hts⟩ (k_X0_add l D cI cT w sg.heap.size r rI n X (192 + (p / 64)) hR) (cwV 1 hts gX2_tellInManyBytes_X0_add rfl rfl rfl (by decide +kernel) ⟨Nat.le_of_ble_eq_true rfl, Nat.le_of_ble_eq_true rfl⟩) gK_ok hK hW (wd_recv (ci := 0) hK.1 hW rfl hR.1) hS hA rfl hl.1 rfl (Nat.le_of_ble_eq_true rfl) dX2_tellInManyBytes_29 ⟨Nat.le_of_ble_eq_true rfl, Nat.le_of_ble_eq_true rfl⟩ rfl rfl (fun w_29 H locs hp_29 hW hz hS => ?_)
      subst w_29
      have hR_29 : rowAt (rowSet w r rI cI n (r_add n (192 + (p / 64)) X)) r rI cI n (r_add n (192 + (p / 64)) X) := rowSet_at hR.ne (r_add_le hR.2.2.1) hR.2.2.2
      refine lv_goto (tgt := 115) hx hb dX2_tellInManyBytes_32 (by decide) ?_
      refine lv_aload_n hx hb dX2_tellInManyBytes_115 rfl (lv_at hl 1 rfl) ?_
      refine lv_sipush (v := 128) hx hb dX2_tellInManyBytes_116 (by decide) ?_
      refine lv_iload_n hx hb dX2_tellInManyBytes_119 rfl (lv_at hl 0 rfl) ?_
      refine lv_bipush (v := 64) hx hb dX2_tellInManyBytes_120 (by decide) ?_
      refine lv_irem hx hb dX2_tellInManyBytes_122 (by decide) ?_
      refine lv_iadd hx hb dX2_tellInManyBytes_123 ?_
      refine wd_callVv (As := [.int (128 + (p - p / 64 * 64))]) (rest := []) (c2 := 0) (s2 := 0) ⟨hx, hb, hml, hown, hts⟩ (k_X0_add l D cI cT (rowSet w r rI cI n (r_add n (192 + (p / 64)) X)) H.size r rI n (r_add n (192 + (p / 64)) X) (128 + (p - p / 64 * 64)) hR_29) (cwV 1 hts gX2_tellInManyBytes_X0_add rfl rfl rfl (by decide +kernel) ⟨Nat.le_of_ble_eq_true rfl, Nat.le_of_ble_eq_true rfl⟩) gK_ok hK hW (wd_recv (ci := 0) hK.1 hW rfl hR_29.1) hS hA rfl hl.1 rfl (Nat.le_of_ble_eq_true rfl) dX2_tellInManyBytes_124 ⟨Nat.le_of_ble_eq_true rfl, Nat.le_of_ble_eq_true rfl⟩ rfl rfl (fun w_124 H locs hp_124 hW hz hS => ?_)
      subst w_124
      rw [rowSet_twice] at hW
      have hR_124 : rowAt (rowSet w r rI cI n (r_add n (128 + (p - p / 64 * 64)) (r_add n (192 + (p / 64)) X))) r rI cI n (r_add n (128 + (p - p / 64 * 64)) (r_add n (192 + (p / 64)) X)) := rowSet_at hR_29.ne (r_add_le hR_29.2.2.1) hR_29.2.2.2
      refine wd_vret hx hb hr hlocks hW hS dX2_tellInManyBytes_127 ?_
      show _ = _
      rw [r_mb]
      simp [c_4, c_17]
  ·
    simp only [i_le, Decidable.not_not] at c_4
    refine lv_aload_n hx hb dX2_tellInManyBytes_7 rfl (lv_at hl 1 rfl) ?_
    refine lv_iload_n hx hb dX2_tellInManyBytes_8 rfl (lv_at hl 0 rfl) ?_
    refine wd_callVv (As := [.int p]) (rest := []) (c2 := 0) (s2 := 0) ⟨hx, hb, hml, hown, hts⟩ (k_X0_add l D cI cT w sg.heap.size r rI n X p hR) (cwV 1 hts gX2_tellInManyBytes_X0_add rfl rfl rfl (by decide +kernel) ⟨Nat.le_of_ble_eq_true rfl, Nat.le_of_ble_eq_true rfl⟩) gK_ok hK hW (wd_recv (ci := 0) hK.1 hW rfl hR.1) hS hA rfl hl.1 rfl (Nat.le_of_ble_eq_true rfl) dX2_tellInManyBytes_9 ⟨Nat.le_of_ble_eq_true rfl, Nat.le_of_ble_eq_true rfl⟩ rfl rfl (fun w_9 H locs hp_9 hW hz hS => ?_)
    subst w_9
    have hR_9 : rowAt (rowSet w r rI cI n (r_add n p X)) r rI cI n (r_add n p X) := rowSet_at hR.ne (r_add_le hR.2.2.1) hR.2.2.2
    refine wd_vret hx hb hr hlocks hW hS dX2_tellInManyBytes_12 ?_
    show _ = _
    rw [r_mb]
    simp [c_4]
set_option maxHeartbeats 4000000 in
set_option maxRecDepth 100000 in
theorem k_X2_tellUnits (l : Launch) (D : va_G) (cI cT : ClassId) (w : Wd) (sz : Nat) (r2 : Nat) (rI2 : Nat) (n2 : Nat) (X2 : Rw) (form : Int32) (r : Nat) (rI : Nat) (n : Nat) (X : Rw) (hR2 : rowAt w r2 rI2 cI n2 X2) (hR : rowAt w r rI cI n X) (hn1 : r2 ≠ r) (hn2 : rI2 ≠ rI) : wd_Mv l D vwCl (gK D cI cT) yX2_tellUnits wsX2_tellUnits (wd_rm 1 0 0) [.ref r2, .int form, .ref r] w sz (fun w' => w' = rowSet w r rI cI n (r_tu n2 n form X2 X)) := by
  refine wd_met (cc := cX2_tellUnits) (maxL := 6) (ret := none) (by decide) rfl (Nat.le_of_ble_eq_true rfl) ?_
  intro pg ev sg mi bl mt cd ls C0 hsz hK hW hl
  obtain ⟨hx, hb, hr, hml, hown, hts, hlocks, hnm⟩ := C0
  subst hsz
  have hown : sg.vm.findClass RX2 = some mi.cls := hown
  have hS : va_S (wd_A w sg.heap.size) sg.heap sg.heap [] := va_S.rf
  have hA : ∀ q, sg.heap.size ≤ q → wd_A w sg.heap.size q := fun q h => Or.inr h
  have hl : lv_has ls 6 [(0, .ref r2), (1, .int form), (2, .ref r)] := hl
  have hX1 := hR.2.2.1
  have hX2 := hR.2.2.2
  have hY1 := hR2.2.2.1
  have hY2 := hR2.2.2.2
  refine lv_iconst (v := 0) hx hb dX2_tellUnits_0 (by decide) ?_
  refine lv_istore_n (lv' := [(3, .int 0), (0, .ref r2), (1, .int form), (2, .ref r)]) hx hb dX2_tellUnits_1 rfl hl (by decide) rfl (fun ls hl => ?_)
  refine wd_loop1 (fun (k : Nat) (H : Heap) (locs : List Loc) (ls : Array Slot) => k ≤ min X2.2 n2 ∧ wd_P D vwCl (wd_A w sg.heap.size) (rowSet w r rI cI n (itN (fun k Y => r_tu1 n form (X2.1 k) Y) k X)) H ∧ va_S (wd_A w sg.heap.size) sg.heap H locs ∧ lv_has ls 6 [(0, .ref r2), (1, .int form), (2, .ref r), (3, .int (nI k))]) (fun (k : Nat) => n2 - k) 0 ⟨Nat.zero_le _, (by rw [show itN (fun k Y => r_tu1 n form (X2.1 k) Y) 0 X = X from rfl, rowSet_self hR]; exact hW), hS, (lv_sub hl [1, 2, 3, 0] rfl)⟩ (fun k H locs ls hI ih => ?_)
  obtain ⟨hk, hW, hS, hl⟩ := hI
  have hRk : rowAt (rowSet w r rI cI n (itN (fun k Y => r_tu1 n form (X2.1 k) Y) k X)) r rI cI n (itN (fun k Y => r_tu1 n form (X2.1 k) Y) k X) := rowSet_at hR.ne (itN_le (fun _ _ h => r_tu1_le h) _ _ hR.2.2.1) hR.2.2.2
  have fo_r2_k : (rowSet w r rI cI n (itN (fun k Y => r_tu1 n form (X2.1 k) Y) k X)) r2 = some (.inr (0, [.ref rI2, .int (nI X2.2)])) := (rowSet_ne hn1 (wd_ne hR2.1 hR.2.1 (by simp))).trans hR2.1
  have fo_rI2_k : (rowSet w r rI cI n (itN (fun k Y => r_tu1 n form (X2.1 k) Y) k X)) rI2 = some (.inl (cI, n2, .inl X2.1)) := (rowSet_ne (wd_ne hR2.2.1 hR.1 (by simp)) hn2).trans hR2.2.1
  refine lv_iload_n hx hb dX2_tellUnits_2 rfl (lv_at hl 3 rfl) ?_
  refine lv_aload_n hx hb dX2_tellUnits_3 rfl (lv_at hl 0 rfl) ?_
  refine wd_get (ci := 0) (v := .int (nI X2.2)) (C := RX0) (T := TX0) (N := 2) hx hb hts (by decide +kernel) hown hK.1 hW fo_r2_k rfl 1 (by decide) (hts (.fieldLink RX2 48 "CharRows$Row" "count" "I") (by decide +kernel)) (fun _ h9 => h9) rfl dX2_tellUnits_4 ?_
  refine lv_icmp_ge (tgt := 81) hx hb dX2_tellUnits_7 (by decide) (fun c_7 => ?_) (fun c_7 => ?_)
  ·
    have c_7 : X2.2 ≤ k := (nI_leI (by omega) (by omega)).mp (show (nI X2.2 ≤ nI k) from c_7)
    refine wd_vret hx hb hr hlocks hW hS dX2_tellUnits_81 ?_
    show _ = _
    rw [r_tu, show min X2.2 n2 = k by omega]
  ·
    have c_7 : ¬ (X2.2 ≤ k) := fun q9 => absurd ((nI_leI (by omega) (by omega)).mpr q9) (show ¬ (nI X2.2 ≤ nI k) from c_7)
    refine lv_iload_n hx hb dX2_tellUnits_10 rfl (lv_at hl 3 rfl) ?_
    refine lv_aload_n hx hb dX2_tellUnits_11 rfl (lv_at hl 0 rfl) ?_
    refine wd_get (ci := 0) (v := .ref rI2) (C := RX0) (T := TX0) (N := 2) hx hb hts (by decide +kernel) hown hK.1 hW fo_r2_k rfl 0 (by decide) (hts (.fieldLink RX2 74 "CharRows$Row" "items" "[I") (by decide +kernel)) (fun _ h9 => h9) rfl dX2_tellUnits_12 ?_
    refine wd_alen hx hb hK.1 hW 0 fo_rI2_k rfl dX2_tellUnits_15 ?_
    refine lv_icmp_ge (tgt := 81) hx hb dX2_tellUnits_16 (by decide) (fun c_16 => ?_) (fun c_16 => ?_)
    ·
      have c_16 : n2 ≤ k := (nI_leI (by omega) (by omega)).mp (show (nI n2 ≤ nI k) from c_16)
      refine wd_vret hx hb hr hlocks hW hS dX2_tellUnits_81 ?_
      show _ = _
      rw [r_tu, show min X2.2 n2 = k by omega]
    ·
      have c_16 : ¬ (n2 ≤ k) := fun q9 => absurd ((nI_leI (by omega) (by omega)).mpr q9) (show ¬ (nI n2 ≤ nI k) from c_16)
      refine lv_aload_n hx hb dX2_tellUnits_19 rfl (lv_at hl 0 rfl) ?_
      refine wd_get (ci := 0) (v := .ref rI2) (C := RX0) (T := TX0) (N := 2) hx hb hts (by decide +kernel) hown hK.1 hW fo_r2_k rfl 0 (by decide) (hts (.fieldLink RX2 74 "CharRows$Row" "items" "[I") (by decide +kernel)) (fun _ h9 => h9) rfl dX2_tellUnits_20 ?_
      refine lv_iload_n hx hb dX2_tellUnits_23 rfl (lv_at hl 3 rfl) ?_
      refine wd_iald hx hb hK.1 hW 0 fo_rI2_k rfl (vp_in_nI (by omega) (by omega)) dX2_tellUnits_24 ?_
      refine wd_topE (y := X2.1 k) (by rw [nI_clamp (by omega)]) ?_
      refine lv_sipush (v := 256) hx hb dX2_tellUnits_25 (by decide) ?_
      refine lv_idiv hx hb dX2_tellUnits_28 (by decide) ?_
      refine lv_istore (lv' := [(4, .int ((X2.1 k) / 256)), (0, .ref r2), (1, .int form), (2, .ref r), (3, .int (nI k))]) hx hb dX2_tellUnits_29 hl (by decide) rfl (fun ls hl => ?_)
      refine lv_aload_n hx hb dX2_tellUnits_31 rfl (lv_at hl 1 rfl) ?_
      refine wd_get (ci := 0) (v := .ref rI2) (C := RX0) (T := TX0) (N := 2) hx hb hts (by decide +kernel) hown hK.1 hW fo_r2_k rfl 0 (by decide) (hts (.fieldLink RX2 74 "CharRows$Row" "items" "[I") (by decide +kernel)) (fun _ h9 => h9) rfl dX2_tellUnits_32 ?_
      refine lv_iload_n hx hb dX2_tellUnits_35 rfl (lv_at hl 4 rfl) ?_
      refine wd_iald hx hb hK.1 hW 0 fo_rI2_k rfl (vp_in_nI (by omega) (by omega)) dX2_tellUnits_36 ?_
      refine wd_topE (y := X2.1 k) (by rw [nI_clamp (by omega)]) ?_
      refine lv_sipush (v := 256) hx hb dX2_tellUnits_37 (by decide) ?_
      refine lv_irem hx hb dX2_tellUnits_40 (by decide) ?_
      refine lv_istore (lv' := [(5, .int ((X2.1 k) - (X2.1 k) / 256 * 256)), (4, .int ((X2.1 k) / 256)), (0, .ref r2), (1, .int form), (2, .ref r), (3, .int (nI k))]) hx hb dX2_tellUnits_41 hl (by decide) rfl (fun ls hl => ?_)
      refine lv_aload_n hx hb dX2_tellUnits_43 rfl (lv_at hl 4 rfl) ?_
      refine lv_iload_n hx hb dX2_tellUnits_44 rfl (lv_at hl 3 rfl) ?_
      refine lv_iconst (v := 1) hx hb dX2_tellUnits_45 (by decide) ?_
      refine lv_icmp_ne (tgt := 54) hx hb dX2_tellUnits_46 (by decide) (fun c_46 => ?_) (fun c_46 => ?_)
      ·
        refine lv_iload hx hb dX2_tellUnits_54 (lv_at hl 0 rfl) ?_
        refine wd_callVv (As := [.int ((X2.1 k) - (X2.1 k) / 256 * 256)]) (rest := []) (c2 := 0) (s2 := 0) ⟨hx, hb, hml, hown, hts⟩ (k_X0_add l D cI cT (rowSet w r rI cI n (itN (fun k Y => r_tu1 n form (X2.1 k) Y) k X)) H.size r rI n (itN (fun k Y => r_tu1 n form (X2.1 k) Y) k X) ((X2.1 k) - (X2.1 k) / 256 * 256) hRk) (cwV 1 hts gX2_tellUnits_X0_add rfl rfl rfl (by decide +kernel) ⟨Nat.le_of_ble_eq_true rfl, Nat.le_of_ble_eq_true rfl⟩) gK_ok hK hW (wd_recv (ci := 0) hK.1 hW rfl hRk.1) hS hA rfl hl.1 rfl (Nat.le_of_ble_eq_true rfl) dX2_tellUnits_56 ⟨Nat.le_of_ble_eq_true rfl, Nat.le_of_ble_eq_true rfl⟩ rfl rfl (fun w_56 H locs hp_56 hW hz hS => ?_)
        subst w_56
        rw [rowSet_twice] at hW
        have hR_56 : rowAt (rowSet w r rI cI n (r_add n ((X2.1 k) - (X2.1 k) / 256 * 256) (itN (fun k Y => r_tu1 n form (X2.1 k) Y) k X))) r rI cI n (r_add n ((X2.1 k) - (X2.1 k) / 256 * 256) (itN (fun k Y => r_tu1 n form (X2.1 k) Y) k X)) := rowSet_at hRk.ne (r_add_le hRk.2.2.1) hRk.2.2.2
        have fo_r2_56 : (rowSet w r rI cI n (r_add n ((X2.1 k) - (X2.1 k) / 256 * 256) (itN (fun k Y => r_tu1 n form (X2.1 k) Y) k X))) r2 = some (.inr (0, [.ref rI2, .int (nI X2.2)])) := (rowSet_ne hn1 (wd_ne hR2.1 hR.2.1 (by simp))).trans hR2.1
        have fo_rI2_56 : (rowSet w r rI cI n (r_add n ((X2.1 k) - (X2.1 k) / 256 * 256) (itN (fun k Y => r_tu1 n form (X2.1 k) Y) k X))) rI2 = some (.inl (cI, n2, .inl X2.1)) := (rowSet_ne (wd_ne hR2.2.1 hR.1 (by simp)) hn2).trans hR2.2.1
        refine lv_aload_n hx hb dX2_tellUnits_59 rfl (lv_at hl 4 rfl) ?_
        refine lv_iload_n hx hb dX2_tellUnits_60 rfl (lv_at hl 3 rfl) ?_
        refine lv_iconst (v := 1) hx hb dX2_tellUnits_61 (by decide) ?_
        refine lv_icmp_ne (tgt := 70) hx hb dX2_tellUnits_62 (by decide) (fun c_62 => ?_) (fun c_62 => ?_)
        ·
          refine lv_iload hx hb dX2_tellUnits_70 (lv_at hl 1 rfl) ?_
          refine wd_callVv (As := [.int ((X2.1 k) / 256)]) (rest := []) (c2 := 0) (s2 := 0) ⟨hx, hb, hml, hown, hts⟩ (k_X0_add l D cI cT (rowSet w r rI cI n (r_add n ((X2.1 k) - (X2.1 k) / 256 * 256) (itN (fun k Y => r_tu1 n form (X2.1 k) Y) k X))) H.size r rI n (r_add n ((X2.1 k) - (X2.1 k) / 256 * 256) (itN (fun k Y => r_tu1 n form (X2.1 k) Y) k X)) ((X2.1 k) / 256) hR_56) (cwV 1 hts gX2_tellUnits_X0_add rfl rfl rfl (by decide +kernel) ⟨Nat.le_of_ble_eq_true rfl, Nat.le_of_ble_eq_true rfl⟩) gK_ok hK hW (wd_recv (ci := 0) hK.1 hW rfl hR_56.1) hS hA rfl hl.1 rfl (Nat.le_of_ble_eq_true rfl) dX2_tellUnits_72 ⟨Nat.le_of_ble_eq_true rfl, Nat.le_of_ble_eq_true rfl⟩ rfl rfl (fun w_72 H locs hp_72 hW hz hS => ?_)
          subst w_72
          rw [rowSet_twice] at hW
          have hR_72 : rowAt (rowSet w r rI cI n (r_add n ((X2.1 k) / 256) (r_add n ((X2.1 k) - (X2.1 k) / 256 * 256) (itN (fun k Y => r_tu1 n form (X2.1 k) Y) k X)))) r rI cI n (r_add n ((X2.1 k) / 256) (r_add n ((X2.1 k) - (X2.1 k) / 256 * 256) (itN (fun k Y => r_tu1 n form (X2.1 k) Y) k X))) := rowSet_at hR_56.ne (r_add_le hR_56.2.2.1) hR_56.2.2.2
          have fo_r2_72 : (rowSet w r rI cI n (r_add n ((X2.1 k) / 256) (r_add n ((X2.1 k) - (X2.1 k) / 256 * 256) (itN (fun k Y => r_tu1 n form (X2.1 k) Y) k X)))) r2 = some (.inr (0, [.ref rI2, .int (nI X2.2)])) := (rowSet_ne hn1 (wd_ne hR2.1 hR.2.1 (by simp))).trans hR2.1
          have fo_rI2_72 : (rowSet w r rI cI n (r_add n ((X2.1 k) / 256) (r_add n ((X2.1 k) - (X2.1 k) / 256 * 256) (itN (fun k Y => r_tu1 n form (X2.1 k) Y) k X)))) rI2 = some (.inl (cI, n2, .inl X2.1)) := (rowSet_ne (wd_ne hR2.2.1 hR.1 (by simp)) hn2).trans hR2.2.1
          refine lv_iinc (v := nI (k + 1)) (lv' := [(3, .int (nI (k + 1))), (5, .int ((X2.1 k) - (X2.1 k) / 256 * 256)), (4, .int ((X2.1 k) / 256)), (0, .ref r2), (1, .int form), (2, .ref r)]) hx hb dX2_tellUnits_75 hl (k := 5) rfl (nI_add k 1) (by decide) rfl (fun ls hl => ?_)
          refine lv_goto (tgt := 2) hx hb dX2_tellUnits_78 (by decide) ?_
          exact ih (k + 1) H locs ls ⟨(by omega), (by rw [show itN (fun k Y => r_tu1 n form (X2.1 k) Y) (k + 1) X = r_add n ((X2.1 k) / 256) (r_add n ((X2.1 k) - (X2.1 k) / 256 * 256) (itN (fun k Y => r_tu1 n form (X2.1 k) Y) k X)) from by (show r_tu1 n form (X2.1 k) _ = _; rw [r_tu1, if_neg c_46, if_neg c_46])]; exact hW), hS, (lv_sub hl [3, 4, 5, 0] rfl)⟩ (by omega)
        ·
          exact absurd c_62 c_46
      ·
        refine lv_iload hx hb dX2_tellUnits_49 (lv_at hl 1 rfl) ?_
        refine lv_goto (tgt := 56) hx hb dX2_tellUnits_51 (by decide) ?_
        refine wd_callVv (As := [.int ((X2.1 k) / 256)]) (rest := []) (c2 := 0) (s2 := 0) ⟨hx, hb, hml, hown, hts⟩ (k_X0_add l D cI cT (rowSet w r rI cI n (itN (fun k Y => r_tu1 n form (X2.1 k) Y) k X)) H.size r rI n (itN (fun k Y => r_tu1 n form (X2.1 k) Y) k X) ((X2.1 k) / 256) hRk) (cwV 1 hts gX2_tellUnits_X0_add rfl rfl rfl (by decide +kernel) ⟨Nat.le_of_ble_eq_true rfl, Nat.le_of_ble_eq_true rfl⟩) gK_ok hK hW (wd_recv (ci := 0) hK.1 hW rfl hRk.1) hS hA rfl hl.1 rfl (Nat.le_of_ble_eq_true rfl) dX2_tellUnits_56 ⟨Nat.le_of_ble_eq_true rfl, Nat.le_of_ble_eq_true rfl⟩ rfl rfl (fun w_56 H locs hp_56 hW hz hS => ?_)
        subst w_56
        rw [rowSet_twice] at hW
        have hR_56 : rowAt (rowSet w r rI cI n (r_add n ((X2.1 k) / 256) (itN (fun k Y => r_tu1 n form (X2.1 k) Y) k X))) r rI cI n (r_add n ((X2.1 k) / 256) (itN (fun k Y => r_tu1 n form (X2.1 k) Y) k X)) := rowSet_at hRk.ne (r_add_le hRk.2.2.1) hRk.2.2.2
        have fo_r2_56 : (rowSet w r rI cI n (r_add n ((X2.1 k) / 256) (itN (fun k Y => r_tu1 n form (X2.1 k) Y) k X))) r2 = some (.inr (0, [.ref rI2, .int (nI X2.2)])) := (rowSet_ne hn1 (wd_ne hR2.1 hR.2.1 (by simp))).trans hR2.1
        have fo_rI2_56 : (rowSet w r rI cI n (r_add n ((X2.1 k) / 256) (itN (fun k Y => r_tu1 n form (X2.1 k) Y) k X))) rI2 = some (.inl (cI, n2, .inl X2.1)) := (rowSet_ne (wd_ne hR2.2.1 hR.1 (by simp)) hn2).trans hR2.2.1
        refine lv_aload_n hx hb dX2_tellUnits_59 rfl (lv_at hl 4 rfl) ?_
        refine lv_iload_n hx hb dX2_tellUnits_60 rfl (lv_at hl 3 rfl) ?_
        refine lv_iconst (v := 1) hx hb dX2_tellUnits_61 (by decide) ?_
        refine lv_icmp_ne (tgt := 70) hx hb dX2_tellUnits_62 (by decide) (fun c_62 => ?_) (fun c_62 => ?_)
        ·
          exact absurd c_46 c_62
        ·
          refine lv_iload hx hb dX2_tellUnits_65 (lv_at hl 0 rfl) ?_
          refine lv_goto (tgt := 72) hx hb dX2_tellUnits_67 (by decide) ?_
          refine wd_callVv (As := [.int ((X2.1 k) - (X2.1 k) / 256 * 256)]) (rest := []) (c2 := 0) (s2 := 0) ⟨hx, hb, hml, hown, hts⟩ (k_X0_add l D cI cT (rowSet w r rI cI n (r_add n ((X2.1 k) / 256) (itN (fun k Y => r_tu1 n form (X2.1 k) Y) k X))) H.size r rI n (r_add n ((X2.1 k) / 256) (itN (fun k Y => r_tu1 n form (X2.1 k) Y) k X)) ((X2.1 k) - (X2.1 k) / 256 * 256) hR_56) (cwV 1 hts gX2_tellUnits_X0_add rfl rfl rfl (by decide +kernel) ⟨Nat.le_of_ble_eq_true rfl, Nat.le_of_ble_eq_true rfl⟩) gK_ok hK hW (wd_recv (ci := 0) hK.1 hW rfl hR_56.1) hS hA rfl hl.1 rfl (Nat.le_of_ble_eq_true rfl) dX2_tellUnits_72 ⟨Nat.le_of_ble_eq_true rfl, Nat.le_of_ble_eq_true rfl⟩ rfl rfl (fun w_72 H locs hp_72 hW hz hS => ?_)
          subst w_72
          rw [rowSet_twice] at hW
          have hR_72 : rowAt (rowSet w r rI cI n (r_add n ((X2.1 k) - (X2.1 k) / 256 * 256) (r_add n ((X2.1 k) / 256) (itN (fun k Y => r_tu1 n form (X2.1 k) Y) k X)))) r rI cI n (r_add n ((X2.1 k) - (X2.1 k) / 256 * 256) (r_add n ((X2.1 k) / 256) (itN (fun k Y => r_tu1 n form (X2.1 k) Y) k X))) := rowSet_at hR_56.ne (r_add_le hR_56.2.2.1) hR_56.2.2.2
          have fo_r2_72 : (rowSet w r rI cI n (r_add n ((X2.1 k) - (X2.1 k) / 256 * 256) (r_add n ((X2.1 k) / 256) (itN (fun k Y => r_tu1 n form (X2.1 k) Y) k X)))) r2 = some (.inr (0, [.ref rI2, .int (nI X2.2)])) := (rowSet_ne hn1 (wd_ne hR2.1 hR.2.1 (by simp))).trans hR2.1
          have fo_rI2_72 : (rowSet w r rI cI n (r_add n ((X2.1 k) - (X2.1 k) / 256 * 256) (r_add n ((X2.1 k) / 256) (itN (fun k Y => r_tu1 n form (X2.1 k) Y) k X)))) rI2 = some (.inl (cI, n2, .inl X2.1)) := (rowSet_ne (wd_ne hR2.2.1 hR.1 (by simp)) hn2).trans hR2.2.1
          refine lv_iinc (v := nI (k + 1)) (lv' := [(3, .int (nI (k + 1))), (5, .int ((X2.1 k) - (X2.1 k) / 256 * 256)), (4, .int ((X2.1 k) / 256)), (0, .ref r2), (1, .int form), (2, .ref r)]) hx hb dX2_tellUnits_75 hl (k := 5) rfl (nI_add k 1) (by decide) rfl (fun ls hl => ?_)
          refine lv_goto (tgt := 2) hx hb dX2_tellUnits_78 (by decide) ?_
          exact ih (k + 1) H locs ls ⟨(by omega), (by rw [show itN (fun k Y => r_tu1 n form (X2.1 k) Y) (k + 1) X = r_add n ((X2.1 k) - (X2.1 k) / 256 * 256) (r_add n ((X2.1 k) / 256) (itN (fun k Y => r_tu1 n form (X2.1 k) Y) k X)) from by (show r_tu1 n form (X2.1 k) _ = _; rw [r_tu1, if_pos (by simpa using c_46), if_pos (by simpa using c_46)])]; exact hW), hS, (lv_sub hl [3, 4, 5, 0] rfl)⟩ (by omega)
set_option maxHeartbeats 4000000 in
set_option maxRecDepth 100000 in
theorem k_X2_tellPoints (l : Launch) (D : va_G) (cI cT : ClassId) (w : Wd) (sz : Nat) (r2 : Nat) (rI2 : Nat) (n2 : Nat) (X2 : Rw) (form : Int32) (r : Nat) (rI : Nat) (n : Nat) (X : Rw) (hR2 : rowAt w r2 rI2 cI n2 X2) (hR : rowAt w r rI cI n X) (hn1 : r2 ≠ r) (hn2 : rI2 ≠ rI) : wd_Mv l D vwCl (gK D cI cT) yX2_tellPoints wsX2_tellPoints (wd_rm 2 0 0) [.ref r2, .int form, .ref r] w sz (fun w' => w' = rowSet w r rI cI n (r_tp n2 n form X2 X)) := by
  refine wd_met (cc := cX2_tellPoints) (maxL := 4) (ret := none) (by decide) rfl (Nat.le_of_ble_eq_true rfl) ?_
  intro pg ev sg mi bl mt cd ls C0 hsz hK hW hl
  obtain ⟨hx, hb, hr, hml, hown, hts, hlocks, hnm⟩ := C0
  subst hsz
  have hown : sg.vm.findClass RX2 = some mi.cls := hown
  have hS : va_S (wd_A w sg.heap.size) sg.heap sg.heap [] := va_S.rf
  have hA : ∀ q, sg.heap.size ≤ q → wd_A w sg.heap.size q := fun q h => Or.inr h
  have hl : lv_has ls 4 [(0, .ref r2), (1, .int form), (2, .ref r)] := hl
  have hX1 := hR.2.2.1
  have hX2 := hR.2.2.2
  have hY1 := hR2.2.2.1
  have hY2 := hR2.2.2.2
  refine lv_iconst (v := 0) hx hb dX2_tellPoints_0 (by decide) ?_
  refine lv_istore_n (lv' := [(3, .int 0), (0, .ref r2), (1, .int form), (2, .ref r)]) hx hb dX2_tellPoints_1 rfl hl (by decide) rfl (fun ls hl => ?_)
  refine wd_loop1 (fun (k : Nat) (H : Heap) (locs : List Loc) (ls : Array Slot) => k ≤ min X2.2 n2 ∧ wd_P D vwCl (wd_A w sg.heap.size) (rowSet w r rI cI n (itN (fun k Y => if form = 3 then r_add n (X2.1 k) Y else r_mb n (X2.1 k) Y) k X)) H ∧ va_S (wd_A w sg.heap.size) sg.heap H locs ∧ lv_has ls 4 [(0, .ref r2), (1, .int form), (2, .ref r), (3, .int (nI k))]) (fun (k : Nat) => n2 - k) 0 ⟨Nat.zero_le _, (by rw [show itN (fun k Y => if form = 3 then r_add n (X2.1 k) Y else r_mb n (X2.1 k) Y) 0 X = X from rfl, rowSet_self hR]; exact hW), hS, (lv_sub hl [1, 2, 3, 0] rfl)⟩ (fun k H locs ls hI ih => ?_)
  obtain ⟨hk, hW, hS, hl⟩ := hI
  have hRk : rowAt (rowSet w r rI cI n (itN (fun k Y => if form = 3 then r_add n (X2.1 k) Y else r_mb n (X2.1 k) Y) k X)) r rI cI n (itN (fun k Y => if form = 3 then r_add n (X2.1 k) Y else r_mb n (X2.1 k) Y) k X) := rowSet_at hR.ne (itN_le (fun _ _ h => (by split; exact r_add_le h; exact r_mb_le h)) _ _ hR.2.2.1) hR.2.2.2
  have fo_r2_k : (rowSet w r rI cI n (itN (fun k Y => if form = 3 then r_add n (X2.1 k) Y else r_mb n (X2.1 k) Y) k X)) r2 = some (.inr (0, [.ref rI2, .int (nI X2.2)])) := (rowSet_ne hn1 (wd_ne hR2.1 hR.2.1 (by simp))).trans hR2.1
  have fo_rI2_k : (rowSet w r rI cI n (itN (fun k Y => if form = 3 then r_add n (X2.1 k) Y else r_mb n (X2.1 k) Y) k X)) rI2 = some (.inl (cI, n2, .inl X2.1)) := (rowSet_ne (wd_ne hR2.2.1 hR.1 (by simp)) hn2).trans hR2.2.1
  refine lv_iload_n hx hb dX2_tellPoints_2 rfl (lv_at hl 3 rfl) ?_
  refine lv_aload_n hx hb dX2_tellPoints_3 rfl (lv_at hl 0 rfl) ?_
  refine wd_get (ci := 0) (v := .int (nI X2.2)) (C := RX0) (T := TX0) (N := 2) hx hb hts (by decide +kernel) hown hK.1 hW fo_r2_k rfl 1 (by decide) (hts (.fieldLink RX2 48 "CharRows$Row" "count" "I") (by decide +kernel)) (fun _ h9 => h9) rfl dX2_tellPoints_4 ?_
  refine lv_icmp_ge (tgt := 53) hx hb dX2_tellPoints_7 (by decide) (fun c_7 => ?_) (fun c_7 => ?_)
  ·
    have c_7 : X2.2 ≤ k := (nI_leI (by omega) (by omega)).mp (show (nI X2.2 ≤ nI k) from c_7)
    refine wd_vret hx hb hr hlocks hW hS dX2_tellPoints_53 ?_
    show _ = _
    rw [r_tp, show min X2.2 n2 = k by omega]
  ·
    have c_7 : ¬ (X2.2 ≤ k) := fun q9 => absurd ((nI_leI (by omega) (by omega)).mpr q9) (show ¬ (nI X2.2 ≤ nI k) from c_7)
    refine lv_iload_n hx hb dX2_tellPoints_10 rfl (lv_at hl 3 rfl) ?_
    refine lv_aload_n hx hb dX2_tellPoints_11 rfl (lv_at hl 0 rfl) ?_
    refine wd_get (ci := 0) (v := .ref rI2) (C := RX0) (T := TX0) (N := 2) hx hb hts (by decide +kernel) hown hK.1 hW fo_r2_k rfl 0 (by decide) (hts (.fieldLink RX2 74 "CharRows$Row" "items" "[I") (by decide +kernel)) (fun _ h9 => h9) rfl dX2_tellPoints_12 ?_
    refine wd_alen hx hb hK.1 hW 0 fo_rI2_k rfl dX2_tellPoints_15 ?_
    refine lv_icmp_ge (tgt := 53) hx hb dX2_tellPoints_16 (by decide) (fun c_16 => ?_) (fun c_16 => ?_)
    ·
      have c_16 : n2 ≤ k := (nI_leI (by omega) (by omega)).mp (show (nI n2 ≤ nI k) from c_16)
      refine wd_vret hx hb hr hlocks hW hS dX2_tellPoints_53 ?_
      show _ = _
      rw [r_tp, show min X2.2 n2 = k by omega]
    ·
      have c_16 : ¬ (n2 ≤ k) := fun q9 => absurd ((nI_leI (by omega) (by omega)).mpr q9) (show ¬ (nI n2 ≤ nI k) from c_16)
      refine lv_iload_n hx hb dX2_tellPoints_19 rfl (lv_at hl 1 rfl) ?_
      refine lv_iconst (v := 3) hx hb dX2_tellPoints_20 (by decide) ?_
      refine lv_icmp_ne (tgt := 37) hx hb dX2_tellPoints_21 (by decide) (fun c_21 => ?_) (fun c_21 => ?_)
      ·
        refine lv_aload_n hx hb dX2_tellPoints_37 rfl (lv_at hl 0 rfl) ?_
        refine wd_get (ci := 0) (v := .ref rI2) (C := RX0) (T := TX0) (N := 2) hx hb hts (by decide +kernel) hown hK.1 hW fo_r2_k rfl 0 (by decide) (hts (.fieldLink RX2 74 "CharRows$Row" "items" "[I") (by decide +kernel)) (fun _ h9 => h9) rfl dX2_tellPoints_38 ?_
        refine lv_iload_n hx hb dX2_tellPoints_41 rfl (lv_at hl 3 rfl) ?_
        refine wd_iald hx hb hK.1 hW 0 fo_rI2_k rfl (vp_in_nI (by omega) (by omega)) dX2_tellPoints_42 ?_
        refine wd_topE (y := X2.1 k) (by rw [nI_clamp (by omega)]) ?_
        refine lv_aload_n hx hb dX2_tellPoints_43 rfl (lv_at hl 2 rfl) ?_
        refine wd_callSv (As := [.int (X2.1 k), .ref r]) (rest := []) (c2 := 0) (s2 := 0) ⟨hx, hb, hml, hown, hts⟩ (k_X2_tellInManyBytes l D cI cT (rowSet w r rI cI n (itN (fun k Y => if form = 3 then r_add n (X2.1 k) Y else r_mb n (X2.1 k) Y) k X)) H.size r rI n (itN (fun k Y => if form = 3 then r_add n (X2.1 k) Y else r_mb n (X2.1 k) Y) k X) (X2.1 k) hRk) (va_cwS 2 hts gX2_tellPoints_X2_tellInManyBytes rfl rfl rfl (by decide +kernel) ⟨Nat.le_of_ble_eq_true rfl, Nat.le_of_ble_eq_true rfl⟩) gK_ok hK hW hS hA rfl hl.1 rfl (Nat.le_of_ble_eq_true rfl) dX2_tellPoints_44 ⟨Nat.le_of_ble_eq_true rfl, Nat.le_of_ble_eq_true rfl⟩ rfl rfl (fun w_44 H locs hp_44 hW hz hS => ?_)
        subst w_44
        rw [rowSet_twice] at hW
        have hR_44 : rowAt (rowSet w r rI cI n (r_mb n (X2.1 k) (itN (fun k Y => if form = 3 then r_add n (X2.1 k) Y else r_mb n (X2.1 k) Y) k X))) r rI cI n (r_mb n (X2.1 k) (itN (fun k Y => if form = 3 then r_add n (X2.1 k) Y else r_mb n (X2.1 k) Y) k X)) := rowSet_at hRk.ne (r_mb_le hRk.2.2.1) hRk.2.2.2
        have fo_r2_44 : (rowSet w r rI cI n (r_mb n (X2.1 k) (itN (fun k Y => if form = 3 then r_add n (X2.1 k) Y else r_mb n (X2.1 k) Y) k X))) r2 = some (.inr (0, [.ref rI2, .int (nI X2.2)])) := (rowSet_ne hn1 (wd_ne hR2.1 hR.2.1 (by simp))).trans hR2.1
        have fo_rI2_44 : (rowSet w r rI cI n (r_mb n (X2.1 k) (itN (fun k Y => if form = 3 then r_add n (X2.1 k) Y else r_mb n (X2.1 k) Y) k X))) rI2 = some (.inl (cI, n2, .inl X2.1)) := (rowSet_ne (wd_ne hR2.2.1 hR.1 (by simp)) hn2).trans hR2.2.1
        refine lv_iinc (v := nI (k + 1)) (lv' := [(3, .int (nI (k + 1))), (0, .ref r2), (1, .int form), (2, .ref r)]) hx hb dX2_tellPoints_47 hl (k := 3) rfl (nI_add k 1) (by decide) rfl (fun ls hl => ?_)
        refine lv_goto (tgt := 2) hx hb dX2_tellPoints_50 (by decide) ?_
        exact ih (k + 1) H locs ls ⟨(by omega), (by rw [show itN (fun k Y => if form = 3 then r_add n (X2.1 k) Y else r_mb n (X2.1 k) Y) (k + 1) X = r_mb n (X2.1 k) (itN (fun k Y => if form = 3 then r_add n (X2.1 k) Y else r_mb n (X2.1 k) Y) k X) from by (show (if form = 3 then _ else _) = _; rw [if_neg c_21])]; exact hW), hS, (lv_sub hl [1, 2, 3, 0] rfl)⟩ (by omega)
      ·
        refine lv_aload_n hx hb dX2_tellPoints_24 rfl (lv_at hl 2 rfl) ?_
        refine lv_aload_n hx hb dX2_tellPoints_25 rfl (lv_at hl 0 rfl) ?_
        refine wd_get (ci := 0) (v := .ref rI2) (C := RX0) (T := TX0) (N := 2) hx hb hts (by decide +kernel) hown hK.1 hW fo_r2_k rfl 0 (by decide) (hts (.fieldLink RX2 74 "CharRows$Row" "items" "[I") (by decide +kernel)) (fun _ h9 => h9) rfl dX2_tellPoints_26 ?_
        refine lv_iload_n hx hb dX2_tellPoints_29 rfl (lv_at hl 3 rfl) ?_
        refine wd_iald hx hb hK.1 hW 0 fo_rI2_k rfl (vp_in_nI (by omega) (by omega)) dX2_tellPoints_30 ?_
        refine wd_topE (y := X2.1 k) (by rw [nI_clamp (by omega)]) ?_
        refine wd_callVv (As := [.int (X2.1 k)]) (rest := []) (c2 := 0) (s2 := 0) ⟨hx, hb, hml, hown, hts⟩ (k_X0_add l D cI cT (rowSet w r rI cI n (itN (fun k Y => if form = 3 then r_add n (X2.1 k) Y else r_mb n (X2.1 k) Y) k X)) H.size r rI n (itN (fun k Y => if form = 3 then r_add n (X2.1 k) Y else r_mb n (X2.1 k) Y) k X) (X2.1 k) hRk) (cwV 1 hts gX2_tellPoints_X0_add rfl rfl rfl (by decide +kernel) ⟨Nat.le_of_ble_eq_true rfl, Nat.le_of_ble_eq_true rfl⟩) gK_ok hK hW (wd_recv (ci := 0) hK.1 hW rfl hRk.1) hS hA rfl hl.1 rfl (Nat.le_of_ble_eq_true rfl) dX2_tellPoints_31 ⟨Nat.le_of_ble_eq_true rfl, Nat.le_of_ble_eq_true rfl⟩ rfl rfl (fun w_31 H locs hp_31 hW hz hS => ?_)
        subst w_31
        rw [rowSet_twice] at hW
        have hR_31 : rowAt (rowSet w r rI cI n (r_add n (X2.1 k) (itN (fun k Y => if form = 3 then r_add n (X2.1 k) Y else r_mb n (X2.1 k) Y) k X))) r rI cI n (r_add n (X2.1 k) (itN (fun k Y => if form = 3 then r_add n (X2.1 k) Y else r_mb n (X2.1 k) Y) k X)) := rowSet_at hRk.ne (r_add_le hRk.2.2.1) hRk.2.2.2
        have fo_r2_31 : (rowSet w r rI cI n (r_add n (X2.1 k) (itN (fun k Y => if form = 3 then r_add n (X2.1 k) Y else r_mb n (X2.1 k) Y) k X))) r2 = some (.inr (0, [.ref rI2, .int (nI X2.2)])) := (rowSet_ne hn1 (wd_ne hR2.1 hR.2.1 (by simp))).trans hR2.1
        have fo_rI2_31 : (rowSet w r rI cI n (r_add n (X2.1 k) (itN (fun k Y => if form = 3 then r_add n (X2.1 k) Y else r_mb n (X2.1 k) Y) k X))) rI2 = some (.inl (cI, n2, .inl X2.1)) := (rowSet_ne (wd_ne hR2.2.1 hR.1 (by simp)) hn2).trans hR2.2.1
        refine lv_goto (tgt := 47) hx hb dX2_tellPoints_34 (by decide) ?_
        refine lv_iinc (v := nI (k + 1)) (lv' := [(3, .int (nI (k + 1))), (0, .ref r2), (1, .int form), (2, .ref r)]) hx hb dX2_tellPoints_47 hl (k := 3) rfl (nI_add k 1) (by decide) rfl (fun ls hl => ?_)
        refine lv_goto (tgt := 2) hx hb dX2_tellPoints_50 (by decide) ?_
        exact ih (k + 1) H locs ls ⟨(by omega), (by rw [show itN (fun k Y => if form = 3 then r_add n (X2.1 k) Y else r_mb n (X2.1 k) Y) (k + 1) X = r_add n (X2.1 k) (itN (fun k Y => if form = 3 then r_add n (X2.1 k) Y else r_mb n (X2.1 k) Y) k X) from by (show (if form = 3 then _ else _) = _; rw [if_pos (by simpa using c_21)])]; exact hW), hS, (lv_sub hl [1, 2, 3, 0] rfl)⟩ (by omega)
end
