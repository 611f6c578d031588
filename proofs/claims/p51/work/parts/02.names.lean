def RX0 : String := "QualityGate$Conflicts"
def TX0 : u_T := fun k => match k with
  | 0 => ("QualityGate$Conflicts", "partners", "[I", true)
  | 1 => ("QualityGate$Conflicts", "bad", "I", false)
  | _ => ("QualityGate$Conflicts", "size", "I", false)
def tyX0 : Nat → FieldType := fun k => match k with
  | 0 => .array .int
  | 1 => .int
  | _ => .int
theorem nmX0 : ∀ a, a < 3 → ∀ b, b < 3 → a ≠ b → (TX0 a).2.1 ≠ (TX0 b).2.1 := by decide +kernel
theorem tyX0_ok : ∀ k, k < 3 → parseFieldDescriptor (TX0 k).2.2.1 = some (tyX0 k) := by decide +kernel
abbrev cX0_init : ByteArray := prog_2_method_1_code
def yX0_init : MethodName := ⟨RX0, "<init>", "()V"⟩
abbrev cX0_find : ByteArray := prog_2_method_2_code
def yX0_find : MethodName := ⟨RX0, "find", "(Ljava/util/ArrayList;Ljava/util/ArrayList;)V"⟩
abbrev cX0_everyRow : ByteArray := prog_2_method_3_code
def yX0_everyRow : MethodName := ⟨RX0, "everyRow", "()I"⟩
abbrev cX0_reachedFrom : ByteArray := prog_2_method_4_code
def yX0_reachedFrom : MethodName := ⟨RX0, "reachedFrom", "(I)I"⟩
abbrev cX0_mayStay : ByteArray := prog_2_method_5_code
def yX0_mayStay : MethodName := ⟨RX0, "mayStay", "(II)Z"⟩
abbrev cX0_isRepairedBy : ByteArray := prog_2_method_6_code
def yX0_isRepairedBy : MethodName := ⟨RX0, "isRepairedBy", "(I)Z"⟩
def RX1 : String := "QualityGate$DependencyRule"
def TX1 : u_T := fun k => match k with
  | 0 => ("QualityGate$Rule", "isStrict", "Z", true)
  | 1 => ("QualityGate$Rule", "isDropped", "Z", false)
  | 2 => ("QualityGate$DependencyRule", "set", "I", true)
  | _ => ("QualityGate$DependencyRule", "column", "I", true)
def tyX1 : Nat → FieldType := fun k => match k with
  | 0 => .boolean
  | 1 => .boolean
  | 2 => .int
  | _ => .int
theorem nmX1 : ∀ a, a < 4 → ∀ b, b < 4 → a ≠ b → (TX1 a).2.1 ≠ (TX1 b).2.1 := by decide +kernel
theorem tyX1_ok : ∀ k, k < 4 → parseFieldDescriptor (TX1 k).2.2.1 = some (tyX1 k) := by decide +kernel
abbrev cX1_init : ByteArray := prog_3_method_1_code
def yX1_init : MethodName := ⟨RX1, "<init>", "(IIZ)V"⟩
abbrev cX1_isClash : ByteArray := prog_3_method_2_code
def yX1_isClash : MethodName := ⟨RX1, "isClash", "(LQualityGate$Row;LQualityGate$Row;)Z"⟩
def RX2 : String := "QualityGate$OrderRule"
def TX2 : u_T := fun k => match k with
  | 0 => ("QualityGate$Rule", "isStrict", "Z", true)
  | 1 => ("QualityGate$Rule", "isDropped", "Z", false)
  | 2 => ("QualityGate$OrderRule", "first", "I", true)
  | _ => ("QualityGate$OrderRule", "second", "I", true)
def tyX2 : Nat → FieldType := fun k => match k with
  | 0 => .boolean
  | 1 => .boolean
  | 2 => .int
  | _ => .int
theorem nmX2 : ∀ a, a < 4 → ∀ b, b < 4 → a ≠ b → (TX2 a).2.1 ≠ (TX2 b).2.1 := by decide +kernel
theorem tyX2_ok : ∀ k, k < 4 → parseFieldDescriptor (TX2 k).2.2.1 = some (tyX2 k) := by decide +kernel
abbrev cX2_init : ByteArray := prog_4_method_1_code
def yX2_init : MethodName := ⟨RX2, "<init>", "(IIZ)V"⟩
abbrev cX2_isBrokenBy : ByteArray := prog_4_method_2_code
def yX2_isBrokenBy : MethodName := ⟨RX2, "isBrokenBy", "(LQualityGate$Row;)Z"⟩
def RX3 : String := "QualityGate$Partition"
def TX3 : u_T := fun k => match k with
  | 0 => ("QualityGate$Partition", "firsts", "[I", true)
  | _ => ("QualityGate$Partition", "size", "I", false)
def tyX3 : Nat → FieldType := fun k => match k with
  | 0 => .array .int
  | _ => .int
theorem nmX3 : ∀ a, a < 2 → ∀ b, b < 2 → a ≠ b → (TX3 a).2.1 ≠ (TX3 b).2.1 := by decide +kernel
theorem tyX3_ok : ∀ k, k < 2 → parseFieldDescriptor (TX3 k).2.2.1 = some (tyX3 k) := by decide +kernel
abbrev cX3_init : ByteArray := prog_5_method_1_code
def yX3_init : MethodName := ⟨RX3, "<init>", "()V"⟩
abbrev cX3_divide : ByteArray := prog_5_method_2_code
def yX3_divide : MethodName := ⟨RX3, "divide", "(Ljava/util/ArrayList;I)V"⟩
abbrev cX3_isEachRowAlone : ByteArray := prog_5_method_3_code
def yX3_isEachRowAlone : MethodName := ⟨RX3, "isEachRowAlone", "()Z"⟩
abbrev cX3_isEachClassEqualIn : ByteArray := prog_5_method_4_code
def yX3_isEachClassEqualIn : MethodName := ⟨RX3, "isEachClassEqualIn", "(Ljava/util/ArrayList;I)Z"⟩
abbrev cX3_removalsToDetermine : ByteArray := prog_5_method_5_code
def yX3_removalsToDetermine : MethodName := ⟨RX3, "removalsToDetermine", "(Ljava/util/ArrayList;I)I"⟩
abbrev cX3_removalsInClass : ByteArray := prog_5_method_6_code
def yX3_removalsInClass : MethodName := ⟨RX3, "removalsInClass", "(Ljava/util/ArrayList;II)I"⟩
abbrev cX3_equalInClass : ByteArray := prog_5_method_7_code
def yX3_equalInClass : MethodName := ⟨RX3, "equalInClass", "(Ljava/util/ArrayList;III)I"⟩
def RX4 : String := "QualityGate$RangeRule"
def TX4 : u_T := fun k => match k with
  | 0 => ("QualityGate$Rule", "isStrict", "Z", true)
  | 1 => ("QualityGate$Rule", "isDropped", "Z", false)
  | 2 => ("QualityGate$RangeRule", "column", "I", true)
  | 3 => ("QualityGate$RangeRule", "low", "I", true)
  | _ => ("QualityGate$RangeRule", "high", "I", true)
def tyX4 : Nat → FieldType := fun k => match k with
  | 0 => .boolean
  | 1 => .boolean
  | 2 => .int
  | 3 => .int
  | _ => .int
theorem nmX4 : ∀ a, a < 5 → ∀ b, b < 5 → a ≠ b → (TX4 a).2.1 ≠ (TX4 b).2.1 := by decide +kernel
theorem tyX4_ok : ∀ k, k < 5 → parseFieldDescriptor (TX4 k).2.2.1 = some (tyX4 k) := by decide +kernel
abbrev cX4_init : ByteArray := prog_6_method_1_code
def yX4_init : MethodName := ⟨RX4, "<init>", "(IIIZ)V"⟩
abbrev cX4_isBrokenBy : ByteArray := prog_6_method_2_code
def yX4_isBrokenBy : MethodName := ⟨RX4, "isBrokenBy", "(LQualityGate$Row;)Z"⟩
def RX5 : String := "QualityGate$Rejection"
def TX5 : u_T := fun k => match k with
  | 0 => ("QualityGate$Rejection", "index", "I", false)
  | 1 => ("QualityGate$Rejection", "rule", "I", false)
  | 2 => ("QualityGate$Rejection", "other", "I", false)
  | _ => ("QualityGate$Rejection", "isInBatch", "Z", false)
def tyX5 : Nat → FieldType := fun k => match k with
  | 0 => .int
  | 1 => .int
  | 2 => .int
  | _ => .boolean
theorem nmX5 : ∀ a, a < 4 → ∀ b, b < 4 → a ≠ b → (TX5 a).2.1 ≠ (TX5 b).2.1 := by decide +kernel
theorem tyX5_ok : ∀ k, k < 4 → parseFieldDescriptor (TX5 k).2.2.1 = some (tyX5 k) := by decide +kernel
abbrev cX5_init : ByteArray := prog_7_method_1_code
def yX5_init : MethodName := ⟨RX5, "<init>", "()V"⟩
abbrev cX5_note : ByteArray := prog_7_method_2_code
def yX5_note : MethodName := ⟨RX5, "note", "(IIIZ)V"⟩
def RX6 : String := "QualityGate$RequiredRule"
def TX6 : u_T := fun k => match k with
  | 0 => ("QualityGate$Rule", "isStrict", "Z", true)
  | 1 => ("QualityGate$Rule", "isDropped", "Z", false)
  | _ => ("QualityGate$RequiredRule", "column", "I", true)
def tyX6 : Nat → FieldType := fun k => match k with
  | 0 => .boolean
  | 1 => .boolean
  | _ => .int
theorem nmX6 : ∀ a, a < 3 → ∀ b, b < 3 → a ≠ b → (TX6 a).2.1 ≠ (TX6 b).2.1 := by decide +kernel
theorem tyX6_ok : ∀ k, k < 3 → parseFieldDescriptor (TX6 k).2.2.1 = some (tyX6 k) := by decide +kernel
abbrev cX6_init : ByteArray := prog_8_method_1_code
def yX6_init : MethodName := ⟨RX6, "<init>", "(IZ)V"⟩
abbrev cX6_isBrokenBy : ByteArray := prog_8_method_2_code
def yX6_isBrokenBy : MethodName := ⟨RX6, "isBrokenBy", "(LQualityGate$Row;)Z"⟩
def RX7 : String := "QualityGate$Row"
def TX7 : u_T := fun k => match k with
  | 0 => ("QualityGate$Row", "values", "[I", true)
  | _ => ("QualityGate$Row", "id", "I", false)
def tyX7 : Nat → FieldType := fun k => match k with
  | 0 => .array .int
  | _ => .int
theorem nmX7 : ∀ a, a < 2 → ∀ b, b < 2 → a ≠ b → (TX7 a).2.1 ≠ (TX7 b).2.1 := by decide +kernel
theorem tyX7_ok : ∀ k, k < 2 → parseFieldDescriptor (TX7 k).2.2.1 = some (tyX7 k) := by decide +kernel
abbrev cX7_init : ByteArray := prog_9_method_1_code
def yX7_init : MethodName := ⟨RX7, "<init>", "(IIIII)V"⟩
abbrev cX7_value : ByteArray := prog_9_method_2_code
def yX7_value : MethodName := ⟨RX7, "value", "(I)I"⟩
abbrev cX7_put : ByteArray := prog_9_method_3_code
def yX7_put : MethodName := ⟨RX7, "put", "(II)V"⟩
abbrev cX7_isPresent : ByteArray := prog_9_method_4_code
def yX7_isPresent : MethodName := ⟨RX7, "isPresent", "(I)Z"⟩
abbrev cX7_isEqualIn : ByteArray := prog_9_method_5_code
def yX7_isEqualIn : MethodName := ⟨RX7, "isEqualIn", "(ILQualityGate$Row;)Z"⟩
abbrev cX7_distance : ByteArray := prog_9_method_6_code
def yX7_distance : MethodName := ⟨RX7, "distance", "(II)I"⟩
abbrev cX7_bucket : ByteArray := prog_9_method_7_code
def yX7_bucket : MethodName := ⟨RX7, "bucket", "(I)I"⟩
def RX8 : String := "QualityGate$Rule"
def TX8 : u_T := fun k => match k with
  | _ => ("", "", "", false)
def tyX8 : Nat → FieldType := fun k => match k with
  | _ => .int
theorem nmX8 : ∀ a, a < 0 → ∀ b, b < 0 → a ≠ b → (TX8 a).2.1 ≠ (TX8 b).2.1 := by decide +kernel
theorem tyX8_ok : ∀ k, k < 0 → parseFieldDescriptor (TX8 k).2.2.1 = some (tyX8 k) := by decide +kernel
abbrev cX8_init : ByteArray := prog_10_method_1_code
def yX8_init : MethodName := ⟨RX8, "<init>", "(Z)V"⟩
abbrev cX8_isBrokenBy : ByteArray := prog_10_method_2_code
def yX8_isBrokenBy : MethodName := ⟨RX8, "isBrokenBy", "(LQualityGate$Row;)Z"⟩
abbrev cX8_isClash : ByteArray := prog_10_method_3_code
def yX8_isClash : MethodName := ⟨RX8, "isClash", "(LQualityGate$Row;LQualityGate$Row;)Z"⟩
def RX9 : String := "QualityGate$SortedNumbers"
def TX9 : u_T := fun k => match k with
  | 0 => ("QualityGate$SortedNumbers", "numbers", "[I", true)
  | _ => ("QualityGate$SortedNumbers", "size", "I", false)
def tyX9 : Nat → FieldType := fun k => match k with
  | 0 => .array .int
  | _ => .int
theorem nmX9 : ∀ a, a < 2 → ∀ b, b < 2 → a ≠ b → (TX9 a).2.1 ≠ (TX9 b).2.1 := by decide +kernel
theorem tyX9_ok : ∀ k, k < 2 → parseFieldDescriptor (TX9 k).2.2.1 = some (tyX9 k) := by decide +kernel
abbrev cX9_init : ByteArray := prog_11_method_1_code
def yX9_init : MethodName := ⟨RX9, "<init>", "()V"⟩
abbrev cX9_clear : ByteArray := prog_11_method_2_code
def yX9_clear : MethodName := ⟨RX9, "clear", "()V"⟩
abbrev cX9_insert : ByteArray := prog_11_method_3_code
def yX9_insert : MethodName := ⟨RX9, "insert", "(I)V"⟩
abbrev cX9_middle : ByteArray := prog_11_method_4_code
def yX9_middle : MethodName := ⟨RX9, "middle", "()I"⟩
def RX10 : String := "QualityGate$UniqueRule"
def TX10 : u_T := fun k => match k with
  | 0 => ("QualityGate$Rule", "isStrict", "Z", true)
  | 1 => ("QualityGate$Rule", "isDropped", "Z", false)
  | _ => ("QualityGate$UniqueRule", "column", "I", true)
def tyX10 : Nat → FieldType := fun k => match k with
  | 0 => .boolean
  | 1 => .boolean
  | _ => .int
theorem nmX10 : ∀ a, a < 3 → ∀ b, b < 3 → a ≠ b → (TX10 a).2.1 ≠ (TX10 b).2.1 := by decide +kernel
theorem tyX10_ok : ∀ k, k < 3 → parseFieldDescriptor (TX10 k).2.2.1 = some (tyX10 k) := by decide +kernel
abbrev cX10_init : ByteArray := prog_12_method_1_code
def yX10_init : MethodName := ⟨RX10, "<init>", "(IZ)V"⟩
abbrev cX10_isClash : ByteArray := prog_12_method_2_code
def yX10_isClash : MethodName := ⟨RX10, "isClash", "(LQualityGate$Row;LQualityGate$Row;)Z"⟩
def RX11 : String := "QualityGate"
def TX11 : u_T := fun k => match k with
  | 0 => ("QualityGate", "table", "Ljava/util/ArrayList;", true)
  | 1 => ("QualityGate", "batch", "Ljava/util/ArrayList;", true)
  | 2 => ("QualityGate", "rules", "Ljava/util/ArrayList;", true)
  | 3 => ("QualityGate", "rejection", "LQualityGate$Rejection;", true)
  | 4 => ("QualityGate", "conflicts", "LQualityGate$Conflicts;", true)
  | 5 => ("QualityGate", "partition", "LQualityGate$Partition;", true)
  | 6 => ("QualityGate", "numbers", "LQualityGate$SortedNumbers;", true)
  | 7 => ("QualityGate", "profile", "[[I", true)
  | 8 => ("QualityGate", "profileRows", "I", false)
  | 9 => ("QualityGate", "nextId", "I", false)
  | _ => ("QualityGate", "factor", "I", false)
def tyX11 : Nat → FieldType := fun k => match k with
  | 0 => .object "java/util/ArrayList"
  | 1 => .object "java/util/ArrayList"
  | 2 => .object "java/util/ArrayList"
  | 3 => .object "QualityGate$Rejection"
  | 4 => .object "QualityGate$Conflicts"
  | 5 => .object "QualityGate$Partition"
  | 6 => .object "QualityGate$SortedNumbers"
  | 7 => .array (.array .int)
  | 8 => .int
  | 9 => .int
  | _ => .int
theorem nmX11 : ∀ a, a < 11 → ∀ b, b < 11 → a ≠ b → (TX11 a).2.1 ≠ (TX11 b).2.1 := by decide +kernel
theorem tyX11_ok : ∀ k, k < 11 → parseFieldDescriptor (TX11 k).2.2.1 = some (tyX11 k) := by decide +kernel
abbrev cX11_init : ByteArray := prog_1_method_1_code
def yX11_init : MethodName := ⟨RX11, "<init>", "()V"⟩
abbrev cX11_stage : ByteArray := prog_1_method_2_code
def yX11_stage : MethodName := ⟨RX11, "stage", "(IIIII)I"⟩
abbrev cX11_commit : ByteArray := prog_1_method_3_code
def yX11_commit : MethodName := ⟨RX11, "commit", "()I"⟩
abbrev cX11_discard : ByteArray := prog_1_method_4_code
def yX11_discard : MethodName := ⟨RX11, "discard", "()I"⟩
abbrev cX11_staged : ByteArray := prog_1_method_5_code
def yX11_staged : MethodName := ⟨RX11, "staged", "()I"⟩
abbrev cX11_rejectedRow : ByteArray := prog_1_method_6_code
def yX11_rejectedRow : MethodName := ⟨RX11, "rejectedRow", "()I"⟩
abbrev cX11_rejectedRule : ByteArray := prog_1_method_7_code
def yX11_rejectedRule : MethodName := ⟨RX11, "rejectedRule", "()I"⟩
abbrev cX11_rejectedOther : ByteArray := prog_1_method_8_code
def yX11_rejectedOther : MethodName := ⟨RX11, "rejectedOther", "()I"⟩
abbrev cX11_isOtherStaged : ByteArray := prog_1_method_9_code
def yX11_isOtherStaged : MethodName := ⟨RX11, "isOtherStaged", "()Z"⟩
abbrev cX11_removeRow : ByteArray := prog_1_method_10_code
def yX11_removeRow : MethodName := ⟨RX11, "removeRow", "(I)I"⟩
abbrev cX11_setValue : ByteArray := prog_1_method_11_code
def yX11_setValue : MethodName := ⟨RX11, "setValue", "(III)I"⟩
abbrev cX11_valueAt : ByteArray := prog_1_method_12_code
def yX11_valueAt : MethodName := ⟨RX11, "valueAt", "(II)I"⟩
abbrev cX11_rowCount : ByteArray := prog_1_method_13_code
def yX11_rowCount : MethodName := ⟨RX11, "rowCount", "()I"⟩
abbrev cX11_rowAt : ByteArray := prog_1_method_14_code
def yX11_rowAt : MethodName := ⟨RX11, "rowAt", "(I)I"⟩
abbrev cX11_addRange : ByteArray := prog_1_method_15_code
def yX11_addRange : MethodName := ⟨RX11, "addRange", "(IIIZ)I"⟩
abbrev cX11_addRequired : ByteArray := prog_1_method_16_code
def yX11_addRequired : MethodName := ⟨RX11, "addRequired", "(IZ)I"⟩
abbrev cX11_addOrder : ByteArray := prog_1_method_17_code
def yX11_addOrder : MethodName := ⟨RX11, "addOrder", "(IIZ)I"⟩
abbrev cX11_addUnique : ByteArray := prog_1_method_18_code
def yX11_addUnique : MethodName := ⟨RX11, "addUnique", "(IZ)I"⟩
abbrev cX11_addDependency : ByteArray := prog_1_method_19_code
def yX11_addDependency : MethodName := ⟨RX11, "addDependency", "(IIZ)I"⟩
abbrev cX11_violations : ByteArray := prog_1_method_21_code
def yX11_violations : MethodName := ⟨RX11, "violations", "(I)I"⟩
abbrev cX11_isBad : ByteArray := prog_1_method_22_code
def yX11_isBad : MethodName := ⟨RX11, "isBad", "(I)Z"⟩
abbrev cX11_conflict : ByteArray := prog_1_method_23_code
def yX11_conflict : MethodName := ⟨RX11, "conflict", "(II)Z"⟩
abbrev cX11_groups : ByteArray := prog_1_method_24_code
def yX11_groups : MethodName := ⟨RX11, "groups", "()I"⟩
abbrev cX11_groupSize : ByteArray := prog_1_method_25_code
def yX11_groupSize : MethodName := ⟨RX11, "groupSize", "(I)I"⟩
abbrev cX11_fewestRemovals : ByteArray := prog_1_method_26_code
def yX11_fewestRemovals : MethodName := ⟨RX11, "fewestRemovals", "()I"⟩
abbrev cX11_fewestRemovalsByTrying : ByteArray := prog_1_method_27_code
def yX11_fewestRemovalsByTrying : MethodName := ⟨RX11, "fewestRemovalsByTrying", "()I"⟩
abbrev cX11_isInRepair : ByteArray := prog_1_method_28_code
def yX11_isInRepair : MethodName := ⟨RX11, "isInRepair", "(I)Z"⟩
abbrev cX11_repair : ByteArray := prog_1_method_29_code
def yX11_repair : MethodName := ⟨RX11, "repair", "()I"⟩
abbrev cX11_determines : ByteArray := prog_1_method_30_code
def yX11_determines : MethodName := ⟨RX11, "determines", "(II)Z"⟩
abbrev cX11_determinesByPairs : ByteArray := prog_1_method_31_code
def yX11_determinesByPairs : MethodName := ⟨RX11, "determinesByPairs", "(II)Z"⟩
abbrev cX11_minimalCount : ByteArray := prog_1_method_32_code
def yX11_minimalCount : MethodName := ⟨RX11, "minimalCount", "(I)I"⟩
abbrev cX11_minimalCountByTrying : ByteArray := prog_1_method_33_code
def yX11_minimalCountByTrying : MethodName := ⟨RX11, "minimalCountByTrying", "(I)I"⟩
abbrev cX11_minimalAt : ByteArray := prog_1_method_34_code
def yX11_minimalAt : MethodName := ⟨RX11, "minimalAt", "(II)I"⟩
abbrev cX11_closureOf : ByteArray := prog_1_method_35_code
def yX11_closureOf : MethodName := ⟨RX11, "closureOf", "(I)I"⟩
abbrev cX11_isKey : ByteArray := prog_1_method_36_code
def yX11_isKey : MethodName := ⟨RX11, "isKey", "(I)Z"⟩
abbrev cX11_smallestKey : ByteArray := prog_1_method_37_code
def yX11_smallestKey : MethodName := ⟨RX11, "smallestKey", "()I"⟩
abbrev cX11_errorOf : ByteArray := prog_1_method_38_code
def yX11_errorOf : MethodName := ⟨RX11, "errorOf", "(II)I"⟩
abbrev cX11_medianOf : ByteArray := prog_1_method_40_code
def yX11_medianOf : MethodName := ⟨RX11, "medianOf", "(I)I"⟩
abbrev cX11_spreadOf : ByteArray := prog_1_method_41_code
def yX11_spreadOf : MethodName := ⟨RX11, "spreadOf", "(I)I"⟩
abbrev cX11_isOutlier : ByteArray := prog_1_method_42_code
def yX11_isOutlier : MethodName := ⟨RX11, "isOutlier", "(II)Z"⟩
abbrev cX11_outliers : ByteArray := prog_1_method_43_code
def yX11_outliers : MethodName := ⟨RX11, "outliers", "(I)I"⟩
abbrev cX11_saveProfile : ByteArray := prog_1_method_44_code
def yX11_saveProfile : MethodName := ⟨RX11, "saveProfile", "()I"⟩
abbrev cX11_drift : ByteArray := prog_1_method_45_code
def yX11_drift : MethodName := ⟨RX11, "drift", "(I)I"⟩
abbrev cX11_mostDrifted : ByteArray := prog_1_method_46_code
def yX11_mostDrifted : MethodName := ⟨RX11, "mostDrifted", "()I"⟩
abbrev cX11_isConsistent : ByteArray := prog_1_method_49_code
def yX11_isConsistent : MethodName := ⟨RX11, "isConsistent", "()Z"⟩
abbrev cX11_isValue : ByteArray := prog_1_method_50_code
def yX11_isValue : MethodName := ⟨RX11, "isValue", "(I)Z"⟩
abbrev cX11_needColumn : ByteArray := prog_1_method_51_code
def yX11_needColumn : MethodName := ⟨RX11, "needColumn", "(I)V"⟩
abbrev cX11_needSet : ByteArray := prog_1_method_52_code
def yX11_needSet : MethodName := ⟨RX11, "needSet", "(I)V"⟩
abbrev cX11_needSetWithout : ByteArray := prog_1_method_53_code
def yX11_needSetWithout : MethodName := ⟨RX11, "needSetWithout", "(II)V"⟩
abbrev cX11_needRoomForRule : ByteArray := prog_1_method_54_code
def yX11_needRoomForRule : MethodName := ⟨RX11, "needRoomForRule", "()V"⟩
abbrev cX11_needProfileAndRows : ByteArray := prog_1_method_55_code
def yX11_needProfileAndRows : MethodName := ⟨RX11, "needProfileAndRows", "()V"⟩
abbrev cX11_numberOfAdded : ByteArray := prog_1_method_56_code
def yX11_numberOfAdded : MethodName := ⟨RX11, "numberOfAdded", "(LQualityGate$Rule;)I"⟩
abbrev cX11_ruleInForce : ByteArray := prog_1_method_57_code
def yX11_ruleInForce : MethodName := ⟨RX11, "ruleInForce", "(I)LQualityGate$Rule;"⟩
abbrev cX11_positionOf : ByteArray := prog_1_method_58_code
def yX11_positionOf : MethodName := ⟨RX11, "positionOf", "(I)I"⟩
abbrev cX11_rowWith : ByteArray := prog_1_method_59_code
def yX11_rowWith : MethodName := ⟨RX11, "rowWith", "(I)LQualityGate$Row;"⟩
abbrev cX11_isIn : ByteArray := prog_1_method_60_code
def yX11_isIn : MethodName := ⟨RX11, "isIn", "(II)Z"⟩
abbrev cX11_isBatchRejected : ByteArray := prog_1_method_61_code
def yX11_isBatchRejected : MethodName := ⟨RX11, "isBatchRejected", "()Z"⟩
abbrev cX11_isRejectedBy : ByteArray := prog_1_method_62_code
def yX11_isRejectedBy : MethodName := ⟨RX11, "isRejectedBy", "(LQualityGate$Rule;ILQualityGate$Row;I)Z"⟩
abbrev cX11_breaksSome : ByteArray := prog_1_method_63_code
def yX11_breaksSome : MethodName := ⟨RX11, "breaksSome", "(Ljava/util/ArrayList;LQualityGate$Row;)Z"⟩
abbrev cX11_clashBySome : ByteArray := prog_1_method_64_code
def yX11_clashBySome : MethodName := ⟨RX11, "clashBySome", "(Ljava/util/ArrayList;LQualityGate$Row;LQualityGate$Row;)Z"⟩
abbrev cX11_bestRepair : ByteArray := prog_1_method_65_code
def yX11_bestRepair : MethodName := ⟨RX11, "bestRepair", "()I"⟩
abbrev cX11_bestFrom : ByteArray := prog_1_method_66_code
def yX11_bestFrom : MethodName := ⟨RX11, "bestFrom", "(LQualityGate$Conflicts;III)I"⟩
abbrev cX11_isDeterminedInClasses : ByteArray := prog_1_method_67_code
def yX11_isDeterminedInClasses : MethodName := ⟨RX11, "isDeterminedInClasses", "(II)Z"⟩
abbrev cX11_isDeterminedInPairs : ByteArray := prog_1_method_68_code
def yX11_isDeterminedInPairs : MethodName := ⟨RX11, "isDeterminedInPairs", "(II)Z"⟩
abbrev cX11_isTellingRowsApart : ByteArray := prog_1_method_69_code
def yX11_isTellingRowsApart : MethodName := ⟨RX11, "isTellingRowsApart", "(I)Z"⟩
abbrev cX11_minimalSets : ByteArray := prog_1_method_70_code
def yX11_minimalSets : MethodName := ⟨RX11, "minimalSets", "(I)J"⟩
abbrev cX11_isSetIn : ByteArray := prog_1_method_71_code
def yX11_isSetIn : MethodName := ⟨RX11, "isSetIn", "(IJ)Z"⟩
abbrev cX11_holdsOther : ByteArray := prog_1_method_72_code
def yX11_holdsOther : MethodName := ⟨RX11, "holdsOther", "(IJ)Z"⟩
abbrev cX11_setInOrder : ByteArray := prog_1_method_73_code
def yX11_setInOrder : MethodName := ⟨RX11, "setInOrder", "(JI)I"⟩
abbrev cX11_presentCount : ByteArray := prog_1_method_74_code
def yX11_presentCount : MethodName := ⟨RX11, "presentCount", "(I)I"⟩
abbrev cX11_columnMedian : ByteArray := prog_1_method_75_code
def yX11_columnMedian : MethodName := ⟨RX11, "columnMedian", "(I)I"⟩
abbrev cX11_columnSpread : ByteArray := prog_1_method_76_code
def yX11_columnSpread : MethodName := ⟨RX11, "columnSpread", "(II)I"⟩
abbrev cX11_isFar : ByteArray := prog_1_method_77_code
def yX11_isFar : MethodName := ⟨RX11, "isFar", "(LQualityGate$Row;III)Z"⟩
abbrev cX11_rowsInBucket : ByteArray := prog_1_method_78_code
def yX11_rowsInBucket : MethodName := ⟨RX11, "rowsInBucket", "(II)I"⟩
abbrev cX11_driftFromProfile : ByteArray := prog_1_method_79_code
def yX11_driftFromProfile : MethodName := ⟨RX11, "driftFromProfile", "(I)I"⟩
def RX12 : String := "QualityGateModel"
def TX12 : u_T := fun k => match k with
  | _ => ("", "", "", false)
def tyX12 : Nat → FieldType := fun k => match k with
  | _ => .int
theorem nmX12 : ∀ a, a < 0 → ∀ b, b < 0 → a ≠ b → (TX12 a).2.1 ≠ (TX12 b).2.1 := by decide +kernel
theorem tyX12_ok : ∀ k, k < 0 → parseFieldDescriptor (TX12 k).2.2.1 = some (tyX12 k) := by decide +kernel
def RJx145de : String := "java/io/Serializable"
def TJx145de : u_T := fun k => match k with
  | _ => ("", "", "", false)
def tyJx145de : Nat → FieldType := fun k => match k with
  | _ => .int
theorem nmJx145de : ∀ a, a < 0 → ∀ b, b < 0 → a ≠ b → (TJx145de a).2.1 ≠ (TJx145de b).2.1 := by decide +kernel
theorem tyJx145de_ok : ∀ k, k < 0 → parseFieldDescriptor (TJx145de k).2.2.1 = some (tyJx145de k) := by decide +kernel
def RJx00060 : String := "java/lang/ArrayIndexOutOfBoundsException"
def TJx00060 : u_T := fun k => match k with
  | 0 => ("java/lang/Throwable", "backtrace", "Ljava/lang/Object;", false)
  | 1 => ("java/lang/Throwable", "detailMessage", "Ljava/lang/String;", false)
  | 2 => ("java/lang/Throwable", "cause", "Ljava/lang/Throwable;", false)
  | 3 => ("java/lang/Throwable", "stackTrace", "[Ljava/lang/StackTraceElement;", false)
  | 4 => ("java/lang/Throwable", "depth", "I", false)
  | _ => ("java/lang/Throwable", "suppressedExceptions", "Ljava/util/List;", false)
def tyJx00060 : Nat → FieldType := fun k => match k with
  | 0 => .object "java/lang/Object"
  | 1 => .object "java/lang/String"
  | 2 => .object "java/lang/Throwable"
  | 3 => .array (.object "java/lang/StackTraceElement")
  | 4 => .int
  | _ => .object "java/util/List"
theorem nmJx00060 : ∀ a, a < 6 → ∀ b, b < 6 → a ≠ b → (TJx00060 a).2.1 ≠ (TJx00060 b).2.1 := by decide +kernel
theorem tyJx00060_ok : ∀ k, k < 6 → parseFieldDescriptor (TJx00060 k).2.2.1 = some (tyJx00060 k) := by decide +kernel
abbrev cJx00060_init_a7421 : ByteArray := prog_16_method_2_code
def yJx00060_init_a7421 : MethodName := ⟨RJx00060, "<init>", "(Ljava/lang/String;)V"⟩
def RJx8e188 : String := "java/lang/Cloneable"
def TJx8e188 : u_T := fun k => match k with
  | _ => ("", "", "", false)
def tyJx8e188 : Nat → FieldType := fun k => match k with
  | _ => .int
theorem nmJx8e188 : ∀ a, a < 0 → ∀ b, b < 0 → a ≠ b → (TJx8e188 a).2.1 ≠ (TJx8e188 b).2.1 := by decide +kernel
theorem tyJx8e188_ok : ∀ k, k < 0 → parseFieldDescriptor (TJx8e188 k).2.2.1 = some (tyJx8e188 k) := by decide +kernel
def RJ6 : String := "java/lang/Integer"
def TJ6 : u_T := fun k => match k with
  | _ => ("", "", "", false)
def tyJ6 : Nat → FieldType := fun k => match k with
  | _ => .int
theorem nmJ6 : ∀ a, a < 0 → ∀ b, b < 0 → a ≠ b → (TJ6 a).2.1 ≠ (TJ6 b).2.1 := by decide +kernel
theorem tyJ6_ok : ∀ k, k < 0 → parseFieldDescriptor (TJ6 k).2.2.1 = some (tyJ6 k) := by decide +kernel
abbrev cJ6_bitCount_0f7a4 : ByteArray := prog_22_method_49_code
def yJ6_bitCount_0f7a4 : MethodName := ⟨RJ6, "bitCount", "(I)I"⟩
def RJxab1ab : String := "java/lang/Iterable"
def TJxab1ab : u_T := fun k => match k with
  | _ => ("", "", "", false)
def tyJxab1ab : Nat → FieldType := fun k => match k with
  | _ => .int
theorem nmJxab1ab : ∀ a, a < 0 → ∀ b, b < 0 → a ≠ b → (TJxab1ab a).2.1 ≠ (TJxab1ab b).2.1 := by decide +kernel
theorem tyJxab1ab_ok : ∀ k, k < 0 → parseFieldDescriptor (TJxab1ab k).2.2.1 = some (tyJxab1ab k) := by decide +kernel
def RJ13 : String := "java/lang/Long"
def TJ13 : u_T := fun k => match k with
  | _ => ("", "", "", false)
def tyJ13 : Nat → FieldType := fun k => match k with
  | _ => .int
theorem nmJ13 : ∀ a, a < 0 → ∀ b, b < 0 → a ≠ b → (TJ13 a).2.1 ≠ (TJ13 b).2.1 := by decide +kernel
theorem tyJ13_ok : ∀ k, k < 0 → parseFieldDescriptor (TJ13 k).2.2.1 = some (tyJ13 k) := by decide +kernel
abbrev cJ13_bitCount_95d88 : ByteArray := prog_24_method_50_code
def yJ13_bitCount_95d88 : MethodName := ⟨RJ13, "bitCount", "(J)I"⟩
def RJ9 : String := "java/lang/Math"
def TJ9 : u_T := fun k => match k with
  | _ => ("", "", "", false)
def tyJ9 : Nat → FieldType := fun k => match k with
  | _ => .int
theorem nmJ9 : ∀ a, a < 0 → ∀ b, b < 0 → a ≠ b → (TJ9 a).2.1 ≠ (TJ9 b).2.1 := by decide +kernel
theorem tyJ9_ok : ∀ k, k < 0 → parseFieldDescriptor (TJ9 k).2.2.1 = some (tyJ9 k) := by decide +kernel
abbrev cJ9_abs_0f7a4 : ByteArray := prog_25_method_59_code
def yJ9_abs_0f7a4 : MethodName := ⟨RJ9, "abs", "(I)I"⟩
abbrev cJ9_max_7cf53 : ByteArray := prog_25_method_65_code
def yJ9_max_7cf53 : MethodName := ⟨RJ9, "max", "(II)I"⟩
abbrev cJ9_min_7cf53 : ByteArray := prog_25_method_69_code
def yJ9_min_7cf53 : MethodName := ⟨RJ9, "min", "(II)I"⟩
def RJ0 : String := "java/lang/String"
def TJ0 : u_T := fun k => match k with
  | 0 => ("java/lang/String", "value", "[B", true)
  | _ => ("java/lang/String", "coder", "B", true)
def tyJ0 : Nat → FieldType := fun k => match k with
  | 0 => .array .byte
  | _ => .byte
theorem nmJ0 : ∀ a, a < 2 → ∀ b, b < 2 → a ≠ b → (TJ0 a).2.1 ≠ (TJ0 b).2.1 := by decide +kernel
theorem tyJ0_ok : ∀ k, k < 2 → parseFieldDescriptor (TJ0 k).2.2.1 = some (tyJ0 k) := by decide +kernel
def RJ10 : String := "java/lang/System"
def TJ10 : u_T := fun k => match k with
  | _ => ("", "", "", false)
def tyJ10 : Nat → FieldType := fun k => match k with
  | _ => .int
theorem nmJ10 : ∀ a, a < 0 → ∀ b, b < 0 → a ≠ b → (TJ10 a).2.1 ≠ (TJ10 b).2.1 := by decide +kernel
theorem tyJ10_ok : ∀ k, k < 0 → parseFieldDescriptor (TJ10 k).2.2.1 = some (tyJ10 k) := by decide +kernel
def RJxa1e45 : String := "java/util/AbstractCollection"
def TJxa1e45 : u_T := fun k => match k with
  | _ => ("", "", "", false)
def tyJxa1e45 : Nat → FieldType := fun k => match k with
  | _ => .int
theorem nmJxa1e45 : ∀ a, a < 0 → ∀ b, b < 0 → a ≠ b → (TJxa1e45 a).2.1 ≠ (TJxa1e45 b).2.1 := by decide +kernel
theorem tyJxa1e45_ok : ∀ k, k < 0 → parseFieldDescriptor (TJxa1e45 k).2.2.1 = some (tyJxa1e45 k) := by decide +kernel
abbrev cJxa1e45_init_da8c8 : ByteArray := prog_31_method_1_code
def yJxa1e45_init_da8c8 : MethodName := ⟨RJxa1e45, "<init>", "()V"⟩
def RJxc12de : String := "java/util/AbstractList"
def TJxc12de : u_T := fun k => match k with
  | _ => ("", "", "", false)
def tyJxc12de : Nat → FieldType := fun k => match k with
  | _ => .int
theorem nmJxc12de : ∀ a, a < 0 → ∀ b, b < 0 → a ≠ b → (TJxc12de a).2.1 ≠ (TJxc12de b).2.1 := by decide +kernel
theorem tyJxc12de_ok : ∀ k, k < 0 → parseFieldDescriptor (TJxc12de k).2.2.1 = some (tyJxc12de k) := by decide +kernel
abbrev cJxc12de_init_da8c8 : ByteArray := prog_32_method_1_code
def yJxc12de_init_da8c8 : MethodName := ⟨RJxc12de, "<init>", "()V"⟩
def RJx4a65c : String := "java/util/ArrayList"
def TJx4a65c : u_T := fun k => match k with
  | 0 => ("java/util/AbstractList", "modCount", "I", false)
  | 1 => ("java/util/ArrayList", "elementData", "[Ljava/lang/Object;", false)
  | _ => ("java/util/ArrayList", "size", "I", false)
def tyJx4a65c : Nat → FieldType := fun k => match k with
  | 0 => .int
  | 1 => .array (.object "java/lang/Object")
  | _ => .int
theorem nmJx4a65c : ∀ a, a < 3 → ∀ b, b < 3 → a ≠ b → (TJx4a65c a).2.1 ≠ (TJx4a65c b).2.1 := by decide +kernel
theorem tyJx4a65c_ok : ∀ k, k < 3 → parseFieldDescriptor (TJx4a65c k).2.2.1 = some (tyJx4a65c k) := by decide +kernel
abbrev cJx4a65c_init_da8c8 : ByteArray := prog_33_method_2_code
def yJx4a65c_init_da8c8 : MethodName := ⟨RJx4a65c, "<init>", "()V"⟩
abbrev cJx4a65c_grow_92f84 : ByteArray := prog_33_method_6_code
def yJx4a65c_grow_92f84 : MethodName := ⟨RJx4a65c, "grow", "(I)[Ljava/lang/Object;"⟩
abbrev cJx4a65c_grow_d5877 : ByteArray := prog_33_method_7_code
def yJx4a65c_grow_d5877 : MethodName := ⟨RJx4a65c, "grow", "()[Ljava/lang/Object;"⟩
abbrev cJx4a65c_size_8abf5 : ByteArray := prog_33_method_8_code
def yJx4a65c_size_8abf5 : MethodName := ⟨RJx4a65c, "size", "()I"⟩
abbrev cJx4a65c_isEmpty_aae02 : ByteArray := prog_33_method_9_code
def yJx4a65c_isEmpty_aae02 : MethodName := ⟨RJx4a65c, "isEmpty", "()Z"⟩
abbrev cJx4a65c_elementData_915e3 : ByteArray := prog_33_method_18_code
def yJx4a65c_elementData_915e3 : MethodName := ⟨RJx4a65c, "elementData", "(I)Ljava/lang/Object;"⟩
abbrev cJx4a65c_get_915e3 : ByteArray := prog_33_method_20_code
def yJx4a65c_get_915e3 : MethodName := ⟨RJx4a65c, "get", "(I)Ljava/lang/Object;"⟩
abbrev cJx4a65c_add_72be8 : ByteArray := prog_33_method_24_code
def yJx4a65c_add_72be8 : MethodName := ⟨RJx4a65c, "add", "(Ljava/lang/Object;[Ljava/lang/Object;I)V"⟩
abbrev cJx4a65c_add_9ea2d : ByteArray := prog_33_method_25_code
def yJx4a65c_add_9ea2d : MethodName := ⟨RJx4a65c, "add", "(Ljava/lang/Object;)Z"⟩
abbrev cJx4a65c_remove_915e3 : ByteArray := prog_33_method_29_code
def yJx4a65c_remove_915e3 : MethodName := ⟨RJx4a65c, "remove", "(I)Ljava/lang/Object;"⟩
abbrev cJx4a65c_fastRemove_b59b0 : ByteArray := prog_33_method_39_code
def yJx4a65c_fastRemove_b59b0 : MethodName := ⟨RJx4a65c, "fastRemove", "([Ljava/lang/Object;I)V"⟩
abbrev cJx4a65c_clear_da8c8 : ByteArray := prog_33_method_40_code
def yJx4a65c_clear_da8c8 : MethodName := ⟨RJx4a65c, "clear", "()V"⟩
def RJ7 : String := "java/util/Arrays"
def TJ7 : u_T := fun k => match k with
  | _ => ("", "", "", false)
def tyJ7 : Nat → FieldType := fun k => match k with
  | _ => .int
theorem nmJ7 : ∀ a, a < 0 → ∀ b, b < 0 → a ≠ b → (TJ7 a).2.1 ≠ (TJ7 b).2.1 := by decide +kernel
theorem tyJ7_ok : ∀ k, k < 0 → parseFieldDescriptor (TJ7 k).2.2.1 = some (tyJ7 k) := by decide +kernel
abbrev cJ7_copyOf_1904c : ByteArray := prog_34_method_119_code
def yJ7_copyOf_1904c : MethodName := ⟨RJ7, "copyOf", "([Ljava/lang/Object;I)[Ljava/lang/Object;"⟩
abbrev cJ7_copyOf_6403c : ByteArray := prog_34_method_120_code
def yJ7_copyOf_6403c : MethodName := ⟨RJ7, "copyOf", "([Ljava/lang/Object;ILjava/lang/Class;)[Ljava/lang/Object;"⟩
def RJx5ef63 : String := "java/util/Collection"
def TJx5ef63 : u_T := fun k => match k with
  | _ => ("", "", "", false)
def tyJx5ef63 : Nat → FieldType := fun k => match k with
  | _ => .int
theorem nmJx5ef63 : ∀ a, a < 0 → ∀ b, b < 0 → a ≠ b → (TJx5ef63 a).2.1 ≠ (TJx5ef63 b).2.1 := by decide +kernel
theorem tyJx5ef63_ok : ∀ k, k < 0 → parseFieldDescriptor (TJx5ef63 k).2.2.1 = some (tyJx5ef63 k) := by decide +kernel
def RJxbd725 : String := "java/util/List"
def TJxbd725 : u_T := fun k => match k with
  | _ => ("", "", "", false)
def tyJxbd725 : Nat → FieldType := fun k => match k with
  | _ => .int
theorem nmJxbd725 : ∀ a, a < 0 → ∀ b, b < 0 → a ≠ b → (TJxbd725 a).2.1 ≠ (TJxbd725 b).2.1 := by decide +kernel
theorem tyJxbd725_ok : ∀ k, k < 0 → parseFieldDescriptor (TJxbd725 k).2.2.1 = some (tyJxbd725 k) := by decide +kernel
def RJ15 : String := "java/util/Objects"
def TJ15 : u_T := fun k => match k with
  | _ => ("", "", "", false)
def tyJ15 : Nat → FieldType := fun k => match k with
  | _ => .int
theorem nmJ15 : ∀ a, a < 0 → ∀ b, b < 0 → a ≠ b → (TJ15 a).2.1 ≠ (TJ15 b).2.1 := by decide +kernel
theorem tyJ15_ok : ∀ k, k < 0 → parseFieldDescriptor (TJ15 k).2.2.1 = some (tyJ15 k) := by decide +kernel
abbrev cJ15_checkIndex_7cf53 : ByteArray := prog_38_method_17_code
def yJ15_checkIndex_7cf53 : MethodName := ⟨RJ15, "checkIndex", "(II)I"⟩
def RJxf0a74 : String := "java/util/RandomAccess"
def TJxf0a74 : u_T := fun k => match k with
  | _ => ("", "", "", false)
def tyJxf0a74 : Nat → FieldType := fun k => match k with
  | _ => .int
theorem nmJxf0a74 : ∀ a, a < 0 → ∀ b, b < 0 → a ≠ b → (TJxf0a74 a).2.1 ≠ (TJxf0a74 b).2.1 := by decide +kernel
theorem tyJxf0a74_ok : ∀ k, k < 0 → parseFieldDescriptor (TJxf0a74 k).2.2.1 = some (tyJxf0a74 k) := by decide +kernel
def RJxa66e6 : String := "java/util/SequencedCollection"
def TJxa66e6 : u_T := fun k => match k with
  | _ => ("", "", "", false)
def tyJxa66e6 : Nat → FieldType := fun k => match k with
  | _ => .int
theorem nmJxa66e6 : ∀ a, a < 0 → ∀ b, b < 0 → a ≠ b → (TJxa66e6 a).2.1 ≠ (TJxa66e6 b).2.1 := by decide +kernel
theorem tyJxa66e6_ok : ∀ k, k < 0 → parseFieldDescriptor (TJxa66e6 k).2.2.1 = some (tyJxa66e6 k) := by decide +kernel
def RJ8 : String := "jdk/internal/util/ArraysSupport"
def TJ8 : u_T := fun k => match k with
  | _ => ("", "", "", false)
def tyJ8 : Nat → FieldType := fun k => match k with
  | _ => .int
theorem nmJ8 : ∀ a, a < 0 → ∀ b, b < 0 → a ≠ b → (TJ8 a).2.1 ≠ (TJ8 b).2.1 := by decide +kernel
theorem tyJ8_ok : ∀ k, k < 0 → parseFieldDescriptor (TJ8 k).2.2.1 = some (tyJ8 k) := by decide +kernel
abbrev cJ8_newLength_cabcc : ByteArray := prog_41_method_27_code
def yJ8_newLength_cabcc : MethodName := ⟨RJ8, "newLength", "(III)I"⟩
abbrev cJ8_hugeLength_7cf53 : ByteArray := prog_41_method_28_code
def yJ8_hugeLength_7cf53 : MethodName := ⟨RJ8, "hugeLength", "(II)I"⟩
def RJ3 : String := "jdk/internal/util/Preconditions"
def TJ3 : u_T := fun k => match k with
  | _ => ("", "", "", false)
def tyJ3 : Nat → FieldType := fun k => match k with
  | _ => .int
theorem nmJ3 : ∀ a, a < 0 → ∀ b, b < 0 → a ≠ b → (TJ3 a).2.1 ≠ (TJ3 b).2.1 := by decide +kernel
theorem tyJ3_ok : ∀ k, k < 0 → parseFieldDescriptor (TJ3 k).2.2.1 = some (tyJ3 k) := by decide +kernel
abbrev cJ3_checkIndex_8e157 : ByteArray := prog_42_method_11_code
def yJ3_checkIndex_8e157 : MethodName := ⟨RJ3, "checkIndex", "(IILjava/util/function/BiFunction;)I"⟩
def RL : String := "QualityGateLaw"
abbrev cL_cell : ByteArray := method_2_code
def yL_cell : MethodName := ⟨RL, "cell", "([II)I"⟩
abbrev cL_stage : ByteArray := method_3_code
def yL_stage : MethodName := ⟨RL, "stage", "(LQualityGate;IIIII)I"⟩
abbrev cL_commit : ByteArray := method_4_code
def yL_commit : MethodName := ⟨RL, "commit", "(LQualityGate;)I"⟩
abbrev cL_rejectedRow : ByteArray := method_5_code
def yL_rejectedRow : MethodName := ⟨RL, "rejectedRow", "(LQualityGate;)I"⟩
abbrev cL_rejectedRule : ByteArray := method_6_code
def yL_rejectedRule : MethodName := ⟨RL, "rejectedRule", "(LQualityGate;)I"⟩
abbrev cL_rejectedOther : ByteArray := method_7_code
def yL_rejectedOther : MethodName := ⟨RL, "rejectedOther", "(LQualityGate;)I"⟩
abbrev cL_isOtherStaged : ByteArray := method_8_code
def yL_isOtherStaged : MethodName := ⟨RL, "isOtherStaged", "(LQualityGate;)I"⟩
abbrev cL_removeRow : ByteArray := method_9_code
def yL_removeRow : MethodName := ⟨RL, "removeRow", "(LQualityGate;I)I"⟩
abbrev cL_setValue : ByteArray := method_10_code
def yL_setValue : MethodName := ⟨RL, "setValue", "(LQualityGate;III)I"⟩
abbrev cL_valueAt : ByteArray := method_11_code
def yL_valueAt : MethodName := ⟨RL, "valueAt", "(LQualityGate;II)I"⟩
abbrev cL_rowAt : ByteArray := method_12_code
def yL_rowAt : MethodName := ⟨RL, "rowAt", "(LQualityGate;I)I"⟩
abbrev cL_addRange : ByteArray := method_13_code
def yL_addRange : MethodName := ⟨RL, "addRange", "(LQualityGate;IIIZ)I"⟩
abbrev cL_addRequired : ByteArray := method_14_code
def yL_addRequired : MethodName := ⟨RL, "addRequired", "(LQualityGate;IZ)I"⟩
abbrev cL_addOrder : ByteArray := method_15_code
def yL_addOrder : MethodName := ⟨RL, "addOrder", "(LQualityGate;IIZ)I"⟩
abbrev cL_addUnique : ByteArray := method_16_code
def yL_addUnique : MethodName := ⟨RL, "addUnique", "(LQualityGate;IZ)I"⟩
abbrev cL_addDependency : ByteArray := method_17_code
def yL_addDependency : MethodName := ⟨RL, "addDependency", "(LQualityGate;IIZ)I"⟩
abbrev cL_violations : ByteArray := method_19_code
def yL_violations : MethodName := ⟨RL, "violations", "(LQualityGate;I)I"⟩
abbrev cL_isBad : ByteArray := method_20_code
def yL_isBad : MethodName := ⟨RL, "isBad", "(LQualityGate;I)I"⟩
abbrev cL_conflict : ByteArray := method_21_code
def yL_conflict : MethodName := ⟨RL, "conflict", "(LQualityGate;II)I"⟩
abbrev cL_groupSize : ByteArray := method_22_code
def yL_groupSize : MethodName := ⟨RL, "groupSize", "(LQualityGate;I)I"⟩
abbrev cL_isInRepair : ByteArray := method_23_code
def yL_isInRepair : MethodName := ⟨RL, "isInRepair", "(LQualityGate;I)I"⟩
abbrev cL_determines : ByteArray := method_24_code
def yL_determines : MethodName := ⟨RL, "determines", "(LQualityGate;II)I"⟩
abbrev cL_determinesByPairs : ByteArray := method_25_code
def yL_determinesByPairs : MethodName := ⟨RL, "determinesByPairs", "(LQualityGate;II)I"⟩
abbrev cL_minimalCount : ByteArray := method_26_code
def yL_minimalCount : MethodName := ⟨RL, "minimalCount", "(LQualityGate;I)I"⟩
abbrev cL_minimalCountByTrying : ByteArray := method_27_code
def yL_minimalCountByTrying : MethodName := ⟨RL, "minimalCountByTrying", "(LQualityGate;I)I"⟩
abbrev cL_minimalAt : ByteArray := method_28_code
def yL_minimalAt : MethodName := ⟨RL, "minimalAt", "(LQualityGate;II)I"⟩
abbrev cL_closureOf : ByteArray := method_29_code
def yL_closureOf : MethodName := ⟨RL, "closureOf", "(LQualityGate;I)I"⟩
abbrev cL_isKey : ByteArray := method_30_code
def yL_isKey : MethodName := ⟨RL, "isKey", "(LQualityGate;I)I"⟩
abbrev cL_smallestKey : ByteArray := method_31_code
def yL_smallestKey : MethodName := ⟨RL, "smallestKey", "(LQualityGate;)I"⟩
abbrev cL_errorOf : ByteArray := method_32_code
def yL_errorOf : MethodName := ⟨RL, "errorOf", "(LQualityGate;II)I"⟩
abbrev cL_medianOf : ByteArray := method_33_code
def yL_medianOf : MethodName := ⟨RL, "medianOf", "(LQualityGate;I)I"⟩
abbrev cL_spreadOf : ByteArray := method_34_code
def yL_spreadOf : MethodName := ⟨RL, "spreadOf", "(LQualityGate;I)I"⟩
abbrev cL_isOutlier : ByteArray := method_35_code
def yL_isOutlier : MethodName := ⟨RL, "isOutlier", "(LQualityGate;II)I"⟩
abbrev cL_outliers : ByteArray := method_36_code
def yL_outliers : MethodName := ⟨RL, "outliers", "(LQualityGate;I)I"⟩
abbrev cL_saveProfile : ByteArray := method_37_code
def yL_saveProfile : MethodName := ⟨RL, "saveProfile", "(LQualityGate;)I"⟩
abbrev cL_drift : ByteArray := method_38_code
def yL_drift : MethodName := ⟨RL, "drift", "(LQualityGate;I)I"⟩
abbrev cL_mostDrifted : ByteArray := method_39_code
def yL_mostDrifted : MethodName := ⟨RL, "mostDrifted", "(LQualityGate;)I"⟩
abbrev cL_number : ByteArray := method_40_code
def yL_number : MethodName := ⟨RL, "number", "(I)I"⟩
abbrev cL_repairs : ByteArray := method_41_code
def yL_repairs : MethodName := ⟨RL, "repairs", "(LQualityGate;)Z"⟩
abbrev cL_dependencies : ByteArray := method_42_code
def yL_dependencies : MethodName := ⟨RL, "dependencies", "(LQualityGate;I)Z"⟩
abbrev cL_figures : ByteArray := method_43_code
def yL_figures : MethodName := ⟨RL, "figures", "(LQualityGate;II)Z"⟩
abbrev cL_adds : ByteArray := method_44_code
def yL_adds : MethodName := ⟨RL, "adds", "(LQualityGate;I)I"⟩
abbrev cL_commits : ByteArray := method_45_code
def yL_commits : MethodName := ⟨RL, "commits", "(LQualityGate;[II)Z"⟩
abbrev cL_law : ByteArray := code
def yL_law : MethodName := ⟨RL, "law", "([I)Z"⟩
/-- a class of which no field is looked at -/
def TE0 : u_T := fun _ => ("", "", "", false)
abbrev e_cl : List vw_C := [(RX11, TX11, 11), (RJx4a65c, TJx4a65c, 3), (RX7, TX7, 2), (RX0, TX0, 3), (RX3, TX3, 2), (RX9, TX9, 2), (RX5, TX5, 4), (RX4, TX4, 5), (RX6, TX6, 3), (RX2, TX2, 4), (RX10, TX10, 3), (RX1, TX1, 4), ("java/lang/IllegalStateException", TE0, 0), ("java/lang/IllegalArgumentException", TE0, 0), ("java/lang/IllegalStateException", TE0, 0), ("java/lang/IndexOutOfBoundsException", TE0, 0), ("java/util/NoSuchElementException", TE0, 0), ("java/lang/UnsupportedOperationException", TE0, 0), ("java/lang/IllegalStateException", TE0, 0)]
theorem in_TX11 : ∀ w ∈ u_ws RX11 TX11 11, w ∈ lw_tbl := by decide +kernel
theorem in_TJx4a65c : ∀ w ∈ u_ws RJx4a65c TJx4a65c 3, w ∈ lw_tbl := by decide +kernel
theorem in_TX7 : ∀ w ∈ u_ws RX7 TX7 2, w ∈ lw_tbl := by decide +kernel
theorem in_TX0 : ∀ w ∈ u_ws RX0 TX0 3, w ∈ lw_tbl := by decide +kernel
theorem in_TX3 : ∀ w ∈ u_ws RX3 TX3 2, w ∈ lw_tbl := by decide +kernel
theorem in_TX9 : ∀ w ∈ u_ws RX9 TX9 2, w ∈ lw_tbl := by decide +kernel
theorem in_TX5 : ∀ w ∈ u_ws RX5 TX5 4, w ∈ lw_tbl := by decide +kernel
theorem in_TX4 : ∀ w ∈ u_ws RX4 TX4 5, w ∈ lw_tbl := by decide +kernel
theorem in_TX6 : ∀ w ∈ u_ws RX6 TX6 3, w ∈ lw_tbl := by decide +kernel
theorem in_TX2 : ∀ w ∈ u_ws RX2 TX2 4, w ∈ lw_tbl := by decide +kernel
theorem in_TX10 : ∀ w ∈ u_ws RX10 TX10 3, w ∈ lw_tbl := by decide +kernel
theorem in_TX1 : ∀ w ∈ u_ws RX1 TX1 4, w ∈ lw_tbl := by decide +kernel
