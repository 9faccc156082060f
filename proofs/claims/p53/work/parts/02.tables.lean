/-! the classes, methods and links of the program, as numbers (written by a program of mine out of the Statement's words) -/
theorem z_t1 {w : Jvm.Cond} (i : Nat) (h : tables_1_1[i]? = some w) : w ∈ lw_tbl := by
  have h9 := List.mem_of_getElem? h
  exact List.mem_append_right _ (show w ∈ tables_1 from List.mem_append_left _ h9)
theorem z_t2 {w : Jvm.Cond} (i : Nat) (h : tables_1_2[i]? = some w) : w ∈ lw_tbl := by
  have h9 := List.mem_of_getElem? h
  exact List.mem_append_right _ (show w ∈ tables_1 from List.mem_append_right _ (List.mem_append_left _ h9))
theorem z_t3 {w : Jvm.Cond} (i : Nat) (h : tables_1_3[i]? = some w) : w ∈ lw_tbl := by
  have h9 := List.mem_of_getElem? h
  exact List.mem_append_right _ (show w ∈ tables_1 from List.mem_append_right _ (List.mem_append_right _ (List.mem_append_left _ h9)))
theorem z_t4 {w : Jvm.Cond} (i : Nat) (h : tables_1_4[i]? = some w) : w ∈ lw_tbl := by
  have h9 := List.mem_of_getElem? h
  exact List.mem_append_right _ (show w ∈ tables_1 from List.mem_append_right _ (List.mem_append_right _ (List.mem_append_right _ (List.mem_append_left _ h9))))
theorem z_t5 {w : Jvm.Cond} (i : Nat) (h : tables_1_5[i]? = some w) : w ∈ lw_tbl := by
  have h9 := List.mem_of_getElem? h
  exact List.mem_append_right _ (show w ∈ tables_1 from List.mem_append_right _ (List.mem_append_right _ (List.mem_append_right _ (List.mem_append_right _ (h9)))))
theorem z_s1 {q : MethodName × Nat} (i : Nat) (h : lw_privs_1[i]? = some q) : Jvm.Cond.selects q.1.cls q.1 q.1 ∈ lw_tbl := by
  have h9 := List.mem_of_getElem? h
  exact List.mem_append_left _ (List.mem_map.mpr ⟨q, (show q ∈ lw_privs from List.mem_append_left _ h9), rfl⟩)
theorem z_s2 {q : MethodName × Nat} (i : Nat) (h : lw_privs_2[i]? = some q) : Jvm.Cond.selects q.1.cls q.1 q.1 ∈ lw_tbl := by
  have h9 := List.mem_of_getElem? h
  exact List.mem_append_left _ (List.mem_map.mpr ⟨q, (show q ∈ lw_privs from List.mem_append_right _ (List.mem_append_left _ h9)), rfl⟩)
theorem z_s3 {q : MethodName × Nat} (i : Nat) (h : lw_privs_3[i]? = some q) : Jvm.Cond.selects q.1.cls q.1 q.1 ∈ lw_tbl := by
  have h9 := List.mem_of_getElem? h
  exact List.mem_append_left _ (List.mem_map.mpr ⟨q, (show q ∈ lw_privs from List.mem_append_right _ (List.mem_append_right _ (List.mem_append_left _ h9))), rfl⟩)
theorem z_s4 {q : MethodName × Nat} (i : Nat) (h : lw_privs_4[i]? = some q) : Jvm.Cond.selects q.1.cls q.1 q.1 ∈ lw_tbl := by
  have h9 := List.mem_of_getElem? h
  exact List.mem_append_left _ (List.mem_map.mpr ⟨q, (show q ∈ lw_privs from List.mem_append_right _ (List.mem_append_right _ (List.mem_append_right _ (h9)))), rfl⟩)
def zcn (i : Nat) : String := match i with
  | 0 => "Layerboard$Board"
  | 1 => "Layerboard$Change"
  | 2 => "Layerboard$Crossings"
  | 3 => "Layerboard$Guides"
  | 4 => "Layerboard$Lots"
  | 5 => "Layerboard$Picture"
  | 6 => "Layerboard$Polygon"
  | 7 => "Layerboard$Shape"
  | 8 => "Layerboard$Sweep"
  | 9 => "Layerboard$Text"
  | 10 => "Layerboard"
  | 11 => "LayerboardModel"
  | 12 => "LayerboardLaw"
  | 13 => "java/util/Arrays"
  | _ => "java/lang/Math"
def zen (e : Nat) : String := match e with
  | 0 => "java/lang/IllegalArgumentException"
  | 1 => "java/lang/IllegalStateException"
  | _ => "java/lang/IndexOutOfBoundsException"
/-- class, name, bytes, locals, answer, handlers, rank, arguments, is a constructor -/
abbrev zMI : Type := Nat × MethodName × ByteArray × Nat × Option FieldType × List (Nat × Nat × Nat × Nat) × Nat × Nat × Bool
def zr_0 : zMI := (0, ⟨"Layerboard$Board", "<init>", "()V"⟩, prog_2_method_1_code, 2, none, [], 2, 0, true)
def zr_1 : zMI := (0, ⟨"Layerboard$Board", "allThere", "()J"⟩, prog_2_method_5_code, 4, some .long, [], 0, 0, false)
def zr_2 : zMI := (0, ⟨"Layerboard$Board", "isWellKept", "()Z"⟩, prog_2_method_44_code, 3, some .boolean, [], 4, 0, false)
def zr_3 : zMI := (0, ⟨"Layerboard$Board", "sortAll", "()I"⟩, prog_2_method_15_code, 4, some .int, [], 1, 0, false)
def zr_4 : zMI := (0, ⟨"Layerboard$Board", "isBelow", "(LLayerboard$Shape;LLayerboard$Shape;)Z"⟩, prog_2_method_14_code, 2, some .boolean, [], 0, 2, false)
def zr_5 : zMI := (0, ⟨"Layerboard$Board", "isShapeSound", "(I)Z"⟩, prog_2_method_45_code, 4, some .boolean, [], 3, 1, false)
def zr_6 : zMI := (0, ⟨"Layerboard$Board", "isTieSound", "(I)Z"⟩, prog_2_method_46_code, 3, some .boolean, [], 1, 1, false)
def zr_7 : zMI := (0, ⟨"Layerboard$Board", "isThere", "(I)Z"⟩, prog_2_method_3_code, 2, some .boolean, [], 0, 1, false)
def zr_8 : zMI := (0, ⟨"Layerboard$Board", "ringLength", "(II)I"⟩, prog_2_method_27_code, 5, some .int, [], 0, 2, false)
def zr_9 : zMI := (0, ⟨"Layerboard$Board", "isGroupSound", "(I)Z"⟩, prog_2_method_47_code, 4, some .boolean, [], 0, 1, false)
def zr_10 : zMI := (0, ⟨"Layerboard$Board", "perform", "(LLayerboard$Change;I)I"⟩, prog_2_method_6_code, 3, some .int, [], 4, 2, false)
def zr_11 : zMI := (0, ⟨"Layerboard$Board", "drawn", "(LLayerboard$Change;I)I"⟩, prog_2_method_7_code, 4, some .int, [], 2, 2, false)
def zr_12 : zMI := (0, ⟨"Layerboard$Board", "putIntoLayer", "(II)I"⟩, prog_2_method_18_code, 6, some .int, [], 1, 2, false)
def zr_13 : zMI := (0, ⟨"Layerboard$Board", "isInLayer", "(II)Z"⟩, prog_2_method_13_code, 3, some .boolean, [], 0, 2, false)
def zr_14 : zMI := (0, ⟨"Layerboard$Board", "wholePart", "(II)I"⟩, prog_2_method_17_code, 2, some .int, [], 0, 2, false)
def zr_15 : zMI := (0, ⟨"Layerboard$Board", "erased", "(I)I"⟩, prog_2_method_9_code, 5, some .int, [], 0, 1, false)
def zr_16 : zMI := (0, ⟨"Layerboard$Board", "moved", "(LLayerboard$Change;)I"⟩, prog_2_method_31_code, 2, some .int, [], 2, 1, false)
def zr_17 : zMI := (0, ⟨"Layerboard$Board", "chooseNone", "()V"⟩, prog_2_method_36_code, 2, none, [], 0, 0, false)
def zr_18 : zMI := (0, ⟨"Layerboard$Board", "chooseTogether", "(I)V"⟩, prog_2_method_37_code, 4, none, [], 1, 1, false)
def zr_19 : zMI := (0, ⟨"Layerboard$Board", "outermost", "(I)I"⟩, prog_2_method_35_code, 4, some .int, [], 0, 1, false)
def zr_20 : zMI := (0, ⟨"Layerboard$Board", "shiftChosen", "(II)I"⟩, prog_2_method_33_code, 5, some .int, [], 1, 2, false)
def zr_21 : zMI := (0, ⟨"Layerboard$Board", "findShift", "(III)V"⟩, prog_2_method_34_code, 8, none, [], 0, 3, false)
def zr_22 : zMI := (0, ⟨"Layerboard$Board", "turned", "(LLayerboard$Shape;I)I"⟩, prog_2_method_10_code, 5, some .int, [], 2, 2, false)
def zr_23 : zMI := (0, ⟨"Layerboard$Board", "grown", "(LLayerboard$Shape;I)I"⟩, prog_2_method_11_code, 3, some .int, [], 2, 2, false)
def zr_24 : zMI := (0, ⟨"Layerboard$Board", "painted", "(LLayerboard$Shape;I)I"⟩, prog_2_method_12_code, 4, some .int, [], 0, 2, false)
def zr_25 : zMI := (0, ⟨"Layerboard$Board", "raised", "(II)I"⟩, prog_2_method_21_code, 6, some .int, [], 3, 2, false)
def zr_26 : zMI := (0, ⟨"Layerboard$Board", "nextAbove", "(I)I"⟩, prog_2_method_19_code, 4, some .int, [], 1, 1, false)
def zr_27 : zMI := (0, ⟨"Layerboard$Board", "nextBelow", "(I)I"⟩, prog_2_method_20_code, 4, some .int, [], 1, 1, false)
def zr_28 : zMI := (0, ⟨"Layerboard$Board", "putBetween", "(III)V"⟩, prog_2_method_24_code, 8, none, [], 2, 3, false)
def zr_29 : zMI := (0, ⟨"Layerboard$Board", "findKeyBetween", "(III)Z"⟩, prog_2_method_25_code, 10, some .boolean, [], 1, 3, false)
def zr_30 : zMI := (0, ⟨"Layerboard$Board", "lowestOf", "(I)I"⟩, prog_2_method_23_code, 4, some .int, [], 1, 1, false)
def zr_31 : zMI := (0, ⟨"Layerboard$Board", "countBelow", "(I)I"⟩, prog_2_method_22_code, 4, some .int, [], 1, 1, false)
def zr_32 : zMI := (0, ⟨"Layerboard$Board", "shown", "(IZ)I"⟩, prog_2_method_26_code, 5, some .int, [], 1, 2, false)
def zr_33 : zMI := (0, ⟨"Layerboard$Board", "tied", "(III)I"⟩, prog_2_method_29_code, 6, some .int, [], 1, 3, false)
def zr_34 : zMI := (0, ⟨"Layerboard$Board", "untied", "(LLayerboard$Shape;)I"⟩, prog_2_method_30_code, 3, some .int, [], 0, 1, false)
def zr_35 : zMI := (0, ⟨"Layerboard$Board", "gathered", "(JI)I"⟩, prog_2_method_38_code, 6, some .int, [], 2, 2, false)
def zr_36 : zMI := (0, ⟨"Layerboard$Board", "countMembers", "(J)I"⟩, prog_2_method_39_code, 6, some .int, [], 1, 1, false)
def zr_37 : zMI := (0, ⟨"Layerboard$Board", "scattered", "(I)I"⟩, prog_2_method_40_code, 5, some .int, [], 1, 1, false)
def zr_38 : zMI := (0, ⟨"Layerboard$Board", "spaced", "(I)I"⟩, prog_2_method_41_code, 5, some .int, [], 2, 1, false)
def zr_39 : zMI := (0, ⟨"Layerboard$Board", "sortChosenByLeft", "()I"⟩, prog_2_method_42_code, 4, some .int, [], 0, 0, false)
def zr_40 : zMI := (0, ⟨"Layerboard$Board", "shareGaps", "(II)I"⟩, prog_2_method_43_code, 9, some .int, [], 1, 2, false)
def zr_41 : zMI := (0, ⟨"Layerboard$Board", "snapped", "(I)I"⟩, prog_2_method_32_code, 8, some .int, [], 3, 1, false)
def zr_42 : zMI := (0, ⟨"Layerboard$Board", "joined", "(LLayerboard$Change;I)I"⟩, prog_2_method_8_code, 6, some .int, [], 3, 2, false)
def zr_43 : zMI := (0, ⟨"Layerboard$Board", "ringMember", "(III)I"⟩, prog_2_method_28_code, 6, some .int, [], 0, 3, false)
def zr_44 : zMI := (0, ⟨"Layerboard$Board", "clear", "()V"⟩, prog_2_method_2_code, 2, none, [], 1, 0, false)
def zr_45 : zMI := (0, ⟨"Layerboard$Board", "uppermostAt", "(II)I"⟩, prog_2_method_16_code, 5, some .int, [], 5, 2, false)
def zr_46 : zMI := (0, ⟨"Layerboard$Board", "isSeen", "(I)Z"⟩, prog_2_method_4_code, 2, some .boolean, [], 1, 1, false)
def zr_47 : zMI := (1, ⟨"Layerboard$Change", "<init>", "()V"⟩, prog_3_method_1_code, 1, none, [], 1, 0, true)
def zr_48 : zMI := (1, ⟨"Layerboard$Change", "begin", "(III)V"⟩, prog_3_method_2_code, 4, none, [], 1, 3, false)
def zr_49 : zMI := (2, ⟨"Layerboard$Crossings", "<init>", "()V"⟩, prog_4_method_1_code, 1, none, [], 0, 0, true)
def zr_57 : zMI := (3, ⟨"Layerboard$Guides", "<init>", "()V"⟩, prog_5_method_1_code, 1, none, [], 0, 0, true)
def zr_58 : zMI := (3, ⟨"Layerboard$Guides", "put", "(ZI)I"⟩, prog_5_method_2_code, 4, some .int, [], 0, 2, false)
def zr_59 : zMI := (3, ⟨"Layerboard$Guides", "pull", "(ZII)I"⟩, prog_5_method_3_code, 9, some .int, [], 2, 3, false)
def zr_60 : zMI := (3, ⟨"Layerboard$Guides", "nearest", "(ZI)I"⟩, prog_5_method_4_code, 6, some .int, [], 1, 2, false)
def zr_61 : zMI := (4, ⟨"Layerboard$Lots", "<init>", "()V"⟩, prog_6_method_1_code, 1, none, [], 0, 0, true)
def zr_62 : zMI := (4, ⟨"Layerboard$Lots", "next", "(I)I"⟩, prog_6_method_2_code, 2, some .int, [], 0, 1, false)
def zr_63 : zMI := (5, ⟨"Layerboard$Picture", "<init>", "()V"⟩, prog_7_method_1_code, 1, none, [], 0, 0, true)
def zr_75 : zMI := (6, ⟨"Layerboard$Polygon", "<init>", "()V"⟩, prog_8_method_1_code, 1, none, [], 0, 0, true)
def zr_76 : zMI := (6, ⟨"Layerboard$Polygon", "clear", "()V"⟩, prog_8_method_2_code, 1, none, [], 0, 0, false)
def zr_77 : zMI := (6, ⟨"Layerboard$Polygon", "add", "(II)V"⟩, prog_8_method_3_code, 3, none, [], 0, 2, false)
def zr_78 : zMI := (6, ⟨"Layerboard$Polygon", "isProper", "()Z"⟩, prog_8_method_10_code, 2, some .boolean, [], 2, 0, false)
def zr_79 : zMI := (6, ⟨"Layerboard$Polygon", "wide", "(I)I"⟩, prog_8_method_8_code, 2, some .int, [], 1, 1, false)
def zr_80 : zMI := (6, ⟨"Layerboard$Polygon", "after", "(I)I"⟩, prog_8_method_7_code, 2, some .int, [], 0, 1, false)
def zr_81 : zMI := (6, ⟨"Layerboard$Polygon", "high", "(I)I"⟩, prog_8_method_9_code, 2, some .int, [], 1, 1, false)
def zr_82 : zMI := (6, ⟨"Layerboard$Polygon", "canGo", "(II)Z"⟩, prog_8_method_11_code, 2, some .boolean, [], 0, 2, false)
def zr_83 : zMI := (6, ⟨"Layerboard$Polygon", "doubledLean", "(I)I"⟩, prog_8_method_12_code, 4, some .int, [], 1, 1, false)
def zr_84 : zMI := (6, ⟨"Layerboard$Polygon", "take", "(LLayerboard$Polygon;)V"⟩, prog_8_method_4_code, 3, none, [], 1, 1, false)
def zr_85 : zMI := (6, ⟨"Layerboard$Polygon", "takeRectangle", "(IIII)V"⟩, prog_8_method_5_code, 5, none, [], 1, 4, false)
def zr_86 : zMI := (6, ⟨"Layerboard$Polygon", "takeDiamond", "(III)V"⟩, prog_8_method_6_code, 4, none, [], 1, 3, false)
def zr_87 : zMI := (6, ⟨"Layerboard$Polygon", "contains", "(II)Z"⟩, prog_8_method_15_code, 5, some .boolean, [], 3, 2, false)
def zr_88 : zMI := (6, ⟨"Layerboard$Polygon", "isCut", "(II)Z"⟩, prog_8_method_13_code, 3, some .boolean, [], 1, 2, false)
def zr_89 : zMI := (6, ⟨"Layerboard$Polygon", "quartersAt", "(II)I"⟩, prog_8_method_14_code, 3, some .int, [], 2, 2, false)
def zr_90 : zMI := (7, ⟨"Layerboard$Shape", "<init>", "()V"⟩, prog_9_method_1_code, 2, none, [], 1, 0, true)
def zr_91 : zMI := (7, ⟨"Layerboard$Shape", "ownPart", "(I)I"⟩, prog_9_method_6_code, 2, some .int, [], 0, 1, false)
def zr_92 : zMI := (7, ⟨"Layerboard$Shape", "hasSet", "(I)Z"⟩, prog_9_method_5_code, 2, some .boolean, [], 0, 1, false)
def zr_93 : zMI := (7, ⟨"Layerboard$Shape", "begin", "(II)V"⟩, prog_9_method_2_code, 3, none, [], 0, 2, false)
def zr_94 : zMI := (7, ⟨"Layerboard$Shape", "finishSingle", "()V"⟩, prog_9_method_3_code, 1, none, [], 1, 0, false)
def zr_95 : zMI := (7, ⟨"Layerboard$Shape", "findFrame", "()V"⟩, prog_9_method_8_code, 4, none, [], 0, 0, false)
def zr_96 : zMI := (7, ⟨"Layerboard$Shape", "canShift", "(II)Z"⟩, prog_9_method_10_code, 3, some .boolean, [], 0, 2, false)
def zr_97 : zMI := (7, ⟨"Layerboard$Shape", "shift", "(II)V"⟩, prog_9_method_11_code, 6, none, [], 0, 2, false)
def zr_98 : zMI := (7, ⟨"Layerboard$Shape", "turnQuarter", "()V"⟩, prog_9_method_12_code, 5, none, [], 1, 0, false)
def zr_99 : zMI := (7, ⟨"Layerboard$Shape", "flip", "(Z)I"⟩, prog_9_method_13_code, 6, some .int, [], 0, 1, false)
def zr_100 : zMI := (7, ⟨"Layerboard$Shape", "enlarge", "(I)V"⟩, prog_9_method_14_code, 5, none, [], 1, 1, false)
def zr_101 : zMI := (7, ⟨"Layerboard$Shape", "takeJoined", "(ILLayerboard$Shape;LLayerboard$Shape;)V"⟩, prog_9_method_4_code, 5, none, [], 2, 3, false)
def zr_102 : zMI := (7, ⟨"Layerboard$Shape", "told", "(I)I"⟩, prog_9_method_9_code, 2, some .int, [], 0, 1, false)
def zr_103 : zMI := (7, ⟨"Layerboard$Shape", "contains", "(II)Z"⟩, prog_9_method_7_code, 5, some .boolean, [], 4, 2, false)
def zr_104 : zMI := (8, ⟨"Layerboard$Sweep", "<init>", "()V"⟩, prog_10_method_1_code, 1, none, [], 0, 0, true)
def zr_105 : zMI := (8, ⟨"Layerboard$Sweep", "measure", "(LLayerboard$Shape;LLayerboard$Shape;)V"⟩, prog_10_method_4_code, 5, none, [], 4, 2, false)
def zr_106 : zMI := (8, ⟨"Layerboard$Sweep", "load", "(LLayerboard$Shape;I)V"⟩, prog_10_method_5_code, 6, none, [], 3, 2, false)
def zr_107 : zMI := (8, ⟨"Layerboard$Sweep", "loadEdge", "(LLayerboard$Polygon;II)V"⟩, prog_10_method_6_code, 6, none, [], 2, 3, false)
def zr_108 : zMI := (8, ⟨"Layerboard$Sweep", "cutAtCrossings", "()V"⟩, prog_10_method_7_code, 5, none, [], 1, 0, false)
def zr_109 : zMI := (8, ⟨"Layerboard$Sweep", "openStrip", "(II)V"⟩, prog_10_method_8_code, 7, none, [], 0, 2, false)
def zr_110 : zMI := (8, ⟨"Layerboard$Sweep", "addStrip", "(ILLayerboard$Shape;LLayerboard$Shape;)V"⟩, prog_10_method_9_code, 10, none, [], 1, 3, false)
def zr_111 : zMI := (8, ⟨"Layerboard$Sweep", "isHeld", "(IZZ)Z"⟩, prog_10_method_2_code, 3, some .boolean, [], 0, 3, false)
def zr_112 : zMI := (8, ⟨"Layerboard$Sweep", "fraction", "(IIZ)I"⟩, prog_10_method_3_code, 7, some .int, [], 0, 3, false)
def zr_113 : zMI := (9, ⟨"Layerboard$Text", "<init>", "(I)V"⟩, prog_11_method_1_code, 2, none, [], 0, 1, true)
def zr_120 : zMI := (10, ⟨"Layerboard", "<init>", "()V"⟩, prog_1_method_1_code, 2, none, [], 3, 0, true)
def zr_122 : zMI := (10, ⟨"Layerboard", "shapes", "()J"⟩, prog_1_method_28_code, 1, some .long, [], 1, 0, false)
def zr_123 : zMI := (10, ⟨"Layerboard", "changes", "()I"⟩, prog_1_method_44_code, 1, some .int, [], 0, 0, false)
def zr_126 : zMI := (10, ⟨"Layerboard", "isSound", "()Z"⟩, prog_1_method_51_code, 1, some .boolean, [], 6, 0, false)
def zr_127 : zMI := (10, ⟨"Layerboard", "isOnBoard", "(I)Z"⟩, prog_1_method_52_code, 1, some .boolean, [], 0, 1, false)
def zr_128 : zMI := (10, ⟨"Layerboard", "areAreasRight", "()Z"⟩, prog_1_method_70_code, 6, some .boolean, [], 5, 0, false)
def zr_131 : zMI := (10, ⟨"Layerboard", "needHand", "(I)V"⟩, prog_1_method_53_code, 2, none, [], 5, 1, false)
def zr_132 : zMI := (10, ⟨"Layerboard", "needLayer", "(I)V"⟩, prog_1_method_54_code, 2, none, [], 5, 1, false)
def zr_134 : zMI := (10, ⟨"Layerboard", "needAmount", "(III)V"⟩, prog_1_method_60_code, 4, none, [], 5, 3, false)
def zr_136 : zMI := (10, ⟨"Layerboard", "nextDrawing", "(III)LLayerboard$Change;"⟩, prog_1_method_63_code, 5, some (.object "Layerboard$Change"), [], 6, 3, false)
def zr_137 : zMI := (10, ⟨"Layerboard", "nextChange", "(III)LLayerboard$Change;"⟩, prog_1_method_62_code, 5, some (.object "Layerboard$Change"), [], 5, 3, false)
def zr_138 : zMI := (10, ⟨"Layerboard", "make", "(LLayerboard$Change;)I"⟩, prog_1_method_66_code, 3, some .int, [], 5, 1, false)
def zr_143 : zMI := (10, ⟨"Layerboard", "sample", "(III)I"⟩, prog_1_method_8_code, 6, some .int, [], 8, 3, false)
def zr_144 : zMI := (10, ⟨"Layerboard", "nextByLots", "(I)LLayerboard$Change;"⟩, prog_1_method_65_code, 9, some (.object "Layerboard$Change"), [], 7, 1, false)
def zr_146 : zMI := (10, ⟨"Layerboard", "needShape", "(I)LLayerboard$Shape;"⟩, prog_1_method_55_code, 2, some (.object "Layerboard$Shape"), [], 5, 1, false)
def zr_147 : zMI := (10, ⟨"Layerboard", "move", "(IIIIZ)I"⟩, prog_1_method_10_code, 7, some .int, [], 6, 5, false)
def zr_152 : zMI := (10, ⟨"Layerboard", "raise", "(III)I"⟩, prog_1_method_15_code, 5, some .int, [], 6, 3, false)
def zr_153 : zMI := (10, ⟨"Layerboard", "toLayer", "(III)I"⟩, prog_1_method_16_code, 5, some .int, [], 6, 3, false)
def zr_155 : zMI := (10, ⟨"Layerboard", "tie", "(IIII)I"⟩, prog_1_method_18_code, 6, some .int, [], 6, 4, false)
def zr_157 : zMI := (10, ⟨"Layerboard", "ring", "(III)I"⟩, prog_1_method_20_code, 5, some .int, [], 6, 3, false)
def zr_161 : zMI := (10, ⟨"Layerboard", "guide", "(IZI)I"⟩, prog_1_method_24_code, 5, some .int, [], 6, 3, false)
def zr_162 : zMI := (10, ⟨"Layerboard", "snap", "(II)I"⟩, prog_1_method_25_code, 3, some .int, [], 6, 2, false)
def zr_163 : zMI := (10, ⟨"Layerboard", "join", "(IIII)I"⟩, prog_1_method_26_code, 6, some .int, [], 6, 4, false)
def zr_164 : zMI := (10, ⟨"Layerboard", "undo", "(I)I"⟩, prog_1_method_27_code, 3, some .int, [], 6, 1, false)
def zr_165 : zMI := (10, ⟨"Layerboard", "latestOf", "(I)I"⟩, prog_1_method_67_code, 4, some .int, [], 0, 1, false)
def zr_166 : zMI := (10, ⟨"Layerboard", "makeAnew", "()V"⟩, prog_1_method_68_code, 2, none, [], 5, 0, false)
def zr_167 : zMI := (10, ⟨"Layerboard", "shapeAt", "(I)I"⟩, prog_1_method_29_code, 3, some .int, [], 5, 1, false)
def zr_168 : zMI := (10, ⟨"Layerboard", "of", "(II)I"⟩, prog_1_method_30_code, 4, some .int, [], 6, 2, false)
def zr_172 : zMI := (10, ⟨"Layerboard", "holds", "(III)Z"⟩, prog_1_method_33_code, 5, some .boolean, [], 7, 3, false)
def zr_173 : zMI := (10, ⟨"Layerboard", "needHalves", "(II)V"⟩, prog_1_method_59_code, 3, none, [], 6, 2, false)
def zr_174 : zMI := (10, ⟨"Layerboard", "hit", "(II)I"⟩, prog_1_method_34_code, 3, some .int, [], 7, 2, false)
def zr_177 : zMI := (10, ⟨"Layerboard", "area", "(IZ)I"⟩, prog_1_method_36_code, 4, some .int, [], 6, 2, false)
def zr_178 : zMI := (10, ⟨"Layerboard", "areaOf", "(IIIZ)I"⟩, prog_1_method_37_code, 7, some .int, [], 6, 4, false)
def zr_191 : zMI := (11, ⟨"LayerboardModel", "makeAnew", "()V"⟩, code, 2, none, [], 0, 0, false)
def zr_192 : zMI := (11, ⟨"LayerboardModel", "does", "(I)Z"⟩, code, 4, none, [], 0, 1, false)
def zr_193 : zMI := (11, ⟨"LayerboardModel", "drawn", "(I)V"⟩, code, 3, none, [], 0, 1, false)
def zr_194 : zMI := (11, ⟨"LayerboardModel", "cornerAt", "(III)I"⟩, code, 3, none, [], 0, 3, false)
def zr_195 : zMI := (11, ⟨"LayerboardModel", "comes", "(III)V"⟩, code, 4, none, [], 0, 3, false)
def zr_196 : zMI := (11, ⟨"LayerboardModel", "toTop", "(I)V"⟩, code, 2, none, [], 0, 1, false)
def zr_197 : zMI := (11, ⟨"LayerboardModel", "above", "(II)I"⟩, code, 6, none, [], 0, 2, false)
def zr_198 : zMI := (11, ⟨"LayerboardModel", "areThere", "(J)Z"⟩, code, 5, none, [], 0, 1, false)
def zr_199 : zMI := (11, ⟨"LayerboardModel", "isShape", "(I)Z"⟩, code, 2, none, [], 0, 1, false)
def zr_200 : zMI := (11, ⟨"LayerboardModel", "in", "(III)Z"⟩, code, 3, none, [], 0, 3, false)
def zr_201 : zMI := (11, ⟨"LayerboardModel", "gathered", "(IJ)Z"⟩, code, 9, none, [], 0, 2, false)
def zr_202 : zMI := (11, ⟨"LayerboardModel", "outermost", "(I)I"⟩, code, 3, none, [], 0, 1, false)
def zr_203 : zMI := (11, ⟨"LayerboardModel", "shows", "(II)Z"⟩, code, 4, none, [], 0, 2, false)
def zr_204 : zMI := (11, ⟨"LayerboardModel", "guided", "(ZI)Z"⟩, code, 3, none, [], 0, 2, false)
def zr_205 : zMI := (11, ⟨"LayerboardModel", "hasGuide", "(ZI)Z"⟩, code, 5, none, [], 0, 2, false)
def zr_206 : zMI := (11, ⟨"LayerboardModel", "joined", "(IIII)Z"⟩, code, 12, none, [], 0, 4, false)
def zr_207 : zMI := (11, ⟨"LayerboardModel", "law", "(IZZ)Z"⟩, code, 3, none, [], 0, 3, false)
def zr_208 : zMI := (11, ⟨"LayerboardModel", "doesTo", "(III)Z"⟩, code, 5, none, [], 0, 3, false)
def zr_209 : zMI := (11, ⟨"LayerboardModel", "erased", "(I)I"⟩, code, 4, none, [], 0, 1, false)
def zr_210 : zMI := (11, ⟨"LayerboardModel", "followers", "(I)I"⟩, code, 4, none, [], 0, 1, false)
def zr_211 : zMI := (11, ⟨"LayerboardModel", "setOf", "(IZ)J"⟩, code, 3, none, [], 0, 2, false)
def zr_212 : zMI := (11, ⟨"LayerboardModel", "together", "(I)J"⟩, code, 6, none, [], 0, 1, false)
def zr_213 : zMI := (11, ⟨"LayerboardModel", "moved", "(JII)I"⟩, code, 7, none, [], 0, 3, false)
def zr_214 : zMI := (11, ⟨"LayerboardModel", "layMoves", "(JII)V"⟩, code, 7, none, [], 0, 3, false)
def zr_215 : zMI := (11, ⟨"LayerboardModel", "canMove", "()Z"⟩, code, 3, none, [], 0, 0, false)
def zr_216 : zMI := (11, ⟨"LayerboardModel", "side", "(II)I"⟩, code, 8, none, [], 0, 2, false)
def zr_217 : zMI := (11, ⟨"LayerboardModel", "shift", "(III)V"⟩, code, 7, none, [], 0, 3, false)
def zr_218 : zMI := (11, ⟨"LayerboardModel", "raised", "(II)V"⟩, code, 5, none, [], 0, 2, false)
def zr_219 : zMI := (11, ⟨"LayerboardModel", "beside", "(II)I"⟩, code, 4, none, [], 0, 2, false)
def zr_220 : zMI := (11, ⟨"LayerboardModel", "placeOf", "(I)I"⟩, code, 3, none, [], 0, 1, false)
def zr_221 : zMI := (11, ⟨"LayerboardModel", "layOrder", "()V"⟩, code, 3, none, [], 0, 0, false)
def zr_222 : zMI := (11, ⟨"LayerboardModel", "isBelow", "(II)Z"⟩, code, 3, none, [], 0, 2, false)
def zr_223 : zMI := (11, ⟨"LayerboardModel", "putBetween", "(III)V"⟩, code, 6, none, [], 0, 3, false)
def zr_224 : zMI := (11, ⟨"LayerboardModel", "goesBetween", "(III)Z"⟩, code, 10, none, [], 0, 3, false)
def zr_225 : zMI := (11, ⟨"LayerboardModel", "below", "(I)I"⟩, code, 4, none, [], 0, 1, false)
def zr_226 : zMI := (11, ⟨"LayerboardModel", "tied", "(III)Z"⟩, code, 4, none, [], 0, 3, false)
def zr_227 : zMI := (11, ⟨"LayerboardModel", "ringOf", "(II)I"⟩, code, 5, none, [], 0, 2, false)
def zr_228 : zMI := (11, ⟨"LayerboardModel", "leadersOf", "(I)I"⟩, code, 4, none, [], 0, 1, false)
def zr_229 : zMI := (11, ⟨"LayerboardModel", "scatters", "(I)Z"⟩, code, 3, none, [], 0, 1, false)
def zr_230 : zMI := (11, ⟨"LayerboardModel", "scattered", "(I)I"⟩, code, 4, none, [], 0, 1, false)
def zr_231 : zMI := (11, ⟨"LayerboardModel", "spreadOut", "(J)I"⟩, code, 9, none, [], 0, 1, false)
def zr_232 : zMI := (11, ⟨"LayerboardModel", "layRow", "(J)I"⟩, code, 6, none, [], 0, 1, false)
def zr_233 : zMI := (11, ⟨"LayerboardModel", "snaps", "(J)Z"⟩, code, 6, none, [], 0, 1, false)
def zr_234 : zMI := (11, ⟨"LayerboardModel", "sideOf", "(JI)I"⟩, code, 7, none, [], 0, 2, false)
def zr_235 : zMI := (11, ⟨"LayerboardModel", "snapped", "(ZII)I"⟩, code, 10, none, [], 0, 3, false)
def zr_236 : zMI := (11, ⟨"LayerboardModel", "size", "(I)I"⟩, code, 1, none, [], 0, 1, false)
def zr_237 : zMI := (11, ⟨"LayerboardModel", "isReshaped", "(III)Z"⟩, code, 6, none, [], 0, 3, false)
def zr_238 : zMI := (11, ⟨"LayerboardModel", "isTurned", "(II)Z"⟩, code, 5, none, [], 0, 2, false)
def zr_239 : zMI := (11, ⟨"LayerboardModel", "isInTurned", "(I)Z"⟩, code, 2, none, [], 0, 1, false)
def zr_240 : zMI := (11, ⟨"LayerboardModel", "turnOnce", "(I)V"⟩, code, 9, none, [], 0, 1, false)
def zr_241 : zMI := (11, ⟨"LayerboardModel", "isMirrored", "(III)Z"⟩, code, 13, none, [], 0, 3, false)
def zr_385 : zMI := (13, ⟨"java/util/Arrays", "fill", "([II)V"⟩, prog_22_method_103_code, 4, none, [], 0, 2, false)
def zr_386 : zMI := (14, ⟨"java/lang/Math", "abs", "(I)I"⟩, prog_18_method_59_code, 1, some .int, [], 0, 1, false)
def zr_387 : zMI := (14, ⟨"java/lang/Math", "min", "(II)I"⟩, prog_18_method_69_code, 2, some .int, [], 0, 2, false)
def zr_388 : zMI := (14, ⟨"java/lang/Math", "max", "(II)I"⟩, prog_18_method_65_code, 2, some .int, [], 0, 2, false)
def zr_391 : zMI := (12, ⟨"LayerboardLaw", "cell", "([II)I"⟩, method_2_code, 2, some .int, [], 0, 2, false)
def zr_392 : zMI := (12, ⟨"LayerboardLaw", "low", "(II)I"⟩, method_3_code, 2, some .int, [], 0, 2, false)
def zr_393 : zMI := (12, ⟨"LayerboardLaw", "many", "(LLayerboard;)I"⟩, method_4_code, 5, some .int, [], 2, 1, false)
def zr_394 : zMI := (12, ⟨"LayerboardLaw", "isHit", "(LLayerboard;II)Z"⟩, method_5_code, 6, some .boolean, [], 8, 3, false)
def zr_395 : zMI := (12, ⟨"LayerboardLaw", "area", "(LLayerboard;III)J"⟩, method_6_code, 4, some .long, [], 7, 4, false)
def zr_396 : zMI := (12, ⟨"LayerboardLaw", "areAreas", "(LLayerboard;II)Z"⟩, method_7_code, 6, some .boolean, [], 8, 3, false)
def zr_397 : zMI := (12, ⟨"LayerboardLaw", "isBy", "(IZZ)Z"⟩, method_8_code, 3, some .boolean, [], 0, 3, false)
def zr_398 : zMI := (12, ⟨"LayerboardLaw", "isJoined", "(LLayerboard;IIII)Z"⟩, method_9_code, 10, some .boolean, [], 8, 5, false)
def zr_399 : zMI := (12, ⟨"LayerboardLaw", "areKeys", "(LLayerboard;)Z"⟩, method_10_code, 6, some .boolean, [], 7, 1, false)
def zr_400 : zMI := (12, ⟨"LayerboardLaw", "hasNoRing", "(LLayerboard;I)Z"⟩, method_11_code, 4, some .boolean, [], 7, 2, false)
def zr_401 : zMI := (12, ⟨"LayerboardLaw", "digest", "(LLayerboard;)J"⟩, method_12_code, 6, some .long, [], 7, 1, false)
def zr_402 : zMI := (12, ⟨"LayerboardLaw", "ties", "(LLayerboard;III)Z"⟩, method_13_code, 4, some .boolean, [], 8, 4, false)
def zr_403 : zMI := (12, ⟨"LayerboardLaw", "move", "(LLayerboard;III)I"⟩, method_14_code, 5, some .int, [(0, 9, 10, 84)], 7, 4, false)
def zr_404 : zMI := (12, ⟨"LayerboardLaw", "snap", "(LLayerboard;I)I"⟩, method_15_code, 3, some .int, [(0, 6, 7, 84)], 7, 2, false)
def zr_405 : zMI := (12, ⟨"LayerboardLaw", "isSnapped", "(LLayerboard;I)Z"⟩, method_16_code, 3, some .boolean, [], 8, 2, false)
def zr_406 : zMI := (12, ⟨"LayerboardLaw", "acts", "(LLayerboard;IIII)Z"⟩, method_17_code, 8, some .boolean, [], 9, 5, false)
def zr_407 : zMI := (12, ⟨"LayerboardLaw", "law", "([I)Z"⟩, code, 7, some .boolean, [], 10, 1, false)
def zmtab : List zMI := [zr_0, zr_1, zr_2, zr_3, zr_4, zr_5, zr_6, zr_7, zr_8, zr_9, zr_10, zr_11, zr_12, zr_13, zr_14, zr_15, zr_16, zr_17, zr_18, zr_19, zr_20, zr_21, zr_22, zr_23, zr_24, zr_25, zr_26, zr_27, zr_28, zr_29, zr_30, zr_31, zr_32, zr_33, zr_34, zr_35, zr_36, zr_37, zr_38, zr_39, zr_40, zr_41, zr_42, zr_43, zr_44, zr_45, zr_46, zr_47, zr_48, zr_49, zr_0, zr_0, zr_0, zr_0, zr_0, zr_0, zr_0, zr_57, zr_58, zr_59, zr_60, zr_61, zr_62, zr_63, zr_0, zr_0, zr_0, zr_0, zr_0, zr_0, zr_0, zr_0, zr_0, zr_0, zr_0, zr_75, zr_76, zr_77, zr_78, zr_79, zr_80, zr_81, zr_82, zr_83, zr_84, zr_85, zr_86, zr_87, zr_88, zr_89, zr_90, zr_91, zr_92, zr_93, zr_94, zr_95, zr_96, zr_97, zr_98, zr_99, zr_100, zr_101, zr_102, zr_103, zr_104, zr_105, zr_106, zr_107, zr_108, zr_109, zr_110, zr_111, zr_112, zr_113, zr_0, zr_0, zr_0, zr_0, zr_0, zr_0, zr_120, zr_0, zr_122, zr_123, zr_0, zr_0, zr_126, zr_127, zr_128, zr_0, zr_0, zr_131, zr_132, zr_0, zr_134, zr_0, zr_136, zr_137, zr_138, zr_0, zr_0, zr_0, zr_0, zr_143, zr_144, zr_0, zr_146, zr_147, zr_0, zr_0, zr_0, zr_0, zr_152, zr_153, zr_0, zr_155, zr_0, zr_157, zr_0, zr_0, zr_0, zr_161, zr_162, zr_163, zr_164, zr_165, zr_166, zr_167, zr_168, zr_0, zr_0, zr_0, zr_172, zr_173, zr_174, zr_0, zr_0, zr_177, zr_178, zr_0, zr_0, zr_0, zr_0, zr_0, zr_0, zr_0, zr_0, zr_0, zr_0, zr_0, zr_0, zr_191, zr_192, zr_193, zr_194, zr_195, zr_196, zr_197, zr_198, zr_199, zr_200, zr_201, zr_202, zr_203, zr_204, zr_205, zr_206, zr_207, zr_208, zr_209, zr_210, zr_211, zr_212, zr_213, zr_214, zr_215, zr_216, zr_217, zr_218, zr_219, zr_220, zr_221, zr_222, zr_223, zr_224, zr_225, zr_226, zr_227, zr_228, zr_229, zr_230, zr_231, zr_232, zr_233, zr_234, zr_235, zr_236, zr_237, zr_238, zr_239, zr_240, zr_241, zr_0, zr_0, zr_0, zr_0, zr_0, zr_0, zr_0, zr_0, zr_0, zr_0, zr_0, zr_0, zr_0, zr_0, zr_0, zr_0, zr_0, zr_0, zr_0, zr_0, zr_0, zr_0, zr_0, zr_0, zr_0, zr_0, zr_0, zr_0, zr_0, zr_0, zr_0, zr_0, zr_0, zr_0, zr_0, zr_0, zr_0, zr_0, zr_0, zr_0, zr_0, zr_0, zr_0, zr_0, zr_0, zr_0, zr_0, zr_0, zr_0, zr_0, zr_0, zr_0, zr_0, zr_0, zr_0, zr_0, zr_0, zr_0, zr_0, zr_0, zr_0, zr_0, zr_0, zr_0, zr_0, zr_0, zr_0, zr_0, zr_0, zr_0, zr_0, zr_0, zr_0, zr_0, zr_0, zr_0, zr_0, zr_0, zr_0, zr_0, zr_0, zr_0, zr_0, zr_0, zr_0, zr_0, zr_0, zr_0, zr_0, zr_0, zr_0, zr_0, zr_0, zr_0, zr_0, zr_0, zr_0, zr_0, zr_0, zr_0, zr_0, zr_0, zr_0, zr_0, zr_0, zr_0, zr_0, zr_0, zr_0, zr_0, zr_0, zr_0, zr_0, zr_0, zr_0, zr_0, zr_0, zr_0, zr_0, zr_0, zr_0, zr_0, zr_0, zr_0, zr_0, zr_0, zr_0, zr_0, zr_0, zr_0, zr_0, zr_0, zr_0, zr_0, zr_0, zr_0, zr_0, zr_0, zr_0, zr_0, zr_0, zr_0, zr_0, zr_385, zr_386, zr_387, zr_388, zr_0, zr_0, zr_391, zr_392, zr_393, zr_394, zr_395, zr_396, zr_397, zr_398, zr_399, zr_400, zr_401, zr_402, zr_403, zr_404, zr_405, zr_406, zr_407]
set_option maxRecDepth 20000 in
theorem zmi_0 : zmtab[0]? = some zr_0 := rfl
set_option maxRecDepth 20000 in
theorem zmi_1 : zmtab[1]? = some zr_1 := rfl
set_option maxRecDepth 20000 in
theorem zmi_2 : zmtab[2]? = some zr_2 := rfl
set_option maxRecDepth 20000 in
theorem zmi_3 : zmtab[3]? = some zr_3 := rfl
set_option maxRecDepth 20000 in
theorem zmi_4 : zmtab[4]? = some zr_4 := rfl
set_option maxRecDepth 20000 in
theorem zmi_5 : zmtab[5]? = some zr_5 := rfl
set_option maxRecDepth 20000 in
theorem zmi_6 : zmtab[6]? = some zr_6 := rfl
set_option maxRecDepth 20000 in
theorem zmi_7 : zmtab[7]? = some zr_7 := rfl
set_option maxRecDepth 20000 in
theorem zmi_8 : zmtab[8]? = some zr_8 := rfl
set_option maxRecDepth 20000 in
theorem zmi_9 : zmtab[9]? = some zr_9 := rfl
set_option maxRecDepth 20000 in
theorem zmi_10 : zmtab[10]? = some zr_10 := rfl
set_option maxRecDepth 20000 in
theorem zmi_11 : zmtab[11]? = some zr_11 := rfl
set_option maxRecDepth 20000 in
theorem zmi_12 : zmtab[12]? = some zr_12 := rfl
set_option maxRecDepth 20000 in
theorem zmi_13 : zmtab[13]? = some zr_13 := rfl
set_option maxRecDepth 20000 in
theorem zmi_14 : zmtab[14]? = some zr_14 := rfl
set_option maxRecDepth 20000 in
theorem zmi_15 : zmtab[15]? = some zr_15 := rfl
set_option maxRecDepth 20000 in
theorem zmi_16 : zmtab[16]? = some zr_16 := rfl
set_option maxRecDepth 20000 in
theorem zmi_17 : zmtab[17]? = some zr_17 := rfl
set_option maxRecDepth 20000 in
theorem zmi_18 : zmtab[18]? = some zr_18 := rfl
set_option maxRecDepth 20000 in
theorem zmi_19 : zmtab[19]? = some zr_19 := rfl
set_option maxRecDepth 20000 in
theorem zmi_20 : zmtab[20]? = some zr_20 := rfl
set_option maxRecDepth 20000 in
theorem zmi_21 : zmtab[21]? = some zr_21 := rfl
set_option maxRecDepth 20000 in
theorem zmi_22 : zmtab[22]? = some zr_22 := rfl
set_option maxRecDepth 20000 in
theorem zmi_23 : zmtab[23]? = some zr_23 := rfl
set_option maxRecDepth 20000 in
theorem zmi_24 : zmtab[24]? = some zr_24 := rfl
set_option maxRecDepth 20000 in
theorem zmi_25 : zmtab[25]? = some zr_25 := rfl
set_option maxRecDepth 20000 in
theorem zmi_26 : zmtab[26]? = some zr_26 := rfl
set_option maxRecDepth 20000 in
theorem zmi_27 : zmtab[27]? = some zr_27 := rfl
set_option maxRecDepth 20000 in
theorem zmi_28 : zmtab[28]? = some zr_28 := rfl
set_option maxRecDepth 20000 in
theorem zmi_29 : zmtab[29]? = some zr_29 := rfl
set_option maxRecDepth 20000 in
theorem zmi_30 : zmtab[30]? = some zr_30 := rfl
set_option maxRecDepth 20000 in
theorem zmi_31 : zmtab[31]? = some zr_31 := rfl
set_option maxRecDepth 20000 in
theorem zmi_32 : zmtab[32]? = some zr_32 := rfl
set_option maxRecDepth 20000 in
theorem zmi_33 : zmtab[33]? = some zr_33 := rfl
set_option maxRecDepth 20000 in
theorem zmi_34 : zmtab[34]? = some zr_34 := rfl
set_option maxRecDepth 20000 in
theorem zmi_35 : zmtab[35]? = some zr_35 := rfl
set_option maxRecDepth 20000 in
theorem zmi_36 : zmtab[36]? = some zr_36 := rfl
set_option maxRecDepth 20000 in
theorem zmi_37 : zmtab[37]? = some zr_37 := rfl
set_option maxRecDepth 20000 in
theorem zmi_38 : zmtab[38]? = some zr_38 := rfl
set_option maxRecDepth 20000 in
theorem zmi_39 : zmtab[39]? = some zr_39 := rfl
set_option maxRecDepth 20000 in
theorem zmi_40 : zmtab[40]? = some zr_40 := rfl
set_option maxRecDepth 20000 in
theorem zmi_41 : zmtab[41]? = some zr_41 := rfl
set_option maxRecDepth 20000 in
theorem zmi_42 : zmtab[42]? = some zr_42 := rfl
set_option maxRecDepth 20000 in
theorem zmi_43 : zmtab[43]? = some zr_43 := rfl
set_option maxRecDepth 20000 in
theorem zmi_44 : zmtab[44]? = some zr_44 := rfl
set_option maxRecDepth 20000 in
theorem zmi_45 : zmtab[45]? = some zr_45 := rfl
set_option maxRecDepth 20000 in
theorem zmi_46 : zmtab[46]? = some zr_46 := rfl
set_option maxRecDepth 20000 in
theorem zmi_47 : zmtab[47]? = some zr_47 := rfl
set_option maxRecDepth 20000 in
theorem zmi_48 : zmtab[48]? = some zr_48 := rfl
set_option maxRecDepth 20000 in
theorem zmi_49 : zmtab[49]? = some zr_49 := rfl
set_option maxRecDepth 20000 in
theorem zmi_57 : zmtab[57]? = some zr_57 := rfl
set_option maxRecDepth 20000 in
theorem zmi_58 : zmtab[58]? = some zr_58 := rfl
set_option maxRecDepth 20000 in
theorem zmi_59 : zmtab[59]? = some zr_59 := rfl
set_option maxRecDepth 20000 in
theorem zmi_60 : zmtab[60]? = some zr_60 := rfl
set_option maxRecDepth 20000 in
theorem zmi_61 : zmtab[61]? = some zr_61 := rfl
set_option maxRecDepth 20000 in
theorem zmi_62 : zmtab[62]? = some zr_62 := rfl
set_option maxRecDepth 20000 in
theorem zmi_63 : zmtab[63]? = some zr_63 := rfl
set_option maxRecDepth 20000 in
theorem zmi_75 : zmtab[75]? = some zr_75 := rfl
set_option maxRecDepth 20000 in
theorem zmi_76 : zmtab[76]? = some zr_76 := rfl
set_option maxRecDepth 20000 in
theorem zmi_77 : zmtab[77]? = some zr_77 := rfl
set_option maxRecDepth 20000 in
theorem zmi_78 : zmtab[78]? = some zr_78 := rfl
set_option maxRecDepth 20000 in
theorem zmi_79 : zmtab[79]? = some zr_79 := rfl
set_option maxRecDepth 20000 in
theorem zmi_80 : zmtab[80]? = some zr_80 := rfl
set_option maxRecDepth 20000 in
theorem zmi_81 : zmtab[81]? = some zr_81 := rfl
set_option maxRecDepth 20000 in
theorem zmi_82 : zmtab[82]? = some zr_82 := rfl
set_option maxRecDepth 20000 in
theorem zmi_83 : zmtab[83]? = some zr_83 := rfl
set_option maxRecDepth 20000 in
theorem zmi_84 : zmtab[84]? = some zr_84 := rfl
set_option maxRecDepth 20000 in
theorem zmi_85 : zmtab[85]? = some zr_85 := rfl
set_option maxRecDepth 20000 in
theorem zmi_86 : zmtab[86]? = some zr_86 := rfl
set_option maxRecDepth 20000 in
theorem zmi_87 : zmtab[87]? = some zr_87 := rfl
set_option maxRecDepth 20000 in
theorem zmi_88 : zmtab[88]? = some zr_88 := rfl
set_option maxRecDepth 20000 in
theorem zmi_89 : zmtab[89]? = some zr_89 := rfl
set_option maxRecDepth 20000 in
theorem zmi_90 : zmtab[90]? = some zr_90 := rfl
set_option maxRecDepth 20000 in
theorem zmi_91 : zmtab[91]? = some zr_91 := rfl
set_option maxRecDepth 20000 in
theorem zmi_92 : zmtab[92]? = some zr_92 := rfl
set_option maxRecDepth 20000 in
theorem zmi_93 : zmtab[93]? = some zr_93 := rfl
set_option maxRecDepth 20000 in
theorem zmi_94 : zmtab[94]? = some zr_94 := rfl
set_option maxRecDepth 20000 in
theorem zmi_95 : zmtab[95]? = some zr_95 := rfl
set_option maxRecDepth 20000 in
theorem zmi_96 : zmtab[96]? = some zr_96 := rfl
set_option maxRecDepth 20000 in
theorem zmi_97 : zmtab[97]? = some zr_97 := rfl
set_option maxRecDepth 20000 in
theorem zmi_98 : zmtab[98]? = some zr_98 := rfl
set_option maxRecDepth 20000 in
theorem zmi_99 : zmtab[99]? = some zr_99 := rfl
set_option maxRecDepth 20000 in
theorem zmi_100 : zmtab[100]? = some zr_100 := rfl
set_option maxRecDepth 20000 in
theorem zmi_101 : zmtab[101]? = some zr_101 := rfl
set_option maxRecDepth 20000 in
theorem zmi_102 : zmtab[102]? = some zr_102 := rfl
set_option maxRecDepth 20000 in
theorem zmi_103 : zmtab[103]? = some zr_103 := rfl
set_option maxRecDepth 20000 in
theorem zmi_104 : zmtab[104]? = some zr_104 := rfl
set_option maxRecDepth 20000 in
theorem zmi_105 : zmtab[105]? = some zr_105 := rfl
set_option maxRecDepth 20000 in
theorem zmi_106 : zmtab[106]? = some zr_106 := rfl
set_option maxRecDepth 20000 in
theorem zmi_107 : zmtab[107]? = some zr_107 := rfl
set_option maxRecDepth 20000 in
theorem zmi_108 : zmtab[108]? = some zr_108 := rfl
set_option maxRecDepth 20000 in
theorem zmi_109 : zmtab[109]? = some zr_109 := rfl
set_option maxRecDepth 20000 in
theorem zmi_110 : zmtab[110]? = some zr_110 := rfl
set_option maxRecDepth 20000 in
theorem zmi_111 : zmtab[111]? = some zr_111 := rfl
set_option maxRecDepth 20000 in
theorem zmi_112 : zmtab[112]? = some zr_112 := rfl
set_option maxRecDepth 20000 in
theorem zmi_113 : zmtab[113]? = some zr_113 := rfl
set_option maxRecDepth 20000 in
theorem zmi_120 : zmtab[120]? = some zr_120 := rfl
set_option maxRecDepth 20000 in
theorem zmi_122 : zmtab[122]? = some zr_122 := rfl
set_option maxRecDepth 20000 in
theorem zmi_123 : zmtab[123]? = some zr_123 := rfl
set_option maxRecDepth 20000 in
theorem zmi_126 : zmtab[126]? = some zr_126 := rfl
set_option maxRecDepth 20000 in
theorem zmi_127 : zmtab[127]? = some zr_127 := rfl
set_option maxRecDepth 20000 in
theorem zmi_128 : zmtab[128]? = some zr_128 := rfl
set_option maxRecDepth 20000 in
theorem zmi_131 : zmtab[131]? = some zr_131 := rfl
set_option maxRecDepth 20000 in
theorem zmi_132 : zmtab[132]? = some zr_132 := rfl
set_option maxRecDepth 20000 in
theorem zmi_134 : zmtab[134]? = some zr_134 := rfl
set_option maxRecDepth 20000 in
theorem zmi_136 : zmtab[136]? = some zr_136 := rfl
set_option maxRecDepth 20000 in
theorem zmi_137 : zmtab[137]? = some zr_137 := rfl
set_option maxRecDepth 20000 in
theorem zmi_138 : zmtab[138]? = some zr_138 := rfl
set_option maxRecDepth 20000 in
theorem zmi_143 : zmtab[143]? = some zr_143 := rfl
set_option maxRecDepth 20000 in
theorem zmi_144 : zmtab[144]? = some zr_144 := rfl
set_option maxRecDepth 20000 in
theorem zmi_146 : zmtab[146]? = some zr_146 := rfl
set_option maxRecDepth 20000 in
theorem zmi_147 : zmtab[147]? = some zr_147 := rfl
set_option maxRecDepth 20000 in
theorem zmi_152 : zmtab[152]? = some zr_152 := rfl
set_option maxRecDepth 20000 in
theorem zmi_153 : zmtab[153]? = some zr_153 := rfl
set_option maxRecDepth 20000 in
theorem zmi_155 : zmtab[155]? = some zr_155 := rfl
set_option maxRecDepth 20000 in
theorem zmi_157 : zmtab[157]? = some zr_157 := rfl
set_option maxRecDepth 20000 in
theorem zmi_161 : zmtab[161]? = some zr_161 := rfl
set_option maxRecDepth 20000 in
theorem zmi_162 : zmtab[162]? = some zr_162 := rfl
set_option maxRecDepth 20000 in
theorem zmi_163 : zmtab[163]? = some zr_163 := rfl
set_option maxRecDepth 20000 in
theorem zmi_164 : zmtab[164]? = some zr_164 := rfl
set_option maxRecDepth 20000 in
theorem zmi_165 : zmtab[165]? = some zr_165 := rfl
set_option maxRecDepth 20000 in
theorem zmi_166 : zmtab[166]? = some zr_166 := rfl
set_option maxRecDepth 20000 in
theorem zmi_167 : zmtab[167]? = some zr_167 := rfl
set_option maxRecDepth 20000 in
theorem zmi_168 : zmtab[168]? = some zr_168 := rfl
set_option maxRecDepth 20000 in
theorem zmi_172 : zmtab[172]? = some zr_172 := rfl
set_option maxRecDepth 20000 in
theorem zmi_173 : zmtab[173]? = some zr_173 := rfl
set_option maxRecDepth 20000 in
theorem zmi_174 : zmtab[174]? = some zr_174 := rfl
set_option maxRecDepth 20000 in
theorem zmi_177 : zmtab[177]? = some zr_177 := rfl
set_option maxRecDepth 20000 in
theorem zmi_178 : zmtab[178]? = some zr_178 := rfl
set_option maxRecDepth 20000 in
theorem zmi_191 : zmtab[191]? = some zr_191 := rfl
set_option maxRecDepth 20000 in
theorem zmi_192 : zmtab[192]? = some zr_192 := rfl
set_option maxRecDepth 20000 in
theorem zmi_193 : zmtab[193]? = some zr_193 := rfl
set_option maxRecDepth 20000 in
theorem zmi_194 : zmtab[194]? = some zr_194 := rfl
set_option maxRecDepth 20000 in
theorem zmi_195 : zmtab[195]? = some zr_195 := rfl
set_option maxRecDepth 20000 in
theorem zmi_196 : zmtab[196]? = some zr_196 := rfl
set_option maxRecDepth 20000 in
theorem zmi_197 : zmtab[197]? = some zr_197 := rfl
set_option maxRecDepth 20000 in
theorem zmi_198 : zmtab[198]? = some zr_198 := rfl
set_option maxRecDepth 20000 in
theorem zmi_199 : zmtab[199]? = some zr_199 := rfl
set_option maxRecDepth 20000 in
theorem zmi_200 : zmtab[200]? = some zr_200 := rfl
set_option maxRecDepth 20000 in
theorem zmi_201 : zmtab[201]? = some zr_201 := rfl
set_option maxRecDepth 20000 in
theorem zmi_202 : zmtab[202]? = some zr_202 := rfl
set_option maxRecDepth 20000 in
theorem zmi_203 : zmtab[203]? = some zr_203 := rfl
set_option maxRecDepth 20000 in
theorem zmi_204 : zmtab[204]? = some zr_204 := rfl
set_option maxRecDepth 20000 in
theorem zmi_205 : zmtab[205]? = some zr_205 := rfl
set_option maxRecDepth 20000 in
theorem zmi_206 : zmtab[206]? = some zr_206 := rfl
set_option maxRecDepth 20000 in
theorem zmi_207 : zmtab[207]? = some zr_207 := rfl
set_option maxRecDepth 20000 in
theorem zmi_208 : zmtab[208]? = some zr_208 := rfl
set_option maxRecDepth 20000 in
theorem zmi_209 : zmtab[209]? = some zr_209 := rfl
set_option maxRecDepth 20000 in
theorem zmi_210 : zmtab[210]? = some zr_210 := rfl
set_option maxRecDepth 20000 in
theorem zmi_211 : zmtab[211]? = some zr_211 := rfl
set_option maxRecDepth 20000 in
theorem zmi_212 : zmtab[212]? = some zr_212 := rfl
set_option maxRecDepth 20000 in
theorem zmi_213 : zmtab[213]? = some zr_213 := rfl
set_option maxRecDepth 20000 in
theorem zmi_214 : zmtab[214]? = some zr_214 := rfl
set_option maxRecDepth 20000 in
theorem zmi_215 : zmtab[215]? = some zr_215 := rfl
set_option maxRecDepth 20000 in
theorem zmi_216 : zmtab[216]? = some zr_216 := rfl
set_option maxRecDepth 20000 in
theorem zmi_217 : zmtab[217]? = some zr_217 := rfl
set_option maxRecDepth 20000 in
theorem zmi_218 : zmtab[218]? = some zr_218 := rfl
set_option maxRecDepth 20000 in
theorem zmi_219 : zmtab[219]? = some zr_219 := rfl
set_option maxRecDepth 20000 in
theorem zmi_220 : zmtab[220]? = some zr_220 := rfl
set_option maxRecDepth 20000 in
theorem zmi_221 : zmtab[221]? = some zr_221 := rfl
set_option maxRecDepth 20000 in
theorem zmi_222 : zmtab[222]? = some zr_222 := rfl
set_option maxRecDepth 20000 in
theorem zmi_223 : zmtab[223]? = some zr_223 := rfl
set_option maxRecDepth 20000 in
theorem zmi_224 : zmtab[224]? = some zr_224 := rfl
set_option maxRecDepth 20000 in
theorem zmi_225 : zmtab[225]? = some zr_225 := rfl
set_option maxRecDepth 20000 in
theorem zmi_226 : zmtab[226]? = some zr_226 := rfl
set_option maxRecDepth 20000 in
theorem zmi_227 : zmtab[227]? = some zr_227 := rfl
set_option maxRecDepth 20000 in
theorem zmi_228 : zmtab[228]? = some zr_228 := rfl
set_option maxRecDepth 20000 in
theorem zmi_229 : zmtab[229]? = some zr_229 := rfl
set_option maxRecDepth 20000 in
theorem zmi_230 : zmtab[230]? = some zr_230 := rfl
set_option maxRecDepth 20000 in
theorem zmi_231 : zmtab[231]? = some zr_231 := rfl
set_option maxRecDepth 20000 in
theorem zmi_232 : zmtab[232]? = some zr_232 := rfl
set_option maxRecDepth 20000 in
theorem zmi_233 : zmtab[233]? = some zr_233 := rfl
set_option maxRecDepth 20000 in
theorem zmi_234 : zmtab[234]? = some zr_234 := rfl
set_option maxRecDepth 20000 in
theorem zmi_235 : zmtab[235]? = some zr_235 := rfl
set_option maxRecDepth 20000 in
theorem zmi_236 : zmtab[236]? = some zr_236 := rfl
set_option maxRecDepth 20000 in
theorem zmi_237 : zmtab[237]? = some zr_237 := rfl
set_option maxRecDepth 20000 in
theorem zmi_238 : zmtab[238]? = some zr_238 := rfl
set_option maxRecDepth 20000 in
theorem zmi_239 : zmtab[239]? = some zr_239 := rfl
set_option maxRecDepth 20000 in
theorem zmi_240 : zmtab[240]? = some zr_240 := rfl
set_option maxRecDepth 20000 in
theorem zmi_241 : zmtab[241]? = some zr_241 := rfl
set_option maxRecDepth 20000 in
theorem zmi_385 : zmtab[385]? = some zr_385 := rfl
set_option maxRecDepth 20000 in
theorem zmi_386 : zmtab[386]? = some zr_386 := rfl
set_option maxRecDepth 20000 in
theorem zmi_387 : zmtab[387]? = some zr_387 := rfl
set_option maxRecDepth 20000 in
theorem zmi_388 : zmtab[388]? = some zr_388 := rfl
set_option maxRecDepth 20000 in
theorem zmi_391 : zmtab[391]? = some zr_391 := rfl
set_option maxRecDepth 20000 in
theorem zmi_392 : zmtab[392]? = some zr_392 := rfl
set_option maxRecDepth 20000 in
theorem zmi_393 : zmtab[393]? = some zr_393 := rfl
set_option maxRecDepth 20000 in
theorem zmi_394 : zmtab[394]? = some zr_394 := rfl
set_option maxRecDepth 20000 in
theorem zmi_395 : zmtab[395]? = some zr_395 := rfl
set_option maxRecDepth 20000 in
theorem zmi_396 : zmtab[396]? = some zr_396 := rfl
set_option maxRecDepth 20000 in
theorem zmi_397 : zmtab[397]? = some zr_397 := rfl
set_option maxRecDepth 20000 in
theorem zmi_398 : zmtab[398]? = some zr_398 := rfl
set_option maxRecDepth 20000 in
theorem zmi_399 : zmtab[399]? = some zr_399 := rfl
set_option maxRecDepth 20000 in
theorem zmi_400 : zmtab[400]? = some zr_400 := rfl
set_option maxRecDepth 20000 in
theorem zmi_401 : zmtab[401]? = some zr_401 := rfl
set_option maxRecDepth 20000 in
theorem zmi_402 : zmtab[402]? = some zr_402 := rfl
set_option maxRecDepth 20000 in
theorem zmi_403 : zmtab[403]? = some zr_403 := rfl
set_option maxRecDepth 20000 in
theorem zmi_404 : zmtab[404]? = some zr_404 := rfl
set_option maxRecDepth 20000 in
theorem zmi_405 : zmtab[405]? = some zr_405 := rfl
set_option maxRecDepth 20000 in
theorem zmi_406 : zmtab[406]? = some zr_406 := rfl
set_option maxRecDepth 20000 in
theorem zmi_407 : zmtab[407]? = some zr_407 := rfl
def zty (c : Nat) : Nat → FieldType := match c with
  | 0 => tyX0
  | 1 => tyX1
  | 2 => tyX2
  | 3 => tyX3
  | 4 => tyX4
  | 5 => tyX5
  | 6 => tyX6
  | 7 => tyX7
  | 8 => tyX8
  | 9 => tyX9
  | _ => tyX10
def zcl (c : Nat) : vw_C := match c with
  | 0 => (RX0, TX0, 8)
  | 1 => (RX1, TX1, 13)
  | 2 => (RX2, TX2, 2)
  | 3 => (RX3, TX3, 3)
  | 4 => (RX4, TX4, 1)
  | 5 => (RX5, TX5, 7)
  | 6 => (RX6, TX6, 3)
  | 7 => (RX7, TX7, 16)
  | 8 => (RX8, TX8, 13)
  | 9 => (RX9, TX9, 2)
  | _ => (RX10, TX10, 13)
def zgood : Jvm.Cond → Bool
  | .arrayClass _ => true
  | .arrayOver (.object _) => true
  | .methodLinkNest .. => true
  | w => w.onTables && w.keepsFace
def zlk {α : Type} (T : List ((Nat × Nat) × α)) (a b : Nat) : Option α := match T with
  | [] => none
  | q :: t => if q.1.1 = a ∧ q.1.2 = b then some q.2 else zlk t a b
theorem zlk_mem {α : Type} {T : List ((Nat × Nat) × α)} {a b : Nat} {x : α} (h : zlk T a b = some x) : ((a, b), x) ∈ T := by
  induction T with
  | nil => cases h
  | cons q t ih =>
    unfold zlk at h
    by_cases hq : q.1.1 = a ∧ q.1.2 = b
    · rw [if_pos hq] at h
      cases h
      obtain ⟨⟨u, v⟩, w⟩ := q
      obtain ⟨rfl, rfl⟩ := hq
      exact List.mem_cons_self
    · rw [if_neg hq] at h
      exact List.mem_cons_of_mem _ (ih h)
/-- a field's link: its class c, its place k there -/
def zfldP (q : (Nat × Nat) × Nat × Nat) : Prop := q.1.1 < 13 ∧ q.2.1 < 11 ∧ q.2.2 < (zcl q.2.1).2.2 ∧ ((zcl q.2.1).2.1 q.2.2).1 = zcn q.2.1 ∧
  Jvm.Cond.fieldLink (zcn q.1.1) q.1.2 ((zcl q.2.1).2.1 q.2.2).1 ((zcl q.2.1).2.1 q.2.2).2.1 ((zcl q.2.1).2.1 q.2.2).2.2.1 ∈ lw_tbl
def zmcode (x : zMI) : Jvm.Cond := match x.2.2.2.2.2.1 with
  | [] => .code x.2.1 x.2.2.1 x.2.2.2.1 x.2.2.2.2.1
  | h :: t => .codeWith x.2.1 x.2.2.1 x.2.2.2.1 x.2.2.2.2.1 (h :: t)
/-- the words of a call, by its kind -/
def zcw (own : String) (idx : Nat) (x : zMI) (kind : Nat) : List Jvm.Cond := match kind with
  | 0 => [.methodLink own idx x.2.1, .instanceMethod x.2.1, .selects x.2.1.cls x.2.1 x.2.1, .initialized x.2.1.cls, zmcode x]
  | 1 => [.methodLink own idx x.2.1, .static x.2.1, .initialized x.2.1.cls, zmcode x]
  | 2 => [.methodLink own idx x.2.1, .instanceMethod x.2.1, .initialized x.2.1.cls, zmcode x]
  | 3 => [.methodLinkNest own idx x.2.1 "Layerboard", .instanceMethod x.2.1, .initialized x.2.1.cls, zmcode x]
  | 4 => [.methodLinkNest own idx x.2.1 "Layerboard", .static x.2.1, .initialized x.2.1.cls, zmcode x]
  | 5 => [.methodLink own idx x.2.1, .static x.2.1, .initialized x.2.1.cls, zmcode x]
  | _ => [.methodLink own idx Lib.objectInit, .instanceMethod Lib.objectInit, .code Lib.objectInit ⟨#[0xb1]⟩ 1 none]
def zmthP (q : (Nat × Nat) × Nat × Nat) : Prop := ∃ x : zMI, zmtab[q.2.1]? = some x ∧ (∀ w ∈ zcw (zcn q.1.1) q.1.2 x q.2.2, w ∈ lw_tbl) ∧ ((q.2.2 = 2 ∨ q.2.2 = 3) → x.2.2.2.2.2.2.2.2 = true) ∧ (q.2.2 = 5 ↔ x.2.2.2.2.2.1 ≠ []) ∧ q.2.2 ≤ 6
def zmP (x : zMI) : Prop := x.2.1.cls = zcn x.1 ∧ x.1 < 15 ∧ x.2.2.2.1 ≤ 14 ∧ (parseMethodDescriptor x.2.1.desc).map (fun d => d.parameters.length) = some x.2.2.2.2.2.2.2.1 ∧ (x.2.2.2.2.2.2.2.2 = true → x.2.1.name = "<init>" ∧ x.2.2.2.2.1 = none)
def zclsP (q : (Nat × Nat) × Nat) : Prop := (q.2 < 11 ∨ (20 ≤ q.2 ∧ q.2 < 23)) ∧ Jvm.Cond.classLink (zcn q.1.1) q.1.2 (if q.2 < 20 then zcn q.2 else zen (q.2 - 20)) ∈ lw_tbl
def zcstP (q : (Nat × Nat) × Int) : Prop := -2147483648 ≤ q.2 ∧ q.2 ≤ 2147483647 ∧ Jvm.Cond.constant (zcn q.1.1) q.1.2 (Int32.ofInt q.2) ∈ lw_tbl
def zcstlP (q : (Nat × Nat) × Int64) : Prop := Jvm.Cond.constantLong (zcn q.1.1) q.1.2 q.2 ∈ lw_tbl
def zstrP (q : Nat × String) : Prop := Jvm.Cond.stringRef (zcn 10) q.1 q.2 ∈ lw_tbl
def zfld_0 : List ((Nat × Nat) × Nat × Nat) := [((0, 11), 0, 0), ((0, 17), 0, 1), ((0, 21), 0, 2), ((0, 25), 0, 3), ((0, 28), 0, 4), ((0, 31), 0, 5), ((0, 34), 0, 6), ((0, 40), 0, 7), ((0, 51), 7, 0), ((0, 55), 3, 0), ((0, 62), 7, 1), ((0, 65), 1, 2), ((0, 70), 1, 3), ((0, 73), 1, 0), ((0, 88), 1, 8), ((0, 95), 1, 9)]
theorem zfld_o0 : ∀ q ∈ zfld_0, zfldP q := List.forall_mem_cons.mpr ⟨⟨by decide, by decide, by decide, rfl, z_t1 152 rfl⟩, List.forall_mem_cons.mpr ⟨⟨by decide, by decide, by decide, rfl, z_t1 154 rfl⟩, List.forall_mem_cons.mpr ⟨⟨by decide, by decide, by decide, rfl, z_t1 156 rfl⟩, List.forall_mem_cons.mpr ⟨⟨by decide, by decide, by decide, rfl, z_t1 157 rfl⟩, List.forall_mem_cons.mpr ⟨⟨by decide, by decide, by decide, rfl, z_t1 158 rfl⟩, List.forall_mem_cons.mpr ⟨⟨by decide, by decide, by decide, rfl, z_t1 159 rfl⟩, List.forall_mem_cons.mpr ⟨⟨by decide, by decide, by decide, rfl, z_t1 160 rfl⟩, List.forall_mem_cons.mpr ⟨⟨by decide, by decide, by decide, rfl, z_t1 161 rfl⟩, List.forall_mem_cons.mpr ⟨⟨by decide, by decide, by decide, rfl, z_t1 84 rfl⟩, List.forall_mem_cons.mpr ⟨⟨by decide, by decide, by decide, rfl, z_t1 43 rfl⟩, List.forall_mem_cons.mpr ⟨⟨by decide, by decide, by decide, rfl, z_t1 85 rfl⟩, List.forall_mem_cons.mpr ⟨⟨by decide, by decide, by decide, rfl, z_t1 194 rfl⟩, List.forall_mem_cons.mpr ⟨⟨by decide, by decide, by decide, rfl, z_t1 196 rfl⟩, List.forall_mem_cons.mpr ⟨⟨by decide, by decide, by decide, rfl, z_t1 189 rfl⟩, List.forall_mem_cons.mpr ⟨⟨by decide, by decide, by decide, rfl, z_t1 211 rfl⟩, List.forall_mem_cons.mpr ⟨⟨by decide, by decide, by decide, rfl, z_t1 214 rfl⟩, fun _ h => absurd h List.not_mem_nil⟩⟩⟩⟩⟩⟩⟩⟩⟩⟩⟩⟩⟩⟩⟩⟩
def zfld_1 : List ((Nat × Nat) × Nat × Nat) := [((0, 105), 1, 5), ((0, 115), 1, 4), ((0, 131), 1, 10), ((0, 155), 1, 1), ((0, 162), 7, 15), ((0, 166), 1, 12), ((0, 179), 7, 10), ((0, 180), 7, 2), ((0, 185), 7, 6), ((0, 188), 7, 7), ((0, 191), 7, 11), ((0, 194), 7, 14), ((0, 197), 7, 12), ((0, 200), 7, 13), ((0, 210), 7, 3), ((0, 213), 7, 4)]
theorem zfld_o1 : ∀ q ∈ zfld_1, zfldP q := List.forall_mem_cons.mpr ⟨⟨by decide, by decide, by decide, rfl, z_t1 202 rfl⟩, List.forall_mem_cons.mpr ⟨⟨by decide, by decide, by decide, rfl, z_t1 199 rfl⟩, List.forall_mem_cons.mpr ⟨⟨by decide, by decide, by decide, rfl, z_t1 217 rfl⟩, List.forall_mem_cons.mpr ⟨⟨by decide, by decide, by decide, rfl, z_t1 191 rfl⟩, List.forall_mem_cons.mpr ⟨⟨by decide, by decide, by decide, rfl, z_t1 115 rfl⟩, List.forall_mem_cons.mpr ⟨⟨by decide, by decide, by decide, rfl, z_t1 221 rfl⟩, List.forall_mem_cons.mpr ⟨⟨by decide, by decide, by decide, rfl, z_t1 104 rfl⟩, List.forall_mem_cons.mpr ⟨⟨by decide, by decide, by decide, rfl, z_t1 88 rfl⟩, List.forall_mem_cons.mpr ⟨⟨by decide, by decide, by decide, rfl, z_t1 95 rfl⟩, List.forall_mem_cons.mpr ⟨⟨by decide, by decide, by decide, rfl, z_t1 97 rfl⟩, List.forall_mem_cons.mpr ⟨⟨by decide, by decide, by decide, rfl, z_t1 106 rfl⟩, List.forall_mem_cons.mpr ⟨⟨by decide, by decide, by decide, rfl, z_t1 112 rfl⟩, List.forall_mem_cons.mpr ⟨⟨by decide, by decide, by decide, rfl, z_t1 108 rfl⟩, List.forall_mem_cons.mpr ⟨⟨by decide, by decide, by decide, rfl, z_t1 110 rfl⟩, List.forall_mem_cons.mpr ⟨⟨by decide, by decide, by decide, rfl, z_t1 90 rfl⟩, List.forall_mem_cons.mpr ⟨⟨by decide, by decide, by decide, rfl, z_t1 92 rfl⟩, fun _ h => absurd h List.not_mem_nil⟩⟩⟩⟩⟩⟩⟩⟩⟩⟩⟩⟩⟩⟩⟩⟩
def zfld_2 : List ((Nat × Nat) × Nat × Nat) := [((0, 271), 1, 6), ((0, 273), 1, 7), ((0, 297), 7, 8), ((0, 328), 7, 9), ((1, 12), 1, 12), ((1, 18), 1, 0), ((1, 22), 1, 1), ((1, 25), 1, 2), ((1, 28), 1, 3), ((1, 31), 1, 4), ((1, 34), 1, 5), ((1, 37), 1, 6), ((1, 40), 1, 7), ((1, 43), 1, 8), ((1, 46), 1, 9), ((1, 50), 1, 10)]
theorem zfld_o2 : ∀ q ∈ zfld_2, zfldP q := List.forall_mem_cons.mpr ⟨⟨by decide, by decide, by decide, rfl, z_t1 206 rfl⟩, List.forall_mem_cons.mpr ⟨⟨by decide, by decide, by decide, rfl, z_t1 209 rfl⟩, List.forall_mem_cons.mpr ⟨⟨by decide, by decide, by decide, rfl, z_t1 99 rfl⟩, List.forall_mem_cons.mpr ⟨⟨by decide, by decide, by decide, rfl, z_t1 101 rfl⟩, List.forall_mem_cons.mpr ⟨⟨by decide, by decide, by decide, rfl, z_t1 220 rfl⟩, List.forall_mem_cons.mpr ⟨⟨by decide, by decide, by decide, rfl, z_t1 188 rfl⟩, List.forall_mem_cons.mpr ⟨⟨by decide, by decide, by decide, rfl, z_t1 190 rfl⟩, List.forall_mem_cons.mpr ⟨⟨by decide, by decide, by decide, rfl, z_t1 193 rfl⟩, List.forall_mem_cons.mpr ⟨⟨by decide, by decide, by decide, rfl, z_t1 195 rfl⟩, List.forall_mem_cons.mpr ⟨⟨by decide, by decide, by decide, rfl, z_t1 198 rfl⟩, List.forall_mem_cons.mpr ⟨⟨by decide, by decide, by decide, rfl, z_t1 201 rfl⟩, List.forall_mem_cons.mpr ⟨⟨by decide, by decide, by decide, rfl, z_t1 204 rfl⟩, List.forall_mem_cons.mpr ⟨⟨by decide, by decide, by decide, rfl, z_t1 207 rfl⟩, List.forall_mem_cons.mpr ⟨⟨by decide, by decide, by decide, rfl, z_t1 210 rfl⟩, List.forall_mem_cons.mpr ⟨⟨by decide, by decide, by decide, rfl, z_t1 213 rfl⟩, List.forall_mem_cons.mpr ⟨⟨by decide, by decide, by decide, rfl, z_t1 216 rfl⟩, fun _ h => absurd h List.not_mem_nil⟩⟩⟩⟩⟩⟩⟩⟩⟩⟩⟩⟩⟩⟩⟩⟩
def zfld_3 : List ((Nat × Nat) × Nat × Nat) := [((1, 54), 1, 11), ((2, 13), 2, 1), ((3, 11), 3, 1), ((3, 15), 3, 2), ((3, 19), 3, 0), ((4, 7), 4, 0), ((5, 11), 5, 0), ((5, 15), 5, 1), ((5, 18), 5, 2), ((5, 21), 5, 3), ((5, 24), 5, 4), ((5, 27), 5, 5), ((6, 9), 6, 1), ((6, 15), 6, 2), ((6, 18), 6, 0), ((7, 11), 7, 15)]
theorem zfld_o3 : ∀ q ∈ zfld_3, zfldP q := List.forall_mem_cons.mpr ⟨⟨by decide, by decide, by decide, rfl, z_t1 218 rfl⟩, List.forall_mem_cons.mpr ⟨⟨by decide, by decide, by decide, rfl, z_t2 77 rfl⟩, List.forall_mem_cons.mpr ⟨⟨by decide, by decide, by decide, rfl, z_t1 44 rfl⟩, List.forall_mem_cons.mpr ⟨⟨by decide, by decide, by decide, rfl, z_t1 45 rfl⟩, List.forall_mem_cons.mpr ⟨⟨by decide, by decide, by decide, rfl, z_t1 42 rfl⟩, List.forall_mem_cons.mpr ⟨⟨by decide, by decide, by decide, rfl, z_t2 118 rfl⟩, List.forall_mem_cons.mpr ⟨⟨by decide, by decide, by decide, rfl, z_t2 89 rfl⟩, List.forall_mem_cons.mpr ⟨⟨by decide, by decide, by decide, rfl, z_t2 90 rfl⟩, List.forall_mem_cons.mpr ⟨⟨by decide, by decide, by decide, rfl, z_t2 91 rfl⟩, List.forall_mem_cons.mpr ⟨⟨by decide, by decide, by decide, rfl, z_t2 92 rfl⟩, List.forall_mem_cons.mpr ⟨⟨by decide, by decide, by decide, rfl, z_t2 93 rfl⟩, List.forall_mem_cons.mpr ⟨⟨by decide, by decide, by decide, rfl, z_t2 94 rfl⟩, List.forall_mem_cons.mpr ⟨⟨by decide, by decide, by decide, rfl, z_t1 70 rfl⟩, List.forall_mem_cons.mpr ⟨⟨by decide, by decide, by decide, rfl, z_t1 73 rfl⟩, List.forall_mem_cons.mpr ⟨⟨by decide, by decide, by decide, rfl, z_t1 67 rfl⟩, List.forall_mem_cons.mpr ⟨⟨by decide, by decide, by decide, rfl, z_t1 113 rfl⟩, fun _ h => absurd h List.not_mem_nil⟩⟩⟩⟩⟩⟩⟩⟩⟩⟩⟩⟩⟩⟩⟩⟩
def zfld_4 : List ((Nat × Nat) × Nat × Nat) := [((7, 18), 7, 6), ((7, 22), 7, 7), ((7, 25), 7, 8), ((7, 28), 7, 3), ((7, 31), 7, 4), ((7, 34), 7, 0), ((7, 38), 7, 5), ((7, 41), 7, 2), ((7, 44), 7, 10), ((7, 47), 7, 9), ((7, 75), 6, 1), ((7, 79), 7, 11), ((7, 82), 7, 13), ((7, 85), 6, 2), ((7, 88), 7, 12), ((7, 91), 7, 14)]
theorem zfld_o4 : ∀ q ∈ zfld_4, zfldP q := List.forall_mem_cons.mpr ⟨⟨by decide, by decide, by decide, rfl, z_t1 94 rfl⟩, List.forall_mem_cons.mpr ⟨⟨by decide, by decide, by decide, rfl, z_t1 96 rfl⟩, List.forall_mem_cons.mpr ⟨⟨by decide, by decide, by decide, rfl, z_t1 98 rfl⟩, List.forall_mem_cons.mpr ⟨⟨by decide, by decide, by decide, rfl, z_t1 89 rfl⟩, List.forall_mem_cons.mpr ⟨⟨by decide, by decide, by decide, rfl, z_t1 91 rfl⟩, List.forall_mem_cons.mpr ⟨⟨by decide, by decide, by decide, rfl, z_t1 83 rfl⟩, List.forall_mem_cons.mpr ⟨⟨by decide, by decide, by decide, rfl, z_t1 93 rfl⟩, List.forall_mem_cons.mpr ⟨⟨by decide, by decide, by decide, rfl, z_t1 87 rfl⟩, List.forall_mem_cons.mpr ⟨⟨by decide, by decide, by decide, rfl, z_t1 102 rfl⟩, List.forall_mem_cons.mpr ⟨⟨by decide, by decide, by decide, rfl, z_t1 100 rfl⟩, List.forall_mem_cons.mpr ⟨⟨by decide, by decide, by decide, rfl, z_t1 72 rfl⟩, List.forall_mem_cons.mpr ⟨⟨by decide, by decide, by decide, rfl, z_t1 105 rfl⟩, List.forall_mem_cons.mpr ⟨⟨by decide, by decide, by decide, rfl, z_t1 109 rfl⟩, List.forall_mem_cons.mpr ⟨⟨by decide, by decide, by decide, rfl, z_t1 75 rfl⟩, List.forall_mem_cons.mpr ⟨⟨by decide, by decide, by decide, rfl, z_t1 107 rfl⟩, List.forall_mem_cons.mpr ⟨⟨by decide, by decide, by decide, rfl, z_t1 111 rfl⟩, fun _ h => absurd h List.not_mem_nil⟩⟩⟩⟩⟩⟩⟩⟩⟩⟩⟩⟩⟩⟩⟩⟩
def zfld_5 : List ((Nat × Nat) × Nat × Nat) := [((7, 94), 6, 0), ((7, 95), 7, 1), ((8, 11), 8, 0), ((8, 15), 8, 2), ((8, 18), 8, 3), ((8, 21), 8, 4), ((8, 24), 8, 5), ((8, 27), 8, 6), ((8, 30), 8, 7), ((8, 33), 8, 8), ((8, 36), 8, 12), ((8, 40), 8, 1), ((8, 44), 8, 10), ((8, 47), 8, 11), ((8, 54), 7, 10), ((8, 68), 8, 9)]
theorem zfld_o5 : ∀ q ∈ zfld_5, zfldP q := List.forall_mem_cons.mpr ⟨⟨by decide, by decide, by decide, rfl, z_t1 69 rfl⟩, List.forall_mem_cons.mpr ⟨⟨by decide, by decide, by decide, rfl, z_t1 86 rfl⟩, List.forall_mem_cons.mpr ⟨⟨by decide, by decide, by decide, rfl, z_t2 30 rfl⟩, List.forall_mem_cons.mpr ⟨⟨by decide, by decide, by decide, rfl, z_t2 33 rfl⟩, List.forall_mem_cons.mpr ⟨⟨by decide, by decide, by decide, rfl, z_t2 34 rfl⟩, List.forall_mem_cons.mpr ⟨⟨by decide, by decide, by decide, rfl, z_t2 35 rfl⟩, List.forall_mem_cons.mpr ⟨⟨by decide, by decide, by decide, rfl, z_t2 36 rfl⟩, List.forall_mem_cons.mpr ⟨⟨by decide, by decide, by decide, rfl, z_t2 37 rfl⟩, List.forall_mem_cons.mpr ⟨⟨by decide, by decide, by decide, rfl, z_t2 38 rfl⟩, List.forall_mem_cons.mpr ⟨⟨by decide, by decide, by decide, rfl, z_t2 39 rfl⟩, List.forall_mem_cons.mpr ⟨⟨by decide, by decide, by decide, rfl, z_t2 43 rfl⟩, List.forall_mem_cons.mpr ⟨⟨by decide, by decide, by decide, rfl, z_t2 32 rfl⟩, List.forall_mem_cons.mpr ⟨⟨by decide, by decide, by decide, rfl, z_t2 41 rfl⟩, List.forall_mem_cons.mpr ⟨⟨by decide, by decide, by decide, rfl, z_t2 42 rfl⟩, List.forall_mem_cons.mpr ⟨⟨by decide, by decide, by decide, rfl, z_t1 103 rfl⟩, List.forall_mem_cons.mpr ⟨⟨by decide, by decide, by decide, rfl, z_t2 40 rfl⟩, fun _ h => absurd h List.not_mem_nil⟩⟩⟩⟩⟩⟩⟩⟩⟩⟩⟩⟩⟩⟩⟩⟩
def zfld_6 : List ((Nat × Nat) × Nat × Nat) := [((8, 85), 7, 15), ((8, 89), 6, 0), ((8, 96), 6, 2), ((8, 113), 6, 1), ((9, 9), 9, 1), ((10, 10), 10, 0), ((10, 18), 10, 1), ((10, 23), 10, 2), ((10, 30), 10, 3), ((10, 34), 10, 4), ((10, 42), 10, 5), ((10, 46), 10, 6), ((10, 52), 10, 7), ((10, 59), 10, 8), ((10, 66), 10, 9), ((10, 73), 10, 10)]
theorem zfld_o6 : ∀ q ∈ zfld_6, zfldP q := List.forall_mem_cons.mpr ⟨⟨by decide, by decide, by decide, rfl, z_t1 114 rfl⟩, List.forall_mem_cons.mpr ⟨⟨by decide, by decide, by decide, rfl, z_t1 68 rfl⟩, List.forall_mem_cons.mpr ⟨⟨by decide, by decide, by decide, rfl, z_t1 74 rfl⟩, List.forall_mem_cons.mpr ⟨⟨by decide, by decide, by decide, rfl, z_t1 71 rfl⟩, List.forall_mem_cons.mpr ⟨⟨by decide, by decide, by decide, rfl, z_t2 18 rfl⟩, List.forall_mem_cons.mpr ⟨⟨by decide, by decide, by decide, rfl, z_t2 123 rfl⟩, List.forall_mem_cons.mpr ⟨⟨by decide, by decide, by decide, rfl, z_t2 124 rfl⟩, List.forall_mem_cons.mpr ⟨⟨by decide, by decide, by decide, rfl, z_t2 125 rfl⟩, List.forall_mem_cons.mpr ⟨⟨by decide, by decide, by decide, rfl, z_t2 126 rfl⟩, List.forall_mem_cons.mpr ⟨⟨by decide, by decide, by decide, rfl, z_t2 127 rfl⟩, List.forall_mem_cons.mpr ⟨⟨by decide, by decide, by decide, rfl, z_t2 128 rfl⟩, List.forall_mem_cons.mpr ⟨⟨by decide, by decide, by decide, rfl, z_t2 129 rfl⟩, List.forall_mem_cons.mpr ⟨⟨by decide, by decide, by decide, rfl, z_t2 130 rfl⟩, List.forall_mem_cons.mpr ⟨⟨by decide, by decide, by decide, rfl, z_t2 131 rfl⟩, List.forall_mem_cons.mpr ⟨⟨by decide, by decide, by decide, rfl, z_t2 132 rfl⟩, List.forall_mem_cons.mpr ⟨⟨by decide, by decide, by decide, rfl, z_t2 133 rfl⟩, fun _ h => absurd h List.not_mem_nil⟩⟩⟩⟩⟩⟩⟩⟩⟩⟩⟩⟩⟩⟩⟩⟩
def zfld_7 : List ((Nat × Nat) × Nat × Nat) := [((10, 77), 10, 11), ((10, 83), 10, 12), ((10, 144), 1, 12), ((10, 161), 4, 0), ((10, 177), 1, 6), ((10, 180), 1, 7), ((10, 183), 1, 9), ((10, 190), 1, 8), ((10, 193), 1, 5), ((10, 196), 1, 4), ((10, 199), 1, 3), ((10, 233), 1, 11), ((10, 245), 0, 1), ((10, 290), 0, 0), ((10, 302), 8, 0), ((10, 418), 1, 1)]
theorem zfld_o7 : ∀ q ∈ zfld_7, zfldP q := List.forall_mem_cons.mpr ⟨⟨by decide, by decide, by decide, rfl, z_t2 134 rfl⟩, List.forall_mem_cons.mpr ⟨⟨by decide, by decide, by decide, rfl, z_t2 135 rfl⟩, List.forall_mem_cons.mpr ⟨⟨by decide, by decide, by decide, rfl, z_t1 222 rfl⟩, List.forall_mem_cons.mpr ⟨⟨by decide, by decide, by decide, rfl, z_t2 119 rfl⟩, List.forall_mem_cons.mpr ⟨⟨by decide, by decide, by decide, rfl, z_t1 205 rfl⟩, List.forall_mem_cons.mpr ⟨⟨by decide, by decide, by decide, rfl, z_t1 208 rfl⟩, List.forall_mem_cons.mpr ⟨⟨by decide, by decide, by decide, rfl, z_t1 215 rfl⟩, List.forall_mem_cons.mpr ⟨⟨by decide, by decide, by decide, rfl, z_t1 212 rfl⟩, List.forall_mem_cons.mpr ⟨⟨by decide, by decide, by decide, rfl, z_t1 203 rfl⟩, List.forall_mem_cons.mpr ⟨⟨by decide, by decide, by decide, rfl, z_t1 200 rfl⟩, List.forall_mem_cons.mpr ⟨⟨by decide, by decide, by decide, rfl, z_t1 197 rfl⟩, List.forall_mem_cons.mpr ⟨⟨by decide, by decide, by decide, rfl, z_t1 219 rfl⟩, List.forall_mem_cons.mpr ⟨⟨by decide, by decide, by decide, rfl, z_t1 155 rfl⟩, List.forall_mem_cons.mpr ⟨⟨by decide, by decide, by decide, rfl, z_t1 153 rfl⟩, List.forall_mem_cons.mpr ⟨⟨by decide, by decide, by decide, rfl, z_t2 31 rfl⟩, List.forall_mem_cons.mpr ⟨⟨by decide, by decide, by decide, rfl, z_t1 192 rfl⟩, fun _ h => absurd h List.not_mem_nil⟩⟩⟩⟩⟩⟩⟩⟩⟩⟩⟩⟩⟩⟩⟩⟩
def zfldT : List ((Nat × Nat) × Nat × Nat) := zfld_0 ++ (zfld_1 ++ (zfld_2 ++ (zfld_3 ++ (zfld_4 ++ (zfld_5 ++ (zfld_6 ++ (zfld_7)))))))
theorem zfld_ok : ∀ q ∈ zfldT, zfldP q := by
  unfold zfldT
  exact List.forall_mem_append.mpr ⟨zfld_o0, List.forall_mem_append.mpr ⟨zfld_o1, List.forall_mem_append.mpr ⟨zfld_o2, List.forall_mem_append.mpr ⟨zfld_o3, List.forall_mem_append.mpr ⟨zfld_o4, List.forall_mem_append.mpr ⟨zfld_o5, List.forall_mem_append.mpr ⟨zfld_o6, zfld_o7⟩⟩⟩⟩⟩⟩⟩
def zmth_0 : List ((Nat × Nat) × Nat × Nat) := [((0, 3), 0, 6), ((0, 39), 57, 3), ((0, 44), 90, 2), ((0, 45), 385, 1), ((0, 59), 7, 0), ((0, 76), 11, 0), ((0, 80), 15, 0), ((0, 84), 16, 0), ((0, 91), 22, 0), ((0, 98), 99, 0), ((0, 102), 23, 0), ((0, 108), 24, 0), ((0, 111), 25, 0), ((0, 116), 12, 0), ((0, 119), 32, 0), ((0, 123), 33, 0)]
theorem zmth_o0 : ∀ q ∈ zmth_0, zmthP q := List.forall_mem_cons.mpr ⟨⟨zr_0, zmi_0, List.forall_mem_cons.mpr ⟨z_t1 33 rfl, List.forall_mem_cons.mpr ⟨z_t1 26 rfl, List.forall_mem_cons.mpr ⟨z_t1 27 rfl, fun _ h => absurd h List.not_mem_nil⟩⟩⟩, by decide, by decide, by decide⟩, List.forall_mem_cons.mpr ⟨⟨zr_57, zmi_57, List.forall_mem_cons.mpr ⟨z_t1 38 rfl, List.forall_mem_cons.mpr ⟨z_t1 39 rfl, List.forall_mem_cons.mpr ⟨z_t1 3 rfl, List.forall_mem_cons.mpr ⟨z_t1 40 rfl, fun _ h => absurd h List.not_mem_nil⟩⟩⟩⟩, by decide, by decide, by decide⟩, List.forall_mem_cons.mpr ⟨⟨zr_90, zmi_90, List.forall_mem_cons.mpr ⟨z_t1 56 rfl, List.forall_mem_cons.mpr ⟨z_t1 57 rfl, List.forall_mem_cons.mpr ⟨z_t1 4 rfl, List.forall_mem_cons.mpr ⟨z_t1 58 rfl, fun _ h => absurd h List.not_mem_nil⟩⟩⟩⟩, by decide, by decide, by decide⟩, List.forall_mem_cons.mpr ⟨⟨zr_385, zmi_385, List.forall_mem_cons.mpr ⟨z_t1 149 rfl, List.forall_mem_cons.mpr ⟨z_t1 150 rfl, List.forall_mem_cons.mpr ⟨z_t1 6 rfl, List.forall_mem_cons.mpr ⟨z_t1 151 rfl, fun _ h => absurd h List.not_mem_nil⟩⟩⟩⟩, by decide, by decide, by decide⟩, List.forall_mem_cons.mpr ⟨⟨zr_7, zmi_7, List.forall_mem_cons.mpr ⟨z_t3 81 rfl, List.forall_mem_cons.mpr ⟨z_t3 82 rfl, List.forall_mem_cons.mpr ⟨z_t3 83 rfl, List.forall_mem_cons.mpr ⟨z_t1 2 rfl, List.forall_mem_cons.mpr ⟨z_t3 84 rfl, fun _ h => absurd h List.not_mem_nil⟩⟩⟩⟩⟩, by decide, by decide, by decide⟩, List.forall_mem_cons.mpr ⟨⟨zr_11, zmi_11, List.forall_mem_cons.mpr ⟨z_t3 85 rfl, List.forall_mem_cons.mpr ⟨z_t3 87 rfl, List.forall_mem_cons.mpr ⟨z_s1 6 rfl, List.forall_mem_cons.mpr ⟨z_t1 2 rfl, List.forall_mem_cons.mpr ⟨z_t3 88 rfl, fun _ h => absurd h List.not_mem_nil⟩⟩⟩⟩⟩, by decide, by decide, by decide⟩, List.forall_mem_cons.mpr ⟨⟨zr_15, zmi_15, List.forall_mem_cons.mpr ⟨z_t3 119 rfl, List.forall_mem_cons.mpr ⟨z_t3 121 rfl, List.forall_mem_cons.mpr ⟨z_s1 9 rfl, List.forall_mem_cons.mpr ⟨z_t1 2 rfl, List.forall_mem_cons.mpr ⟨z_t3 122 rfl, fun _ h => absurd h List.not_mem_nil⟩⟩⟩⟩⟩, by decide, by decide, by decide⟩, List.forall_mem_cons.mpr ⟨⟨zr_16, zmi_16, List.forall_mem_cons.mpr ⟨z_t3 123 rfl, List.forall_mem_cons.mpr ⟨z_t3 125 rfl, List.forall_mem_cons.mpr ⟨z_s1 10 rfl, List.forall_mem_cons.mpr ⟨z_t1 2 rfl, List.forall_mem_cons.mpr ⟨z_t3 126 rfl, fun _ h => absurd h List.not_mem_nil⟩⟩⟩⟩⟩, by decide, by decide, by decide⟩, List.forall_mem_cons.mpr ⟨⟨zr_22, zmi_22, List.forall_mem_cons.mpr ⟨z_t3 155 rfl, List.forall_mem_cons.mpr ⟨z_t3 157 rfl, List.forall_mem_cons.mpr ⟨z_s1 15 rfl, List.forall_mem_cons.mpr ⟨z_t1 2 rfl, List.forall_mem_cons.mpr ⟨z_t3 158 rfl, fun _ h => absurd h List.not_mem_nil⟩⟩⟩⟩⟩, by decide, by decide, by decide⟩, List.forall_mem_cons.mpr ⟨⟨zr_99, zmi_99, List.forall_mem_cons.mpr ⟨z_t3 163 rfl, List.forall_mem_cons.mpr ⟨z_t3 164 rfl, List.forall_mem_cons.mpr ⟨z_t3 165 rfl, List.forall_mem_cons.mpr ⟨z_t1 4 rfl, List.forall_mem_cons.mpr ⟨z_t3 166 rfl, fun _ h => absurd h List.not_mem_nil⟩⟩⟩⟩⟩, by decide, by decide, by decide⟩, List.forall_mem_cons.mpr ⟨⟨zr_23, zmi_23, List.forall_mem_cons.mpr ⟨z_t3 167 rfl, List.forall_mem_cons.mpr ⟨z_t3 169 rfl, List.forall_mem_cons.mpr ⟨z_s2 0 rfl, List.forall_mem_cons.mpr ⟨z_t1 2 rfl, List.forall_mem_cons.mpr ⟨z_t3 170 rfl, fun _ h => absurd h List.not_mem_nil⟩⟩⟩⟩⟩, by decide, by decide, by decide⟩, List.forall_mem_cons.mpr ⟨⟨zr_24, zmi_24, List.forall_mem_cons.mpr ⟨z_t3 175 rfl, List.forall_mem_cons.mpr ⟨z_t3 177 rfl, List.forall_mem_cons.mpr ⟨z_s2 1 rfl, List.forall_mem_cons.mpr ⟨z_t1 2 rfl, List.forall_mem_cons.mpr ⟨z_t3 178 rfl, fun _ h => absurd h List.not_mem_nil⟩⟩⟩⟩⟩, by decide, by decide, by decide⟩, List.forall_mem_cons.mpr ⟨⟨zr_25, zmi_25, List.forall_mem_cons.mpr ⟨z_t3 179 rfl, List.forall_mem_cons.mpr ⟨z_t3 181 rfl, List.forall_mem_cons.mpr ⟨z_s2 2 rfl, List.forall_mem_cons.mpr ⟨z_t1 2 rfl, List.forall_mem_cons.mpr ⟨z_t3 182 rfl, fun _ h => absurd h List.not_mem_nil⟩⟩⟩⟩⟩, by decide, by decide, by decide⟩, List.forall_mem_cons.mpr ⟨⟨zr_12, zmi_12, List.forall_mem_cons.mpr ⟨z_t3 105 rfl, List.forall_mem_cons.mpr ⟨z_t3 107 rfl, List.forall_mem_cons.mpr ⟨z_s1 7 rfl, List.forall_mem_cons.mpr ⟨z_t1 2 rfl, List.forall_mem_cons.mpr ⟨z_t3 108 rfl, fun _ h => absurd h List.not_mem_nil⟩⟩⟩⟩⟩, by decide, by decide, by decide⟩, List.forall_mem_cons.mpr ⟨⟨zr_32, zmi_32, List.forall_mem_cons.mpr ⟨z_t3 214 rfl, List.forall_mem_cons.mpr ⟨z_t3 216 rfl, List.forall_mem_cons.mpr ⟨z_s2 9 rfl, List.forall_mem_cons.mpr ⟨z_t1 2 rfl, List.forall_mem_cons.mpr ⟨z_t3 217 rfl, fun _ h => absurd h List.not_mem_nil⟩⟩⟩⟩⟩, by decide, by decide, by decide⟩, List.forall_mem_cons.mpr ⟨⟨zr_33, zmi_33, List.forall_mem_cons.mpr ⟨z_t3 218 rfl, List.forall_mem_cons.mpr ⟨z_t3 220 rfl, List.forall_mem_cons.mpr ⟨z_s2 10 rfl, List.forall_mem_cons.mpr ⟨z_t1 2 rfl, List.forall_mem_cons.mpr ⟨z_t3 221 rfl, fun _ h => absurd h List.not_mem_nil⟩⟩⟩⟩⟩, by decide, by decide, by decide⟩, fun _ h => absurd h List.not_mem_nil⟩⟩⟩⟩⟩⟩⟩⟩⟩⟩⟩⟩⟩⟩⟩⟩
def zmth_1 : List ((Nat × Nat) × Nat × Nat) := [((0, 127), 34, 0), ((0, 135), 35, 0), ((0, 139), 37, 0), ((0, 142), 38, 0), ((0, 145), 58, 0), ((0, 149), 41, 0), ((0, 152), 42, 0), ((0, 158), 93, 0), ((0, 170), 84, 0), ((0, 176), 94, 0), ((0, 181), 101, 0), ((0, 203), 98, 0), ((0, 206), 100, 0), ((0, 216), 4, 1), ((0, 220), 46, 0), ((0, 223), 103, 0)]
theorem zmth_o1 : ∀ q ∈ zmth_1, zmthP q := List.forall_mem_cons.mpr ⟨⟨zr_34, zmi_34, List.forall_mem_cons.mpr ⟨z_t3 226 rfl, List.forall_mem_cons.mpr ⟨z_t3 228 rfl, List.forall_mem_cons.mpr ⟨z_s2 11 rfl, List.forall_mem_cons.mpr ⟨z_t1 2 rfl, List.forall_mem_cons.mpr ⟨z_t3 229 rfl, fun _ h => absurd h List.not_mem_nil⟩⟩⟩⟩⟩, by decide, by decide, by decide⟩, List.forall_mem_cons.mpr ⟨⟨zr_35, zmi_35, List.forall_mem_cons.mpr ⟨z_t3 230 rfl, List.forall_mem_cons.mpr ⟨z_t3 232 rfl, List.forall_mem_cons.mpr ⟨z_s2 12 rfl, List.forall_mem_cons.mpr ⟨z_t1 2 rfl, List.forall_mem_cons.mpr ⟨z_t3 233 rfl, fun _ h => absurd h List.not_mem_nil⟩⟩⟩⟩⟩, by decide, by decide, by decide⟩, List.forall_mem_cons.mpr ⟨⟨zr_37, zmi_37, List.forall_mem_cons.mpr ⟨z_t4 3 rfl, List.forall_mem_cons.mpr ⟨z_t4 5 rfl, List.forall_mem_cons.mpr ⟨z_s2 14 rfl, List.forall_mem_cons.mpr ⟨z_t1 2 rfl, List.forall_mem_cons.mpr ⟨z_t4 6 rfl, fun _ h => absurd h List.not_mem_nil⟩⟩⟩⟩⟩, by decide, by decide, by decide⟩, List.forall_mem_cons.mpr ⟨⟨zr_38, zmi_38, List.forall_mem_cons.mpr ⟨z_t4 7 rfl, List.forall_mem_cons.mpr ⟨z_t4 9 rfl, List.forall_mem_cons.mpr ⟨z_s2 15 rfl, List.forall_mem_cons.mpr ⟨z_t1 2 rfl, List.forall_mem_cons.mpr ⟨z_t4 10 rfl, fun _ h => absurd h List.not_mem_nil⟩⟩⟩⟩⟩, by decide, by decide, by decide⟩, List.forall_mem_cons.mpr ⟨⟨zr_58, zmi_58, List.forall_mem_cons.mpr ⟨z_t4 19 rfl, List.forall_mem_cons.mpr ⟨z_t4 20 rfl, List.forall_mem_cons.mpr ⟨z_t4 21 rfl, List.forall_mem_cons.mpr ⟨z_t1 3 rfl, List.forall_mem_cons.mpr ⟨z_t4 22 rfl, fun _ h => absurd h List.not_mem_nil⟩⟩⟩⟩⟩, by decide, by decide, by decide⟩, List.forall_mem_cons.mpr ⟨⟨zr_41, zmi_41, List.forall_mem_cons.mpr ⟨z_t4 23 rfl, List.forall_mem_cons.mpr ⟨z_t4 25 rfl, List.forall_mem_cons.mpr ⟨z_s3 2 rfl, List.forall_mem_cons.mpr ⟨z_t1 2 rfl, List.forall_mem_cons.mpr ⟨z_t4 26 rfl, fun _ h => absurd h List.not_mem_nil⟩⟩⟩⟩⟩, by decide, by decide, by decide⟩, List.forall_mem_cons.mpr ⟨⟨zr_42, zmi_42, List.forall_mem_cons.mpr ⟨z_t4 42 rfl, List.forall_mem_cons.mpr ⟨z_t4 44 rfl, List.forall_mem_cons.mpr ⟨z_s3 4 rfl, List.forall_mem_cons.mpr ⟨z_t1 2 rfl, List.forall_mem_cons.mpr ⟨z_t4 45 rfl, fun _ h => absurd h List.not_mem_nil⟩⟩⟩⟩⟩, by decide, by decide, by decide⟩, List.forall_mem_cons.mpr ⟨⟨zr_93, zmi_93, List.forall_mem_cons.mpr ⟨z_t3 89 rfl, List.forall_mem_cons.mpr ⟨z_t3 90 rfl, List.forall_mem_cons.mpr ⟨z_t3 91 rfl, List.forall_mem_cons.mpr ⟨z_t1 4 rfl, List.forall_mem_cons.mpr ⟨z_t3 92 rfl, fun _ h => absurd h List.not_mem_nil⟩⟩⟩⟩⟩, by decide, by decide, by decide⟩, List.forall_mem_cons.mpr ⟨⟨zr_84, zmi_84, List.forall_mem_cons.mpr ⟨z_t3 93 rfl, List.forall_mem_cons.mpr ⟨z_t3 94 rfl, List.forall_mem_cons.mpr ⟨z_t3 95 rfl, List.forall_mem_cons.mpr ⟨z_t1 5 rfl, List.forall_mem_cons.mpr ⟨z_t3 96 rfl, fun _ h => absurd h List.not_mem_nil⟩⟩⟩⟩⟩, by decide, by decide, by decide⟩, List.forall_mem_cons.mpr ⟨⟨zr_94, zmi_94, List.forall_mem_cons.mpr ⟨z_t3 97 rfl, List.forall_mem_cons.mpr ⟨z_t3 98 rfl, List.forall_mem_cons.mpr ⟨z_t3 99 rfl, List.forall_mem_cons.mpr ⟨z_t1 4 rfl, List.forall_mem_cons.mpr ⟨z_t3 100 rfl, fun _ h => absurd h List.not_mem_nil⟩⟩⟩⟩⟩, by decide, by decide, by decide⟩, List.forall_mem_cons.mpr ⟨⟨zr_101, zmi_101, List.forall_mem_cons.mpr ⟨z_t4 46 rfl, List.forall_mem_cons.mpr ⟨z_t4 47 rfl, List.forall_mem_cons.mpr ⟨z_t4 48 rfl, List.forall_mem_cons.mpr ⟨z_t1 4 rfl, List.forall_mem_cons.mpr ⟨z_t4 49 rfl, fun _ h => absurd h List.not_mem_nil⟩⟩⟩⟩⟩, by decide, by decide, by decide⟩, List.forall_mem_cons.mpr ⟨⟨zr_98, zmi_98, List.forall_mem_cons.mpr ⟨z_t3 159 rfl, List.forall_mem_cons.mpr ⟨z_t3 160 rfl, List.forall_mem_cons.mpr ⟨z_t3 161 rfl, List.forall_mem_cons.mpr ⟨z_t1 4 rfl, List.forall_mem_cons.mpr ⟨z_t3 162 rfl, fun _ h => absurd h List.not_mem_nil⟩⟩⟩⟩⟩, by decide, by decide, by decide⟩, List.forall_mem_cons.mpr ⟨⟨zr_100, zmi_100, List.forall_mem_cons.mpr ⟨z_t3 171 rfl, List.forall_mem_cons.mpr ⟨z_t3 172 rfl, List.forall_mem_cons.mpr ⟨z_t3 173 rfl, List.forall_mem_cons.mpr ⟨z_t1 4 rfl, List.forall_mem_cons.mpr ⟨z_t3 174 rfl, fun _ h => absurd h List.not_mem_nil⟩⟩⟩⟩⟩, by decide, by decide, by decide⟩, List.forall_mem_cons.mpr ⟨⟨zr_4, zmi_4, List.forall_mem_cons.mpr ⟨z_t3 187 rfl, List.forall_mem_cons.mpr ⟨z_t3 188 rfl, List.forall_mem_cons.mpr ⟨z_t1 2 rfl, List.forall_mem_cons.mpr ⟨z_t3 189 rfl, fun _ h => absurd h List.not_mem_nil⟩⟩⟩⟩, by decide, by decide, by decide⟩, List.forall_mem_cons.mpr ⟨⟨zr_46, zmi_46, List.forall_mem_cons.mpr ⟨z_t4 219 rfl, List.forall_mem_cons.mpr ⟨z_t4 220 rfl, List.forall_mem_cons.mpr ⟨z_t4 221 rfl, List.forall_mem_cons.mpr ⟨z_t1 2 rfl, List.forall_mem_cons.mpr ⟨z_t4 222 rfl, fun _ h => absurd h List.not_mem_nil⟩⟩⟩⟩⟩, by decide, by decide, by decide⟩, List.forall_mem_cons.mpr ⟨⟨zr_103, zmi_103, List.forall_mem_cons.mpr ⟨z_t4 223 rfl, List.forall_mem_cons.mpr ⟨z_t4 195 rfl, List.forall_mem_cons.mpr ⟨z_t4 196 rfl, List.forall_mem_cons.mpr ⟨z_t1 4 rfl, List.forall_mem_cons.mpr ⟨z_t4 197 rfl, fun _ h => absurd h List.not_mem_nil⟩⟩⟩⟩⟩, by decide, by decide, by decide⟩, fun _ h => absurd h List.not_mem_nil⟩⟩⟩⟩⟩⟩⟩⟩⟩⟩⟩⟩⟩⟩⟩⟩
def zmth_2 : List ((Nat × Nat) × Nat × Nat) := [((0, 227), 13, 0), ((0, 230), 14, 1), ((0, 233), 388, 1), ((0, 238), 26, 0), ((0, 241), 27, 0), ((0, 244), 28, 0), ((0, 248), 30, 0), ((0, 251), 31, 0), ((0, 254), 29, 0), ((0, 258), 3, 0), ((0, 262), 8, 0), ((0, 265), 17, 0), ((0, 268), 18, 0), ((0, 275), 20, 0), ((0, 278), 387, 1), ((0, 281), 59, 0)]
theorem zmth_o2 : ∀ q ∈ zmth_2, zmthP q := List.forall_mem_cons.mpr ⟨⟨zr_13, zmi_13, List.forall_mem_cons.mpr ⟨z_t3 109 rfl, List.forall_mem_cons.mpr ⟨z_t3 111 rfl, List.forall_mem_cons.mpr ⟨z_s1 8 rfl, List.forall_mem_cons.mpr ⟨z_t1 2 rfl, List.forall_mem_cons.mpr ⟨z_t3 112 rfl, fun _ h => absurd h List.not_mem_nil⟩⟩⟩⟩⟩, by decide, by decide, by decide⟩, List.forall_mem_cons.mpr ⟨⟨zr_14, zmi_14, List.forall_mem_cons.mpr ⟨z_t3 113 rfl, List.forall_mem_cons.mpr ⟨z_t3 114 rfl, List.forall_mem_cons.mpr ⟨z_t1 2 rfl, List.forall_mem_cons.mpr ⟨z_t3 115 rfl, fun _ h => absurd h List.not_mem_nil⟩⟩⟩⟩, by decide, by decide, by decide⟩, List.forall_mem_cons.mpr ⟨⟨zr_388, zmi_388, List.forall_mem_cons.mpr ⟨z_t3 116 rfl, List.forall_mem_cons.mpr ⟨z_t3 117 rfl, List.forall_mem_cons.mpr ⟨z_t1 19 rfl, List.forall_mem_cons.mpr ⟨z_t3 118 rfl, fun _ h => absurd h List.not_mem_nil⟩⟩⟩⟩, by decide, by decide, by decide⟩, List.forall_mem_cons.mpr ⟨⟨zr_26, zmi_26, List.forall_mem_cons.mpr ⟨z_t3 183 rfl, List.forall_mem_cons.mpr ⟨z_t3 185 rfl, List.forall_mem_cons.mpr ⟨z_s2 3 rfl, List.forall_mem_cons.mpr ⟨z_t1 2 rfl, List.forall_mem_cons.mpr ⟨z_t3 186 rfl, fun _ h => absurd h List.not_mem_nil⟩⟩⟩⟩⟩, by decide, by decide, by decide⟩, List.forall_mem_cons.mpr ⟨⟨zr_27, zmi_27, List.forall_mem_cons.mpr ⟨z_t3 190 rfl, List.forall_mem_cons.mpr ⟨z_t3 192 rfl, List.forall_mem_cons.mpr ⟨z_s2 4 rfl, List.forall_mem_cons.mpr ⟨z_t1 2 rfl, List.forall_mem_cons.mpr ⟨z_t3 193 rfl, fun _ h => absurd h List.not_mem_nil⟩⟩⟩⟩⟩, by decide, by decide, by decide⟩, List.forall_mem_cons.mpr ⟨⟨zr_28, zmi_28, List.forall_mem_cons.mpr ⟨z_t3 194 rfl, List.forall_mem_cons.mpr ⟨z_t3 196 rfl, List.forall_mem_cons.mpr ⟨z_s2 5 rfl, List.forall_mem_cons.mpr ⟨z_t1 2 rfl, List.forall_mem_cons.mpr ⟨z_t3 197 rfl, fun _ h => absurd h List.not_mem_nil⟩⟩⟩⟩⟩, by decide, by decide, by decide⟩, List.forall_mem_cons.mpr ⟨⟨zr_30, zmi_30, List.forall_mem_cons.mpr ⟨z_t3 206 rfl, List.forall_mem_cons.mpr ⟨z_t3 208 rfl, List.forall_mem_cons.mpr ⟨z_s2 7 rfl, List.forall_mem_cons.mpr ⟨z_t1 2 rfl, List.forall_mem_cons.mpr ⟨z_t3 209 rfl, fun _ h => absurd h List.not_mem_nil⟩⟩⟩⟩⟩, by decide, by decide, by decide⟩, List.forall_mem_cons.mpr ⟨⟨zr_31, zmi_31, List.forall_mem_cons.mpr ⟨z_t3 210 rfl, List.forall_mem_cons.mpr ⟨z_t3 212 rfl, List.forall_mem_cons.mpr ⟨z_s2 8 rfl, List.forall_mem_cons.mpr ⟨z_t1 2 rfl, List.forall_mem_cons.mpr ⟨z_t3 213 rfl, fun _ h => absurd h List.not_mem_nil⟩⟩⟩⟩⟩, by decide, by decide, by decide⟩, List.forall_mem_cons.mpr ⟨⟨zr_29, zmi_29, List.forall_mem_cons.mpr ⟨z_t3 198 rfl, List.forall_mem_cons.mpr ⟨z_t3 200 rfl, List.forall_mem_cons.mpr ⟨z_s2 6 rfl, List.forall_mem_cons.mpr ⟨z_t1 2 rfl, List.forall_mem_cons.mpr ⟨z_t3 201 rfl, fun _ h => absurd h List.not_mem_nil⟩⟩⟩⟩⟩, by decide, by decide, by decide⟩, List.forall_mem_cons.mpr ⟨⟨zr_3, zmi_3, List.forall_mem_cons.mpr ⟨z_t3 202 rfl, List.forall_mem_cons.mpr ⟨z_t3 203 rfl, List.forall_mem_cons.mpr ⟨z_t3 204 rfl, List.forall_mem_cons.mpr ⟨z_t1 2 rfl, List.forall_mem_cons.mpr ⟨z_t3 205 rfl, fun _ h => absurd h List.not_mem_nil⟩⟩⟩⟩⟩, by decide, by decide, by decide⟩, List.forall_mem_cons.mpr ⟨⟨zr_8, zmi_8, List.forall_mem_cons.mpr ⟨z_t3 222 rfl, List.forall_mem_cons.mpr ⟨z_t3 223 rfl, List.forall_mem_cons.mpr ⟨z_t3 224 rfl, List.forall_mem_cons.mpr ⟨z_t1 2 rfl, List.forall_mem_cons.mpr ⟨z_t3 225 rfl, fun _ h => absurd h List.not_mem_nil⟩⟩⟩⟩⟩, by decide, by decide, by decide⟩, List.forall_mem_cons.mpr ⟨⟨zr_17, zmi_17, List.forall_mem_cons.mpr ⟨z_t3 127 rfl, List.forall_mem_cons.mpr ⟨z_t3 129 rfl, List.forall_mem_cons.mpr ⟨z_s1 11 rfl, List.forall_mem_cons.mpr ⟨z_t1 2 rfl, List.forall_mem_cons.mpr ⟨z_t3 130 rfl, fun _ h => absurd h List.not_mem_nil⟩⟩⟩⟩⟩, by decide, by decide, by decide⟩, List.forall_mem_cons.mpr ⟨⟨zr_18, zmi_18, List.forall_mem_cons.mpr ⟨z_t3 131 rfl, List.forall_mem_cons.mpr ⟨z_t3 133 rfl, List.forall_mem_cons.mpr ⟨z_s1 12 rfl, List.forall_mem_cons.mpr ⟨z_t1 2 rfl, List.forall_mem_cons.mpr ⟨z_t3 134 rfl, fun _ h => absurd h List.not_mem_nil⟩⟩⟩⟩⟩, by decide, by decide, by decide⟩, List.forall_mem_cons.mpr ⟨⟨zr_20, zmi_20, List.forall_mem_cons.mpr ⟨z_t3 139 rfl, List.forall_mem_cons.mpr ⟨z_t3 141 rfl, List.forall_mem_cons.mpr ⟨z_s1 13 rfl, List.forall_mem_cons.mpr ⟨z_t1 2 rfl, List.forall_mem_cons.mpr ⟨z_t3 142 rfl, fun _ h => absurd h List.not_mem_nil⟩⟩⟩⟩⟩, by decide, by decide, by decide⟩, List.forall_mem_cons.mpr ⟨⟨zr_387, zmi_387, List.forall_mem_cons.mpr ⟨z_t4 27 rfl, List.forall_mem_cons.mpr ⟨z_t4 28 rfl, List.forall_mem_cons.mpr ⟨z_t1 19 rfl, List.forall_mem_cons.mpr ⟨z_t4 29 rfl, fun _ h => absurd h List.not_mem_nil⟩⟩⟩⟩, by decide, by decide, by decide⟩, List.forall_mem_cons.mpr ⟨⟨zr_59, zmi_59, List.forall_mem_cons.mpr ⟨z_t4 30 rfl, List.forall_mem_cons.mpr ⟨z_t4 31 rfl, List.forall_mem_cons.mpr ⟨z_t4 32 rfl, List.forall_mem_cons.mpr ⟨z_t1 3 rfl, List.forall_mem_cons.mpr ⟨z_t4 33 rfl, fun _ h => absurd h List.not_mem_nil⟩⟩⟩⟩⟩, by decide, by decide, by decide⟩, fun _ h => absurd h List.not_mem_nil⟩⟩⟩⟩⟩⟩⟩⟩⟩⟩⟩⟩⟩⟩⟩⟩
def zmth_3 : List ((Nat × Nat) × Nat × Nat) := [((0, 285), 386, 1), ((0, 288), 21, 0), ((0, 291), 96, 0), ((0, 294), 97, 0), ((0, 300), 19, 0), ((0, 303), 1, 0), ((0, 309), 36, 0), ((0, 313), 39, 0), ((0, 316), 40, 0), ((0, 319), 5, 0), ((0, 322), 6, 0), ((0, 325), 9, 0), ((0, 331), 78, 0), ((1, 3), 0, 6), ((1, 11), 75, 3), ((1, 57), 76, 0)]
theorem zmth_o3 : ∀ q ∈ zmth_3, zmthP q := List.forall_mem_cons.mpr ⟨⟨zr_386, zmi_386, List.forall_mem_cons.mpr ⟨z_t4 41 rfl, List.forall_mem_cons.mpr ⟨z_t4 39 rfl, List.forall_mem_cons.mpr ⟨z_t1 19 rfl, List.forall_mem_cons.mpr ⟨z_t4 40 rfl, fun _ h => absurd h List.not_mem_nil⟩⟩⟩⟩, by decide, by decide, by decide⟩, List.forall_mem_cons.mpr ⟨⟨zr_21, zmi_21, List.forall_mem_cons.mpr ⟨z_t3 143 rfl, List.forall_mem_cons.mpr ⟨z_t3 145 rfl, List.forall_mem_cons.mpr ⟨z_s1 14 rfl, List.forall_mem_cons.mpr ⟨z_t1 2 rfl, List.forall_mem_cons.mpr ⟨z_t3 146 rfl, fun _ h => absurd h List.not_mem_nil⟩⟩⟩⟩⟩, by decide, by decide, by decide⟩, List.forall_mem_cons.mpr ⟨⟨zr_96, zmi_96, List.forall_mem_cons.mpr ⟨z_t3 147 rfl, List.forall_mem_cons.mpr ⟨z_t3 148 rfl, List.forall_mem_cons.mpr ⟨z_t3 149 rfl, List.forall_mem_cons.mpr ⟨z_t1 4 rfl, List.forall_mem_cons.mpr ⟨z_t3 150 rfl, fun _ h => absurd h List.not_mem_nil⟩⟩⟩⟩⟩, by decide, by decide, by decide⟩, List.forall_mem_cons.mpr ⟨⟨zr_97, zmi_97, List.forall_mem_cons.mpr ⟨z_t3 151 rfl, List.forall_mem_cons.mpr ⟨z_t3 152 rfl, List.forall_mem_cons.mpr ⟨z_t3 153 rfl, List.forall_mem_cons.mpr ⟨z_t1 4 rfl, List.forall_mem_cons.mpr ⟨z_t3 154 rfl, fun _ h => absurd h List.not_mem_nil⟩⟩⟩⟩⟩, by decide, by decide, by decide⟩, List.forall_mem_cons.mpr ⟨⟨zr_19, zmi_19, List.forall_mem_cons.mpr ⟨z_t3 135 rfl, List.forall_mem_cons.mpr ⟨z_t3 136 rfl, List.forall_mem_cons.mpr ⟨z_t3 137 rfl, List.forall_mem_cons.mpr ⟨z_t1 2 rfl, List.forall_mem_cons.mpr ⟨z_t3 138 rfl, fun _ h => absurd h List.not_mem_nil⟩⟩⟩⟩⟩, by decide, by decide, by decide⟩, List.forall_mem_cons.mpr ⟨⟨zr_1, zmi_1, List.forall_mem_cons.mpr ⟨z_t3 234 rfl, List.forall_mem_cons.mpr ⟨z_t3 235 rfl, List.forall_mem_cons.mpr ⟨z_t3 236 rfl, List.forall_mem_cons.mpr ⟨z_t1 2 rfl, List.forall_mem_cons.mpr ⟨z_t3 237 rfl, fun _ h => absurd h List.not_mem_nil⟩⟩⟩⟩⟩, by decide, by decide, by decide⟩, List.forall_mem_cons.mpr ⟨⟨zr_36, zmi_36, List.forall_mem_cons.mpr ⟨z_t3 239 rfl, List.forall_mem_cons.mpr ⟨z_t4 1 rfl, List.forall_mem_cons.mpr ⟨z_s2 13 rfl, List.forall_mem_cons.mpr ⟨z_t1 2 rfl, List.forall_mem_cons.mpr ⟨z_t4 2 rfl, fun _ h => absurd h List.not_mem_nil⟩⟩⟩⟩⟩, by decide, by decide, by decide⟩, List.forall_mem_cons.mpr ⟨⟨zr_39, zmi_39, List.forall_mem_cons.mpr ⟨z_t4 11 rfl, List.forall_mem_cons.mpr ⟨z_t4 13 rfl, List.forall_mem_cons.mpr ⟨z_s3 0 rfl, List.forall_mem_cons.mpr ⟨z_t1 2 rfl, List.forall_mem_cons.mpr ⟨z_t4 14 rfl, fun _ h => absurd h List.not_mem_nil⟩⟩⟩⟩⟩, by decide, by decide, by decide⟩, List.forall_mem_cons.mpr ⟨⟨zr_40, zmi_40, List.forall_mem_cons.mpr ⟨z_t4 15 rfl, List.forall_mem_cons.mpr ⟨z_t4 17 rfl, List.forall_mem_cons.mpr ⟨z_s3 1 rfl, List.forall_mem_cons.mpr ⟨z_t1 2 rfl, List.forall_mem_cons.mpr ⟨z_t4 18 rfl, fun _ h => absurd h List.not_mem_nil⟩⟩⟩⟩⟩, by decide, by decide, by decide⟩, List.forall_mem_cons.mpr ⟨⟨zr_5, zmi_5, List.forall_mem_cons.mpr ⟨z_t4 86 rfl, List.forall_mem_cons.mpr ⟨z_t4 88 rfl, List.forall_mem_cons.mpr ⟨z_s3 6 rfl, List.forall_mem_cons.mpr ⟨z_t1 2 rfl, List.forall_mem_cons.mpr ⟨z_t4 89 rfl, fun _ h => absurd h List.not_mem_nil⟩⟩⟩⟩⟩, by decide, by decide, by decide⟩, List.forall_mem_cons.mpr ⟨⟨zr_6, zmi_6, List.forall_mem_cons.mpr ⟨z_t4 113 rfl, List.forall_mem_cons.mpr ⟨z_t4 115 rfl, List.forall_mem_cons.mpr ⟨z_s3 7 rfl, List.forall_mem_cons.mpr ⟨z_t1 2 rfl, List.forall_mem_cons.mpr ⟨z_t4 116 rfl, fun _ h => absurd h List.not_mem_nil⟩⟩⟩⟩⟩, by decide, by decide, by decide⟩, List.forall_mem_cons.mpr ⟨⟨zr_9, zmi_9, List.forall_mem_cons.mpr ⟨z_t4 117 rfl, List.forall_mem_cons.mpr ⟨z_t4 119 rfl, List.forall_mem_cons.mpr ⟨z_s3 8 rfl, List.forall_mem_cons.mpr ⟨z_t1 2 rfl, List.forall_mem_cons.mpr ⟨z_t4 120 rfl, fun _ h => absurd h List.not_mem_nil⟩⟩⟩⟩⟩, by decide, by decide, by decide⟩, List.forall_mem_cons.mpr ⟨⟨zr_78, zmi_78, List.forall_mem_cons.mpr ⟨z_t4 90 rfl, List.forall_mem_cons.mpr ⟨z_t4 91 rfl, List.forall_mem_cons.mpr ⟨z_t4 92 rfl, List.forall_mem_cons.mpr ⟨z_t1 5 rfl, List.forall_mem_cons.mpr ⟨z_t4 93 rfl, fun _ h => absurd h List.not_mem_nil⟩⟩⟩⟩⟩, by decide, by decide, by decide⟩, List.forall_mem_cons.mpr ⟨⟨zr_0, zmi_0, List.forall_mem_cons.mpr ⟨z_t1 185 rfl, List.forall_mem_cons.mpr ⟨z_t1 26 rfl, List.forall_mem_cons.mpr ⟨z_t1 27 rfl, fun _ h => absurd h List.not_mem_nil⟩⟩⟩, by decide, by decide, by decide⟩, List.forall_mem_cons.mpr ⟨⟨zr_75, zmi_75, List.forall_mem_cons.mpr ⟨z_t1 187 rfl, List.forall_mem_cons.mpr ⟨z_t1 64 rfl, List.forall_mem_cons.mpr ⟨z_t1 5 rfl, List.forall_mem_cons.mpr ⟨z_t1 65 rfl, fun _ h => absurd h List.not_mem_nil⟩⟩⟩⟩, by decide, by decide, by decide⟩, List.forall_mem_cons.mpr ⟨⟨zr_76, zmi_76, List.forall_mem_cons.mpr ⟨z_t3 54 rfl, List.forall_mem_cons.mpr ⟨z_t3 55 rfl, List.forall_mem_cons.mpr ⟨z_t3 56 rfl, List.forall_mem_cons.mpr ⟨z_t1 5 rfl, List.forall_mem_cons.mpr ⟨z_t3 57 rfl, fun _ h => absurd h List.not_mem_nil⟩⟩⟩⟩⟩, by decide, by decide, by decide⟩, fun _ h => absurd h List.not_mem_nil⟩⟩⟩⟩⟩⟩⟩⟩⟩⟩⟩⟩⟩⟩⟩⟩
def zmth_4 : List ((Nat × Nat) × Nat × Nat) := [((2, 5), 0, 6), ((3, 3), 0, 6), ((3, 23), 60, 0), ((3, 27), 386, 1), ((4, 1), 0, 6), ((5, 5), 0, 6), ((6, 3), 0, 6), ((6, 22), 76, 0), ((6, 25), 77, 0), ((6, 29), 80, 0), ((6, 33), 127, 4), ((6, 37), 79, 0), ((6, 40), 386, 1), ((6, 45), 81, 0), ((6, 48), 82, 1), ((6, 52), 83, 0)]
theorem zmth_o4 : ∀ q ∈ zmth_4, zmthP q := List.forall_mem_cons.mpr ⟨⟨zr_0, zmi_0, List.forall_mem_cons.mpr ⟨z_t2 76 rfl, List.forall_mem_cons.mpr ⟨z_t1 26 rfl, List.forall_mem_cons.mpr ⟨z_t1 27 rfl, fun _ h => absurd h List.not_mem_nil⟩⟩⟩, by decide, by decide, by decide⟩, List.forall_mem_cons.mpr ⟨⟨zr_0, zmi_0, List.forall_mem_cons.mpr ⟨z_t1 41 rfl, List.forall_mem_cons.mpr ⟨z_t1 26 rfl, List.forall_mem_cons.mpr ⟨z_t1 27 rfl, fun _ h => absurd h List.not_mem_nil⟩⟩⟩, by decide, by decide, by decide⟩, List.forall_mem_cons.mpr ⟨⟨zr_60, zmi_60, List.forall_mem_cons.mpr ⟨z_t4 34 rfl, List.forall_mem_cons.mpr ⟨z_t4 36 rfl, List.forall_mem_cons.mpr ⟨z_s3 3 rfl, List.forall_mem_cons.mpr ⟨z_t1 3 rfl, List.forall_mem_cons.mpr ⟨z_t4 37 rfl, fun _ h => absurd h List.not_mem_nil⟩⟩⟩⟩⟩, by decide, by decide, by decide⟩, List.forall_mem_cons.mpr ⟨⟨zr_386, zmi_386, List.forall_mem_cons.mpr ⟨z_t4 38 rfl, List.forall_mem_cons.mpr ⟨z_t4 39 rfl, List.forall_mem_cons.mpr ⟨z_t1 19 rfl, List.forall_mem_cons.mpr ⟨z_t4 40 rfl, fun _ h => absurd h List.not_mem_nil⟩⟩⟩⟩, by decide, by decide, by decide⟩, List.forall_mem_cons.mpr ⟨⟨zr_0, zmi_0, List.forall_mem_cons.mpr ⟨z_t2 117 rfl, List.forall_mem_cons.mpr ⟨z_t1 26 rfl, List.forall_mem_cons.mpr ⟨z_t1 27 rfl, fun _ h => absurd h List.not_mem_nil⟩⟩⟩, by decide, by decide, by decide⟩, List.forall_mem_cons.mpr ⟨⟨zr_0, zmi_0, List.forall_mem_cons.mpr ⟨z_t2 88 rfl, List.forall_mem_cons.mpr ⟨z_t1 26 rfl, List.forall_mem_cons.mpr ⟨z_t1 27 rfl, fun _ h => absurd h List.not_mem_nil⟩⟩⟩, by decide, by decide, by decide⟩, List.forall_mem_cons.mpr ⟨⟨zr_0, zmi_0, List.forall_mem_cons.mpr ⟨z_t1 66 rfl, List.forall_mem_cons.mpr ⟨z_t1 26 rfl, List.forall_mem_cons.mpr ⟨z_t1 27 rfl, fun _ h => absurd h List.not_mem_nil⟩⟩⟩, by decide, by decide, by decide⟩, List.forall_mem_cons.mpr ⟨⟨zr_76, zmi_76, List.forall_mem_cons.mpr ⟨z_t3 62 rfl, List.forall_mem_cons.mpr ⟨z_t3 55 rfl, List.forall_mem_cons.mpr ⟨z_t3 56 rfl, List.forall_mem_cons.mpr ⟨z_t1 5 rfl, List.forall_mem_cons.mpr ⟨z_t3 57 rfl, fun _ h => absurd h List.not_mem_nil⟩⟩⟩⟩⟩, by decide, by decide, by decide⟩, List.forall_mem_cons.mpr ⟨⟨zr_77, zmi_77, List.forall_mem_cons.mpr ⟨z_t3 63 rfl, List.forall_mem_cons.mpr ⟨z_t3 64 rfl, List.forall_mem_cons.mpr ⟨z_t3 65 rfl, List.forall_mem_cons.mpr ⟨z_t1 5 rfl, List.forall_mem_cons.mpr ⟨z_t3 66 rfl, fun _ h => absurd h List.not_mem_nil⟩⟩⟩⟩⟩, by decide, by decide, by decide⟩, List.forall_mem_cons.mpr ⟨⟨zr_80, zmi_80, List.forall_mem_cons.mpr ⟨z_t4 101 rfl, List.forall_mem_cons.mpr ⟨z_t4 102 rfl, List.forall_mem_cons.mpr ⟨z_t4 103 rfl, List.forall_mem_cons.mpr ⟨z_t1 5 rfl, List.forall_mem_cons.mpr ⟨z_t4 104 rfl, fun _ h => absurd h List.not_mem_nil⟩⟩⟩⟩⟩, by decide, by decide, by decide⟩, List.forall_mem_cons.mpr ⟨⟨zr_127, zmi_127, List.forall_mem_cons.mpr ⟨z_t4 94 rfl, List.forall_mem_cons.mpr ⟨z_t4 95 rfl, List.forall_mem_cons.mpr ⟨z_t1 1 rfl, List.forall_mem_cons.mpr ⟨z_t4 96 rfl, fun _ h => absurd h List.not_mem_nil⟩⟩⟩⟩, by decide, by decide, by decide⟩, List.forall_mem_cons.mpr ⟨⟨zr_79, zmi_79, List.forall_mem_cons.mpr ⟨z_t4 97 rfl, List.forall_mem_cons.mpr ⟨z_t4 98 rfl, List.forall_mem_cons.mpr ⟨z_t4 99 rfl, List.forall_mem_cons.mpr ⟨z_t1 5 rfl, List.forall_mem_cons.mpr ⟨z_t4 100 rfl, fun _ h => absurd h List.not_mem_nil⟩⟩⟩⟩⟩, by decide, by decide, by decide⟩, List.forall_mem_cons.mpr ⟨⟨zr_386, zmi_386, List.forall_mem_cons.mpr ⟨z_t4 105 rfl, List.forall_mem_cons.mpr ⟨z_t4 39 rfl, List.forall_mem_cons.mpr ⟨z_t1 19 rfl, List.forall_mem_cons.mpr ⟨z_t4 40 rfl, fun _ h => absurd h List.not_mem_nil⟩⟩⟩⟩, by decide, by decide, by decide⟩, List.forall_mem_cons.mpr ⟨⟨zr_81, zmi_81, List.forall_mem_cons.mpr ⟨z_t4 106 rfl, List.forall_mem_cons.mpr ⟨z_t4 107 rfl, List.forall_mem_cons.mpr ⟨z_t4 108 rfl, List.forall_mem_cons.mpr ⟨z_t1 5 rfl, List.forall_mem_cons.mpr ⟨z_t4 109 rfl, fun _ h => absurd h List.not_mem_nil⟩⟩⟩⟩⟩, by decide, by decide, by decide⟩, List.forall_mem_cons.mpr ⟨⟨zr_82, zmi_82, List.forall_mem_cons.mpr ⟨z_t4 110 rfl, List.forall_mem_cons.mpr ⟨z_t4 111 rfl, List.forall_mem_cons.mpr ⟨z_t1 5 rfl, List.forall_mem_cons.mpr ⟨z_t4 112 rfl, fun _ h => absurd h List.not_mem_nil⟩⟩⟩⟩, by decide, by decide, by decide⟩, List.forall_mem_cons.mpr ⟨⟨zr_83, zmi_83, List.forall_mem_cons.mpr ⟨z_t4 210 rfl, List.forall_mem_cons.mpr ⟨z_t4 142 rfl, List.forall_mem_cons.mpr ⟨z_t4 143 rfl, List.forall_mem_cons.mpr ⟨z_t1 5 rfl, List.forall_mem_cons.mpr ⟨z_t4 144 rfl, fun _ h => absurd h List.not_mem_nil⟩⟩⟩⟩⟩, by decide, by decide, by decide⟩, fun _ h => absurd h List.not_mem_nil⟩⟩⟩⟩⟩⟩⟩⟩⟩⟩⟩⟩⟩⟩⟩⟩
def zmth_5 : List ((Nat × Nat) × Nat × Nat) := [((6, 55), 88, 0), ((6, 58), 89, 0), ((7, 3), 0, 6), ((7, 17), 75, 3), ((7, 50), 95, 0), ((7, 53), 84, 0), ((7, 57), 91, 0), ((7, 61), 92, 0), ((7, 65), 111, 1), ((7, 71), 87, 0), ((8, 5), 0, 6), ((8, 50), 106, 0), ((8, 59), 108, 0), ((8, 62), 385, 1), ((8, 71), 388, 1), ((8, 77), 109, 0)]
theorem zmth_o5 : ∀ q ∈ zmth_5, zmthP q := List.forall_mem_cons.mpr ⟨⟨zr_88, zmi_88, List.forall_mem_cons.mpr ⟨z_t4 202 rfl, List.forall_mem_cons.mpr ⟨z_t4 203 rfl, List.forall_mem_cons.mpr ⟨z_t4 204 rfl, List.forall_mem_cons.mpr ⟨z_t1 5 rfl, List.forall_mem_cons.mpr ⟨z_t4 205 rfl, fun _ h => absurd h List.not_mem_nil⟩⟩⟩⟩⟩, by decide, by decide, by decide⟩, List.forall_mem_cons.mpr ⟨⟨zr_89, zmi_89, List.forall_mem_cons.mpr ⟨z_t4 206 rfl, List.forall_mem_cons.mpr ⟨z_t4 207 rfl, List.forall_mem_cons.mpr ⟨z_t4 208 rfl, List.forall_mem_cons.mpr ⟨z_t1 5 rfl, List.forall_mem_cons.mpr ⟨z_t4 209 rfl, fun _ h => absurd h List.not_mem_nil⟩⟩⟩⟩⟩, by decide, by decide, by decide⟩, List.forall_mem_cons.mpr ⟨⟨zr_0, zmi_0, List.forall_mem_cons.mpr ⟨z_t1 59 rfl, List.forall_mem_cons.mpr ⟨z_t1 26 rfl, List.forall_mem_cons.mpr ⟨z_t1 27 rfl, fun _ h => absurd h List.not_mem_nil⟩⟩⟩, by decide, by decide, by decide⟩, List.forall_mem_cons.mpr ⟨⟨zr_75, zmi_75, List.forall_mem_cons.mpr ⟨z_t1 63 rfl, List.forall_mem_cons.mpr ⟨z_t1 64 rfl, List.forall_mem_cons.mpr ⟨z_t1 5 rfl, List.forall_mem_cons.mpr ⟨z_t1 65 rfl, fun _ h => absurd h List.not_mem_nil⟩⟩⟩⟩, by decide, by decide, by decide⟩, List.forall_mem_cons.mpr ⟨⟨zr_95, zmi_95, List.forall_mem_cons.mpr ⟨z_t3 101 rfl, List.forall_mem_cons.mpr ⟨z_t3 102 rfl, List.forall_mem_cons.mpr ⟨z_t3 103 rfl, List.forall_mem_cons.mpr ⟨z_t1 4 rfl, List.forall_mem_cons.mpr ⟨z_t3 104 rfl, fun _ h => absurd h List.not_mem_nil⟩⟩⟩⟩⟩, by decide, by decide, by decide⟩, List.forall_mem_cons.mpr ⟨⟨zr_84, zmi_84, List.forall_mem_cons.mpr ⟨z_t4 50 rfl, List.forall_mem_cons.mpr ⟨z_t3 94 rfl, List.forall_mem_cons.mpr ⟨z_t3 95 rfl, List.forall_mem_cons.mpr ⟨z_t1 5 rfl, List.forall_mem_cons.mpr ⟨z_t3 96 rfl, fun _ h => absurd h List.not_mem_nil⟩⟩⟩⟩⟩, by decide, by decide, by decide⟩, List.forall_mem_cons.mpr ⟨⟨zr_91, zmi_91, List.forall_mem_cons.mpr ⟨z_t4 51 rfl, List.forall_mem_cons.mpr ⟨z_t4 52 rfl, List.forall_mem_cons.mpr ⟨z_t4 53 rfl, List.forall_mem_cons.mpr ⟨z_t1 4 rfl, List.forall_mem_cons.mpr ⟨z_t4 54 rfl, fun _ h => absurd h List.not_mem_nil⟩⟩⟩⟩⟩, by decide, by decide, by decide⟩, List.forall_mem_cons.mpr ⟨⟨zr_92, zmi_92, List.forall_mem_cons.mpr ⟨z_t4 55 rfl, List.forall_mem_cons.mpr ⟨z_t4 56 rfl, List.forall_mem_cons.mpr ⟨z_t4 57 rfl, List.forall_mem_cons.mpr ⟨z_t1 4 rfl, List.forall_mem_cons.mpr ⟨z_t4 58 rfl, fun _ h => absurd h List.not_mem_nil⟩⟩⟩⟩⟩, by decide, by decide, by decide⟩, List.forall_mem_cons.mpr ⟨⟨zr_111, zmi_111, List.forall_mem_cons.mpr ⟨z_t4 59 rfl, List.forall_mem_cons.mpr ⟨z_t4 60 rfl, List.forall_mem_cons.mpr ⟨z_t1 9 rfl, List.forall_mem_cons.mpr ⟨z_t4 61 rfl, fun _ h => absurd h List.not_mem_nil⟩⟩⟩⟩, by decide, by decide, by decide⟩, List.forall_mem_cons.mpr ⟨⟨zr_87, zmi_87, List.forall_mem_cons.mpr ⟨z_t4 198 rfl, List.forall_mem_cons.mpr ⟨z_t4 199 rfl, List.forall_mem_cons.mpr ⟨z_t4 200 rfl, List.forall_mem_cons.mpr ⟨z_t1 5 rfl, List.forall_mem_cons.mpr ⟨z_t4 201 rfl, fun _ h => absurd h List.not_mem_nil⟩⟩⟩⟩⟩, by decide, by decide, by decide⟩, List.forall_mem_cons.mpr ⟨⟨zr_0, zmi_0, List.forall_mem_cons.mpr ⟨z_t2 29 rfl, List.forall_mem_cons.mpr ⟨z_t1 26 rfl, List.forall_mem_cons.mpr ⟨z_t1 27 rfl, fun _ h => absurd h List.not_mem_nil⟩⟩⟩, by decide, by decide, by decide⟩, List.forall_mem_cons.mpr ⟨⟨zr_106, zmi_106, List.forall_mem_cons.mpr ⟨z_t4 129 rfl, List.forall_mem_cons.mpr ⟨z_t4 131 rfl, List.forall_mem_cons.mpr ⟨z_s3 10 rfl, List.forall_mem_cons.mpr ⟨z_t1 9 rfl, List.forall_mem_cons.mpr ⟨z_t4 132 rfl, fun _ h => absurd h List.not_mem_nil⟩⟩⟩⟩⟩, by decide, by decide, by decide⟩, List.forall_mem_cons.mpr ⟨⟨zr_108, zmi_108, List.forall_mem_cons.mpr ⟨z_t4 145 rfl, List.forall_mem_cons.mpr ⟨z_t4 147 rfl, List.forall_mem_cons.mpr ⟨z_s3 12 rfl, List.forall_mem_cons.mpr ⟨z_t1 9 rfl, List.forall_mem_cons.mpr ⟨z_t4 148 rfl, fun _ h => absurd h List.not_mem_nil⟩⟩⟩⟩⟩, by decide, by decide, by decide⟩, List.forall_mem_cons.mpr ⟨⟨zr_385, zmi_385, List.forall_mem_cons.mpr ⟨z_t4 149 rfl, List.forall_mem_cons.mpr ⟨z_t1 150 rfl, List.forall_mem_cons.mpr ⟨z_t1 6 rfl, List.forall_mem_cons.mpr ⟨z_t1 151 rfl, fun _ h => absurd h List.not_mem_nil⟩⟩⟩⟩, by decide, by decide, by decide⟩, List.forall_mem_cons.mpr ⟨⟨zr_388, zmi_388, List.forall_mem_cons.mpr ⟨z_t4 140 rfl, List.forall_mem_cons.mpr ⟨z_t3 117 rfl, List.forall_mem_cons.mpr ⟨z_t1 19 rfl, List.forall_mem_cons.mpr ⟨z_t3 118 rfl, fun _ h => absurd h List.not_mem_nil⟩⟩⟩⟩, by decide, by decide, by decide⟩, List.forall_mem_cons.mpr ⟨⟨zr_109, zmi_109, List.forall_mem_cons.mpr ⟨z_t4 150 rfl, List.forall_mem_cons.mpr ⟨z_t4 152 rfl, List.forall_mem_cons.mpr ⟨z_s3 13 rfl, List.forall_mem_cons.mpr ⟨z_t1 9 rfl, List.forall_mem_cons.mpr ⟨z_t4 153 rfl, fun _ h => absurd h List.not_mem_nil⟩⟩⟩⟩⟩, by decide, by decide, by decide⟩, fun _ h => absurd h List.not_mem_nil⟩⟩⟩⟩⟩⟩⟩⟩⟩⟩⟩⟩⟩⟩⟩⟩
def zmth_6 : List ((Nat × Nat) × Nat × Nat) := [((8, 81), 110, 0), ((8, 92), 107, 0), ((8, 99), 80, 0), ((8, 103), 127, 4), ((8, 107), 387, 1), ((8, 110), 83, 0), ((8, 116), 91, 0), ((8, 119), 92, 0), ((8, 122), 111, 1), ((9, 3), 0, 6), ((10, 1), 0, 6), ((10, 9), 0, 2), ((10, 22), 47, 3), ((10, 29), 75, 3), ((10, 39), 113, 2), ((10, 51), 104, 3)]
theorem zmth_o6 : ∀ q ∈ zmth_6, zmthP q := List.forall_mem_cons.mpr ⟨⟨zr_110, zmi_110, List.forall_mem_cons.mpr ⟨z_t4 154 rfl, List.forall_mem_cons.mpr ⟨z_t4 156 rfl, List.forall_mem_cons.mpr ⟨z_s3 14 rfl, List.forall_mem_cons.mpr ⟨z_t1 9 rfl, List.forall_mem_cons.mpr ⟨z_t4 157 rfl, fun _ h => absurd h List.not_mem_nil⟩⟩⟩⟩⟩, by decide, by decide, by decide⟩, List.forall_mem_cons.mpr ⟨⟨zr_107, zmi_107, List.forall_mem_cons.mpr ⟨z_t4 133 rfl, List.forall_mem_cons.mpr ⟨z_t4 135 rfl, List.forall_mem_cons.mpr ⟨z_s3 11 rfl, List.forall_mem_cons.mpr ⟨z_t1 9 rfl, List.forall_mem_cons.mpr ⟨z_t4 136 rfl, fun _ h => absurd h List.not_mem_nil⟩⟩⟩⟩⟩, by decide, by decide, by decide⟩, List.forall_mem_cons.mpr ⟨⟨zr_80, zmi_80, List.forall_mem_cons.mpr ⟨z_t4 137 rfl, List.forall_mem_cons.mpr ⟨z_t4 102 rfl, List.forall_mem_cons.mpr ⟨z_t4 103 rfl, List.forall_mem_cons.mpr ⟨z_t1 5 rfl, List.forall_mem_cons.mpr ⟨z_t4 104 rfl, fun _ h => absurd h List.not_mem_nil⟩⟩⟩⟩⟩, by decide, by decide, by decide⟩, List.forall_mem_cons.mpr ⟨⟨zr_127, zmi_127, List.forall_mem_cons.mpr ⟨z_t4 138 rfl, List.forall_mem_cons.mpr ⟨z_t4 95 rfl, List.forall_mem_cons.mpr ⟨z_t1 1 rfl, List.forall_mem_cons.mpr ⟨z_t4 96 rfl, fun _ h => absurd h List.not_mem_nil⟩⟩⟩⟩, by decide, by decide, by decide⟩, List.forall_mem_cons.mpr ⟨⟨zr_387, zmi_387, List.forall_mem_cons.mpr ⟨z_t4 139 rfl, List.forall_mem_cons.mpr ⟨z_t4 28 rfl, List.forall_mem_cons.mpr ⟨z_t1 19 rfl, List.forall_mem_cons.mpr ⟨z_t4 29 rfl, fun _ h => absurd h List.not_mem_nil⟩⟩⟩⟩, by decide, by decide, by decide⟩, List.forall_mem_cons.mpr ⟨⟨zr_83, zmi_83, List.forall_mem_cons.mpr ⟨z_t4 141 rfl, List.forall_mem_cons.mpr ⟨z_t4 142 rfl, List.forall_mem_cons.mpr ⟨z_t4 143 rfl, List.forall_mem_cons.mpr ⟨z_t1 5 rfl, List.forall_mem_cons.mpr ⟨z_t4 144 rfl, fun _ h => absurd h List.not_mem_nil⟩⟩⟩⟩⟩, by decide, by decide, by decide⟩, List.forall_mem_cons.mpr ⟨⟨zr_91, zmi_91, List.forall_mem_cons.mpr ⟨z_t4 158 rfl, List.forall_mem_cons.mpr ⟨z_t4 52 rfl, List.forall_mem_cons.mpr ⟨z_t4 53 rfl, List.forall_mem_cons.mpr ⟨z_t1 4 rfl, List.forall_mem_cons.mpr ⟨z_t4 54 rfl, fun _ h => absurd h List.not_mem_nil⟩⟩⟩⟩⟩, by decide, by decide, by decide⟩, List.forall_mem_cons.mpr ⟨⟨zr_92, zmi_92, List.forall_mem_cons.mpr ⟨z_t4 159 rfl, List.forall_mem_cons.mpr ⟨z_t4 56 rfl, List.forall_mem_cons.mpr ⟨z_t4 57 rfl, List.forall_mem_cons.mpr ⟨z_t1 4 rfl, List.forall_mem_cons.mpr ⟨z_t4 58 rfl, fun _ h => absurd h List.not_mem_nil⟩⟩⟩⟩⟩, by decide, by decide, by decide⟩, List.forall_mem_cons.mpr ⟨⟨zr_111, zmi_111, List.forall_mem_cons.mpr ⟨z_t4 160 rfl, List.forall_mem_cons.mpr ⟨z_t4 60 rfl, List.forall_mem_cons.mpr ⟨z_t1 9 rfl, List.forall_mem_cons.mpr ⟨z_t4 61 rfl, fun _ h => absurd h List.not_mem_nil⟩⟩⟩⟩, by decide, by decide, by decide⟩, List.forall_mem_cons.mpr ⟨⟨zr_0, zmi_0, List.forall_mem_cons.mpr ⟨z_t2 17 rfl, List.forall_mem_cons.mpr ⟨z_t1 26 rfl, List.forall_mem_cons.mpr ⟨z_t1 27 rfl, fun _ h => absurd h List.not_mem_nil⟩⟩⟩, by decide, by decide, by decide⟩, List.forall_mem_cons.mpr ⟨⟨zr_0, zmi_0, List.forall_mem_cons.mpr ⟨z_t1 25 rfl, List.forall_mem_cons.mpr ⟨z_t1 26 rfl, List.forall_mem_cons.mpr ⟨z_t1 27 rfl, fun _ h => absurd h List.not_mem_nil⟩⟩⟩, by decide, by decide, by decide⟩, List.forall_mem_cons.mpr ⟨⟨zr_0, zmi_0, List.forall_mem_cons.mpr ⟨z_t1 30 rfl, List.forall_mem_cons.mpr ⟨z_t1 31 rfl, List.forall_mem_cons.mpr ⟨z_t1 2 rfl, List.forall_mem_cons.mpr ⟨z_t1 32 rfl, fun _ h => absurd h List.not_mem_nil⟩⟩⟩⟩, by decide, by decide, by decide⟩, List.forall_mem_cons.mpr ⟨⟨zr_47, zmi_47, List.forall_mem_cons.mpr ⟨z_t1 182 rfl, List.forall_mem_cons.mpr ⟨z_t1 183 rfl, List.forall_mem_cons.mpr ⟨z_t1 7 rfl, List.forall_mem_cons.mpr ⟨z_t1 184 rfl, fun _ h => absurd h List.not_mem_nil⟩⟩⟩⟩, by decide, by decide, by decide⟩, List.forall_mem_cons.mpr ⟨⟨zr_75, zmi_75, List.forall_mem_cons.mpr ⟨z_t2 11 rfl, List.forall_mem_cons.mpr ⟨z_t1 64 rfl, List.forall_mem_cons.mpr ⟨z_t1 5 rfl, List.forall_mem_cons.mpr ⟨z_t1 65 rfl, fun _ h => absurd h List.not_mem_nil⟩⟩⟩⟩, by decide, by decide, by decide⟩, List.forall_mem_cons.mpr ⟨⟨zr_113, zmi_113, List.forall_mem_cons.mpr ⟨z_t2 14 rfl, List.forall_mem_cons.mpr ⟨z_t2 15 rfl, List.forall_mem_cons.mpr ⟨z_t1 8 rfl, List.forall_mem_cons.mpr ⟨z_t2 16 rfl, fun _ h => absurd h List.not_mem_nil⟩⟩⟩⟩, by decide, by decide, by decide⟩, List.forall_mem_cons.mpr ⟨⟨zr_104, zmi_104, List.forall_mem_cons.mpr ⟨z_t2 26 rfl, List.forall_mem_cons.mpr ⟨z_t2 27 rfl, List.forall_mem_cons.mpr ⟨z_t1 9 rfl, List.forall_mem_cons.mpr ⟨z_t2 28 rfl, fun _ h => absurd h List.not_mem_nil⟩⟩⟩⟩, by decide, by decide, by decide⟩, fun _ h => absurd h List.not_mem_nil⟩⟩⟩⟩⟩⟩⟩⟩⟩⟩⟩⟩⟩⟩⟩⟩
def zmth_7 : List ((Nat × Nat) × Nat × Nat) := [((10, 58), 49, 3), ((10, 65), 63, 3), ((10, 72), 90, 2), ((10, 82), 61, 3), ((10, 106), 77, 0), ((10, 110), 76, 0), ((10, 113), 131, 0), ((10, 116), 132, 0), ((10, 126), 138, 0), ((10, 140), 136, 0), ((10, 147), 85, 0), ((10, 152), 86, 0), ((10, 164), 144, 0), ((10, 168), 146, 0), ((10, 172), 137, 0), ((10, 187), 134, 0)]
theorem zmth_o7 : ∀ q ∈ zmth_7, zmthP q := List.forall_mem_cons.mpr ⟨⟨zr_49, zmi_49, List.forall_mem_cons.mpr ⟨z_t2 73 rfl, List.forall_mem_cons.mpr ⟨z_t2 74 rfl, List.forall_mem_cons.mpr ⟨z_t1 10 rfl, List.forall_mem_cons.mpr ⟨z_t2 75 rfl, fun _ h => absurd h List.not_mem_nil⟩⟩⟩⟩, by decide, by decide, by decide⟩, List.forall_mem_cons.mpr ⟨⟨zr_63, zmi_63, List.forall_mem_cons.mpr ⟨z_t2 85 rfl, List.forall_mem_cons.mpr ⟨z_t2 86 rfl, List.forall_mem_cons.mpr ⟨z_t1 11 rfl, List.forall_mem_cons.mpr ⟨z_t2 87 rfl, fun _ h => absurd h List.not_mem_nil⟩⟩⟩⟩, by decide, by decide, by decide⟩, List.forall_mem_cons.mpr ⟨⟨zr_90, zmi_90, List.forall_mem_cons.mpr ⟨z_t2 111 rfl, List.forall_mem_cons.mpr ⟨z_t1 57 rfl, List.forall_mem_cons.mpr ⟨z_t1 4 rfl, List.forall_mem_cons.mpr ⟨z_t1 58 rfl, fun _ h => absurd h List.not_mem_nil⟩⟩⟩⟩, by decide, by decide, by decide⟩, List.forall_mem_cons.mpr ⟨⟨zr_61, zmi_61, List.forall_mem_cons.mpr ⟨z_t2 114 rfl, List.forall_mem_cons.mpr ⟨z_t2 115 rfl, List.forall_mem_cons.mpr ⟨z_t1 12 rfl, List.forall_mem_cons.mpr ⟨z_t2 116 rfl, fun _ h => absurd h List.not_mem_nil⟩⟩⟩⟩, by decide, by decide, by decide⟩, List.forall_mem_cons.mpr ⟨⟨zr_77, zmi_77, List.forall_mem_cons.mpr ⟨z_t3 72 rfl, List.forall_mem_cons.mpr ⟨z_t3 64 rfl, List.forall_mem_cons.mpr ⟨z_t3 65 rfl, List.forall_mem_cons.mpr ⟨z_t1 5 rfl, List.forall_mem_cons.mpr ⟨z_t3 66 rfl, fun _ h => absurd h List.not_mem_nil⟩⟩⟩⟩⟩, by decide, by decide, by decide⟩, List.forall_mem_cons.mpr ⟨⟨zr_76, zmi_76, List.forall_mem_cons.mpr ⟨z_t3 71 rfl, List.forall_mem_cons.mpr ⟨z_t3 55 rfl, List.forall_mem_cons.mpr ⟨z_t3 56 rfl, List.forall_mem_cons.mpr ⟨z_t1 5 rfl, List.forall_mem_cons.mpr ⟨z_t3 57 rfl, fun _ h => absurd h List.not_mem_nil⟩⟩⟩⟩⟩, by decide, by decide, by decide⟩, List.forall_mem_cons.mpr ⟨⟨zr_131, zmi_131, List.forall_mem_cons.mpr ⟨z_t2 167 rfl, List.forall_mem_cons.mpr ⟨z_t2 169 rfl, List.forall_mem_cons.mpr ⟨z_s1 0 rfl, List.forall_mem_cons.mpr ⟨z_t1 1 rfl, List.forall_mem_cons.mpr ⟨z_t2 170 rfl, fun _ h => absurd h List.not_mem_nil⟩⟩⟩⟩⟩, by decide, by decide, by decide⟩, List.forall_mem_cons.mpr ⟨⟨zr_132, zmi_132, List.forall_mem_cons.mpr ⟨z_t5 90 rfl, List.forall_mem_cons.mpr ⟨z_t5 92 rfl, List.forall_mem_cons.mpr ⟨z_s4 3 rfl, List.forall_mem_cons.mpr ⟨z_t1 1 rfl, List.forall_mem_cons.mpr ⟨z_t5 93 rfl, fun _ h => absurd h List.not_mem_nil⟩⟩⟩⟩⟩, by decide, by decide, by decide⟩, List.forall_mem_cons.mpr ⟨⟨zr_138, zmi_138, List.forall_mem_cons.mpr ⟨z_t3 73 rfl, List.forall_mem_cons.mpr ⟨z_t3 75 rfl, List.forall_mem_cons.mpr ⟨z_s1 5 rfl, List.forall_mem_cons.mpr ⟨z_t1 1 rfl, List.forall_mem_cons.mpr ⟨z_t3 76 rfl, fun _ h => absurd h List.not_mem_nil⟩⟩⟩⟩⟩, by decide, by decide, by decide⟩, List.forall_mem_cons.mpr ⟨⟨zr_136, zmi_136, List.forall_mem_cons.mpr ⟨z_t3 41 rfl, List.forall_mem_cons.mpr ⟨z_t3 43 rfl, List.forall_mem_cons.mpr ⟨z_s1 3 rfl, List.forall_mem_cons.mpr ⟨z_t1 1 rfl, List.forall_mem_cons.mpr ⟨z_t3 44 rfl, fun _ h => absurd h List.not_mem_nil⟩⟩⟩⟩⟩, by decide, by decide, by decide⟩, List.forall_mem_cons.mpr ⟨⟨zr_85, zmi_85, List.forall_mem_cons.mpr ⟨z_t3 58 rfl, List.forall_mem_cons.mpr ⟨z_t3 59 rfl, List.forall_mem_cons.mpr ⟨z_t3 60 rfl, List.forall_mem_cons.mpr ⟨z_t1 5 rfl, List.forall_mem_cons.mpr ⟨z_t3 61 rfl, fun _ h => absurd h List.not_mem_nil⟩⟩⟩⟩⟩, by decide, by decide, by decide⟩, List.forall_mem_cons.mpr ⟨⟨zr_86, zmi_86, List.forall_mem_cons.mpr ⟨z_t3 67 rfl, List.forall_mem_cons.mpr ⟨z_t3 68 rfl, List.forall_mem_cons.mpr ⟨z_t3 69 rfl, List.forall_mem_cons.mpr ⟨z_t1 5 rfl, List.forall_mem_cons.mpr ⟨z_t3 70 rfl, fun _ h => absurd h List.not_mem_nil⟩⟩⟩⟩⟩, by decide, by decide, by decide⟩, List.forall_mem_cons.mpr ⟨⟨zr_144, zmi_144, List.forall_mem_cons.mpr ⟨z_t3 32 rfl, List.forall_mem_cons.mpr ⟨z_t3 34 rfl, List.forall_mem_cons.mpr ⟨z_s1 2 rfl, List.forall_mem_cons.mpr ⟨z_t1 1 rfl, List.forall_mem_cons.mpr ⟨z_t3 35 rfl, fun _ h => absurd h List.not_mem_nil⟩⟩⟩⟩⟩, by decide, by decide, by decide⟩, List.forall_mem_cons.mpr ⟨⟨zr_146, zmi_146, List.forall_mem_cons.mpr ⟨z_t4 184 rfl, List.forall_mem_cons.mpr ⟨z_t4 186 rfl, List.forall_mem_cons.mpr ⟨z_s3 15 rfl, List.forall_mem_cons.mpr ⟨z_t1 1 rfl, List.forall_mem_cons.mpr ⟨z_t4 187 rfl, fun _ h => absurd h List.not_mem_nil⟩⟩⟩⟩⟩, by decide, by decide, by decide⟩, List.forall_mem_cons.mpr ⟨⟨zr_137, zmi_137, List.forall_mem_cons.mpr ⟨z_t3 45 rfl, List.forall_mem_cons.mpr ⟨z_t3 47 rfl, List.forall_mem_cons.mpr ⟨z_s1 4 rfl, List.forall_mem_cons.mpr ⟨z_t1 1 rfl, List.forall_mem_cons.mpr ⟨z_t3 48 rfl, fun _ h => absurd h List.not_mem_nil⟩⟩⟩⟩⟩, by decide, by decide, by decide⟩, List.forall_mem_cons.mpr ⟨⟨zr_134, zmi_134, List.forall_mem_cons.mpr ⟨z_t4 67 rfl, List.forall_mem_cons.mpr ⟨z_t4 69 rfl, List.forall_mem_cons.mpr ⟨z_s3 5 rfl, List.forall_mem_cons.mpr ⟨z_t1 1 rfl, List.forall_mem_cons.mpr ⟨z_t4 70 rfl, fun _ h => absurd h List.not_mem_nil⟩⟩⟩⟩⟩, by decide, by decide, by decide⟩, fun _ h => absurd h List.not_mem_nil⟩⟩⟩⟩⟩⟩⟩⟩⟩⟩⟩⟩⟩⟩⟩⟩
def zmth_8 : List ((Nat × Nat) × Nat × Nat) := [((10, 202), 8, 0), ((10, 211), 43, 0), ((10, 215), 1, 0), ((10, 227), 165, 0), ((10, 236), 166, 0), ((10, 239), 3, 0), ((10, 249), 19, 0), ((10, 252), 102, 0), ((10, 267), 173, 0), ((10, 270), 103, 0), ((10, 274), 45, 0), ((10, 298), 105, 0), ((10, 305), 112, 1), ((10, 373), 2, 0), ((10, 377), 128, 0), ((10, 384), 7, 0)]
theorem zmth_o8 : ∀ q ∈ zmth_8, zmthP q := List.forall_mem_cons.mpr ⟨⟨zr_8, zmi_8, List.forall_mem_cons.mpr ⟨z_t5 56 rfl, List.forall_mem_cons.mpr ⟨z_t3 223 rfl, List.forall_mem_cons.mpr ⟨z_t3 224 rfl, List.forall_mem_cons.mpr ⟨z_t1 2 rfl, List.forall_mem_cons.mpr ⟨z_t3 225 rfl, fun _ h => absurd h List.not_mem_nil⟩⟩⟩⟩⟩, by decide, by decide, by decide⟩, List.forall_mem_cons.mpr ⟨⟨zr_43, zmi_43, List.forall_mem_cons.mpr ⟨z_t5 58 rfl, List.forall_mem_cons.mpr ⟨z_t5 59 rfl, List.forall_mem_cons.mpr ⟨z_t5 60 rfl, List.forall_mem_cons.mpr ⟨z_t1 2 rfl, List.forall_mem_cons.mpr ⟨z_t5 61 rfl, fun _ h => absurd h List.not_mem_nil⟩⟩⟩⟩⟩, by decide, by decide, by decide⟩, List.forall_mem_cons.mpr ⟨⟨zr_1, zmi_1, List.forall_mem_cons.mpr ⟨z_t4 176 rfl, List.forall_mem_cons.mpr ⟨z_t3 235 rfl, List.forall_mem_cons.mpr ⟨z_t3 236 rfl, List.forall_mem_cons.mpr ⟨z_t1 2 rfl, List.forall_mem_cons.mpr ⟨z_t3 237 rfl, fun _ h => absurd h List.not_mem_nil⟩⟩⟩⟩⟩, by decide, by decide, by decide⟩, List.forall_mem_cons.mpr ⟨⟨zr_165, zmi_165, List.forall_mem_cons.mpr ⟨z_t5 36 rfl, List.forall_mem_cons.mpr ⟨z_t5 38 rfl, List.forall_mem_cons.mpr ⟨z_s4 1 rfl, List.forall_mem_cons.mpr ⟨z_t1 1 rfl, List.forall_mem_cons.mpr ⟨z_t5 39 rfl, fun _ h => absurd h List.not_mem_nil⟩⟩⟩⟩⟩, by decide, by decide, by decide⟩, List.forall_mem_cons.mpr ⟨⟨zr_166, zmi_166, List.forall_mem_cons.mpr ⟨z_t5 41 rfl, List.forall_mem_cons.mpr ⟨z_t5 43 rfl, List.forall_mem_cons.mpr ⟨z_s4 2 rfl, List.forall_mem_cons.mpr ⟨z_t1 1 rfl, List.forall_mem_cons.mpr ⟨z_t5 44 rfl, fun _ h => absurd h List.not_mem_nil⟩⟩⟩⟩⟩, by decide, by decide, by decide⟩, List.forall_mem_cons.mpr ⟨⟨zr_3, zmi_3, List.forall_mem_cons.mpr ⟨z_t4 76 rfl, List.forall_mem_cons.mpr ⟨z_t3 203 rfl, List.forall_mem_cons.mpr ⟨z_t3 204 rfl, List.forall_mem_cons.mpr ⟨z_t1 2 rfl, List.forall_mem_cons.mpr ⟨z_t3 205 rfl, fun _ h => absurd h List.not_mem_nil⟩⟩⟩⟩⟩, by decide, by decide, by decide⟩, List.forall_mem_cons.mpr ⟨⟨zr_19, zmi_19, List.forall_mem_cons.mpr ⟨z_t5 18 rfl, List.forall_mem_cons.mpr ⟨z_t3 136 rfl, List.forall_mem_cons.mpr ⟨z_t3 137 rfl, List.forall_mem_cons.mpr ⟨z_t1 2 rfl, List.forall_mem_cons.mpr ⟨z_t3 138 rfl, fun _ h => absurd h List.not_mem_nil⟩⟩⟩⟩⟩, by decide, by decide, by decide⟩, List.forall_mem_cons.mpr ⟨⟨zr_102, zmi_102, List.forall_mem_cons.mpr ⟨z_t5 19 rfl, List.forall_mem_cons.mpr ⟨z_t5 20 rfl, List.forall_mem_cons.mpr ⟨z_t5 21 rfl, List.forall_mem_cons.mpr ⟨z_t1 4 rfl, List.forall_mem_cons.mpr ⟨z_t5 22 rfl, fun _ h => absurd h List.not_mem_nil⟩⟩⟩⟩⟩, by decide, by decide, by decide⟩, List.forall_mem_cons.mpr ⟨⟨zr_173, zmi_173, List.forall_mem_cons.mpr ⟨z_t4 190 rfl, List.forall_mem_cons.mpr ⟨z_t4 192 rfl, List.forall_mem_cons.mpr ⟨z_s4 0 rfl, List.forall_mem_cons.mpr ⟨z_t1 1 rfl, List.forall_mem_cons.mpr ⟨z_t4 193 rfl, fun _ h => absurd h List.not_mem_nil⟩⟩⟩⟩⟩, by decide, by decide, by decide⟩, List.forall_mem_cons.mpr ⟨⟨zr_103, zmi_103, List.forall_mem_cons.mpr ⟨z_t4 194 rfl, List.forall_mem_cons.mpr ⟨z_t4 195 rfl, List.forall_mem_cons.mpr ⟨z_t4 196 rfl, List.forall_mem_cons.mpr ⟨z_t1 4 rfl, List.forall_mem_cons.mpr ⟨z_t4 197 rfl, fun _ h => absurd h List.not_mem_nil⟩⟩⟩⟩⟩, by decide, by decide, by decide⟩, List.forall_mem_cons.mpr ⟨⟨zr_45, zmi_45, List.forall_mem_cons.mpr ⟨z_t4 215 rfl, List.forall_mem_cons.mpr ⟨z_t4 216 rfl, List.forall_mem_cons.mpr ⟨z_t4 217 rfl, List.forall_mem_cons.mpr ⟨z_t1 2 rfl, List.forall_mem_cons.mpr ⟨z_t4 218 rfl, fun _ h => absurd h List.not_mem_nil⟩⟩⟩⟩⟩, by decide, by decide, by decide⟩, List.forall_mem_cons.mpr ⟨⟨zr_105, zmi_105, List.forall_mem_cons.mpr ⟨z_t4 125 rfl, List.forall_mem_cons.mpr ⟨z_t4 126 rfl, List.forall_mem_cons.mpr ⟨z_t4 127 rfl, List.forall_mem_cons.mpr ⟨z_t1 9 rfl, List.forall_mem_cons.mpr ⟨z_t4 128 rfl, fun _ h => absurd h List.not_mem_nil⟩⟩⟩⟩⟩, by decide, by decide, by decide⟩, List.forall_mem_cons.mpr ⟨⟨zr_112, zmi_112, List.forall_mem_cons.mpr ⟨z_t4 235 rfl, List.forall_mem_cons.mpr ⟨z_t4 236 rfl, List.forall_mem_cons.mpr ⟨z_t1 9 rfl, List.forall_mem_cons.mpr ⟨z_t4 237 rfl, fun _ h => absurd h List.not_mem_nil⟩⟩⟩⟩, by decide, by decide, by decide⟩, List.forall_mem_cons.mpr ⟨⟨zr_2, zmi_2, List.forall_mem_cons.mpr ⟨z_t4 82 rfl, List.forall_mem_cons.mpr ⟨z_t4 83 rfl, List.forall_mem_cons.mpr ⟨z_t4 84 rfl, List.forall_mem_cons.mpr ⟨z_t1 2 rfl, List.forall_mem_cons.mpr ⟨z_t4 85 rfl, fun _ h => absurd h List.not_mem_nil⟩⟩⟩⟩⟩, by decide, by decide, by decide⟩, List.forall_mem_cons.mpr ⟨⟨zr_128, zmi_128, List.forall_mem_cons.mpr ⟨z_t4 121 rfl, List.forall_mem_cons.mpr ⟨z_t4 123 rfl, List.forall_mem_cons.mpr ⟨z_s3 9 rfl, List.forall_mem_cons.mpr ⟨z_t1 1 rfl, List.forall_mem_cons.mpr ⟨z_t4 124 rfl, fun _ h => absurd h List.not_mem_nil⟩⟩⟩⟩⟩, by decide, by decide, by decide⟩, List.forall_mem_cons.mpr ⟨⟨zr_7, zmi_7, List.forall_mem_cons.mpr ⟨z_t4 188 rfl, List.forall_mem_cons.mpr ⟨z_t3 82 rfl, List.forall_mem_cons.mpr ⟨z_t3 83 rfl, List.forall_mem_cons.mpr ⟨z_t1 2 rfl, List.forall_mem_cons.mpr ⟨z_t3 84 rfl, fun _ h => absurd h List.not_mem_nil⟩⟩⟩⟩⟩, by decide, by decide, by decide⟩, fun _ h => absurd h List.not_mem_nil⟩⟩⟩⟩⟩⟩⟩⟩⟩⟩⟩⟩⟩⟩⟩⟩
def zmth_9 : List ((Nat × Nat) × Nat × Nat) := [((10, 399), 48, 0), ((10, 409), 62, 0), ((10, 412), 10, 0), ((10, 421), 44, 0), ((12, 9), 122, 0), ((12, 15), 393, 1), ((12, 21), 167, 0), ((12, 25), 172, 0), ((12, 29), 174, 0), ((12, 35), 177, 0), ((12, 39), 178, 0), ((12, 43), 395, 1), ((12, 46), 168, 0), ((12, 49), 123, 0), ((12, 53), 163, 0), ((12, 57), 392, 1)]
theorem zmth_o9 : ∀ q ∈ zmth_9, zmthP q := List.forall_mem_cons.mpr ⟨⟨zr_48, zmi_48, List.forall_mem_cons.mpr ⟨z_t3 50 rfl, List.forall_mem_cons.mpr ⟨z_t3 51 rfl, List.forall_mem_cons.mpr ⟨z_t3 52 rfl, List.forall_mem_cons.mpr ⟨z_t1 7 rfl, List.forall_mem_cons.mpr ⟨z_t3 53 rfl, fun _ h => absurd h List.not_mem_nil⟩⟩⟩⟩⟩, by decide, by decide, by decide⟩, List.forall_mem_cons.mpr ⟨⟨zr_62, zmi_62, List.forall_mem_cons.mpr ⟨z_t3 36 rfl, List.forall_mem_cons.mpr ⟨z_t3 37 rfl, List.forall_mem_cons.mpr ⟨z_t3 38 rfl, List.forall_mem_cons.mpr ⟨z_t1 12 rfl, List.forall_mem_cons.mpr ⟨z_t3 39 rfl, fun _ h => absurd h List.not_mem_nil⟩⟩⟩⟩⟩, by decide, by decide, by decide⟩, List.forall_mem_cons.mpr ⟨⟨zr_10, zmi_10, List.forall_mem_cons.mpr ⟨z_t3 77 rfl, List.forall_mem_cons.mpr ⟨z_t3 78 rfl, List.forall_mem_cons.mpr ⟨z_t3 79 rfl, List.forall_mem_cons.mpr ⟨z_t1 2 rfl, List.forall_mem_cons.mpr ⟨z_t3 80 rfl, fun _ h => absurd h List.not_mem_nil⟩⟩⟩⟩⟩, by decide, by decide, by decide⟩, List.forall_mem_cons.mpr ⟨⟨zr_44, zmi_44, List.forall_mem_cons.mpr ⟨z_t5 45 rfl, List.forall_mem_cons.mpr ⟨z_t5 46 rfl, List.forall_mem_cons.mpr ⟨z_t5 47 rfl, List.forall_mem_cons.mpr ⟨z_t1 2 rfl, List.forall_mem_cons.mpr ⟨z_t5 48 rfl, fun _ h => absurd h List.not_mem_nil⟩⟩⟩⟩⟩, by decide, by decide, by decide⟩, List.forall_mem_cons.mpr ⟨⟨zr_122, zmi_122, List.forall_mem_cons.mpr ⟨z_t4 172 rfl, List.forall_mem_cons.mpr ⟨z_t4 173 rfl, List.forall_mem_cons.mpr ⟨z_t4 174 rfl, List.forall_mem_cons.mpr ⟨z_t1 1 rfl, List.forall_mem_cons.mpr ⟨z_t4 175 rfl, fun _ h => absurd h List.not_mem_nil⟩⟩⟩⟩⟩, by decide, by decide, by decide⟩, List.forall_mem_cons.mpr ⟨⟨zr_393, zmi_393, List.forall_mem_cons.mpr ⟨z_t4 169 rfl, List.forall_mem_cons.mpr ⟨z_t4 170 rfl, List.forall_mem_cons.mpr ⟨z_t1 0 rfl, List.forall_mem_cons.mpr ⟨z_t4 171 rfl, fun _ h => absurd h List.not_mem_nil⟩⟩⟩⟩, by decide, by decide, by decide⟩, List.forall_mem_cons.mpr ⟨⟨zr_167, zmi_167, List.forall_mem_cons.mpr ⟨z_t4 72 rfl, List.forall_mem_cons.mpr ⟨z_t4 73 rfl, List.forall_mem_cons.mpr ⟨z_t4 74 rfl, List.forall_mem_cons.mpr ⟨z_t1 1 rfl, List.forall_mem_cons.mpr ⟨z_t4 75 rfl, fun _ h => absurd h List.not_mem_nil⟩⟩⟩⟩⟩, by decide, by decide, by decide⟩, List.forall_mem_cons.mpr ⟨⟨zr_172, zmi_172, List.forall_mem_cons.mpr ⟨z_t4 180 rfl, List.forall_mem_cons.mpr ⟨z_t4 181 rfl, List.forall_mem_cons.mpr ⟨z_t4 182 rfl, List.forall_mem_cons.mpr ⟨z_t1 1 rfl, List.forall_mem_cons.mpr ⟨z_t4 183 rfl, fun _ h => absurd h List.not_mem_nil⟩⟩⟩⟩⟩, by decide, by decide, by decide⟩, List.forall_mem_cons.mpr ⟨⟨zr_174, zmi_174, List.forall_mem_cons.mpr ⟨z_t4 211 rfl, List.forall_mem_cons.mpr ⟨z_t4 212 rfl, List.forall_mem_cons.mpr ⟨z_t4 213 rfl, List.forall_mem_cons.mpr ⟨z_t1 1 rfl, List.forall_mem_cons.mpr ⟨z_t4 214 rfl, fun _ h => absurd h List.not_mem_nil⟩⟩⟩⟩⟩, by decide, by decide, by decide⟩, List.forall_mem_cons.mpr ⟨⟨zr_177, zmi_177, List.forall_mem_cons.mpr ⟨z_t4 231 rfl, List.forall_mem_cons.mpr ⟨z_t4 232 rfl, List.forall_mem_cons.mpr ⟨z_t4 233 rfl, List.forall_mem_cons.mpr ⟨z_t1 1 rfl, List.forall_mem_cons.mpr ⟨z_t4 234 rfl, fun _ h => absurd h List.not_mem_nil⟩⟩⟩⟩⟩, by decide, by decide, by decide⟩, List.forall_mem_cons.mpr ⟨⟨zr_178, zmi_178, List.forall_mem_cons.mpr ⟨z_t4 238 rfl, List.forall_mem_cons.mpr ⟨z_t4 239 rfl, List.forall_mem_cons.mpr ⟨z_t5 0 rfl, List.forall_mem_cons.mpr ⟨z_t1 1 rfl, List.forall_mem_cons.mpr ⟨z_t5 1 rfl, fun _ h => absurd h List.not_mem_nil⟩⟩⟩⟩⟩, by decide, by decide, by decide⟩, List.forall_mem_cons.mpr ⟨⟨zr_395, zmi_395, List.forall_mem_cons.mpr ⟨z_t4 227 rfl, List.forall_mem_cons.mpr ⟨z_t4 228 rfl, List.forall_mem_cons.mpr ⟨z_t1 0 rfl, List.forall_mem_cons.mpr ⟨z_t4 229 rfl, fun _ h => absurd h List.not_mem_nil⟩⟩⟩⟩, by decide, by decide, by decide⟩, List.forall_mem_cons.mpr ⟨⟨zr_168, zmi_168, List.forall_mem_cons.mpr ⟨z_t5 14 rfl, List.forall_mem_cons.mpr ⟨z_t5 15 rfl, List.forall_mem_cons.mpr ⟨z_t5 16 rfl, List.forall_mem_cons.mpr ⟨z_t1 1 rfl, List.forall_mem_cons.mpr ⟨z_t5 17 rfl, fun _ h => absurd h List.not_mem_nil⟩⟩⟩⟩⟩, by decide, by decide, by decide⟩, List.forall_mem_cons.mpr ⟨⟨zr_123, zmi_123, List.forall_mem_cons.mpr ⟨z_t5 6 rfl, List.forall_mem_cons.mpr ⟨z_t5 7 rfl, List.forall_mem_cons.mpr ⟨z_t5 8 rfl, List.forall_mem_cons.mpr ⟨z_t1 1 rfl, List.forall_mem_cons.mpr ⟨z_t5 9 rfl, fun _ h => absurd h List.not_mem_nil⟩⟩⟩⟩⟩, by decide, by decide, by decide⟩, List.forall_mem_cons.mpr ⟨⟨zr_163, zmi_163, List.forall_mem_cons.mpr ⟨z_t5 98 rfl, List.forall_mem_cons.mpr ⟨z_t5 99 rfl, List.forall_mem_cons.mpr ⟨z_t5 100 rfl, List.forall_mem_cons.mpr ⟨z_t1 1 rfl, List.forall_mem_cons.mpr ⟨z_t5 101 rfl, fun _ h => absurd h List.not_mem_nil⟩⟩⟩⟩⟩, by decide, by decide, by decide⟩, List.forall_mem_cons.mpr ⟨⟨zr_392, zmi_392, List.forall_mem_cons.mpr ⟨z_t4 165 rfl, List.forall_mem_cons.mpr ⟨z_t4 166 rfl, List.forall_mem_cons.mpr ⟨z_t1 0 rfl, List.forall_mem_cons.mpr ⟨z_t4 167 rfl, fun _ h => absurd h List.not_mem_nil⟩⟩⟩⟩, by decide, by decide, by decide⟩, fun _ h => absurd h List.not_mem_nil⟩⟩⟩⟩⟩⟩⟩⟩⟩⟩⟩⟩⟩⟩⟩⟩
def zmth_10 : List ((Nat × Nat) × Nat × Nat) := [((12, 60), 397, 1), ((12, 64), 164, 0), ((12, 69), 157, 0), ((12, 73), 155, 0), ((12, 76), 400, 1), ((12, 80), 147, 0), ((12, 86), 162, 0), ((12, 89), 404, 5), ((12, 92), 401, 1), ((12, 96), 403, 5), ((12, 99), 402, 1), ((12, 103), 152, 0), ((12, 106), 399, 1), ((12, 110), 405, 1), ((12, 113), 153, 0), ((12, 116), 398, 1)]
theorem zmth_o10 : ∀ q ∈ zmth_10, zmthP q := List.forall_mem_cons.mpr ⟨⟨zr_397, zmi_397, List.forall_mem_cons.mpr ⟨z_t5 102 rfl, List.forall_mem_cons.mpr ⟨z_t5 103 rfl, List.forall_mem_cons.mpr ⟨z_t1 0 rfl, List.forall_mem_cons.mpr ⟨z_t5 104 rfl, fun _ h => absurd h List.not_mem_nil⟩⟩⟩⟩, by decide, by decide, by decide⟩, List.forall_mem_cons.mpr ⟨⟨zr_164, zmi_164, List.forall_mem_cons.mpr ⟨z_t5 32 rfl, List.forall_mem_cons.mpr ⟨z_t5 33 rfl, List.forall_mem_cons.mpr ⟨z_t5 34 rfl, List.forall_mem_cons.mpr ⟨z_t1 1 rfl, List.forall_mem_cons.mpr ⟨z_t5 35 rfl, fun _ h => absurd h List.not_mem_nil⟩⟩⟩⟩⟩, by decide, by decide, by decide⟩, List.forall_mem_cons.mpr ⟨⟨zr_157, zmi_157, List.forall_mem_cons.mpr ⟨z_t5 52 rfl, List.forall_mem_cons.mpr ⟨z_t5 53 rfl, List.forall_mem_cons.mpr ⟨z_t5 54 rfl, List.forall_mem_cons.mpr ⟨z_t1 1 rfl, List.forall_mem_cons.mpr ⟨z_t5 55 rfl, fun _ h => absurd h List.not_mem_nil⟩⟩⟩⟩⟩, by decide, by decide, by decide⟩, List.forall_mem_cons.mpr ⟨⟨zr_155, zmi_155, List.forall_mem_cons.mpr ⟨z_t5 62 rfl, List.forall_mem_cons.mpr ⟨z_t5 63 rfl, List.forall_mem_cons.mpr ⟨z_t5 64 rfl, List.forall_mem_cons.mpr ⟨z_t1 1 rfl, List.forall_mem_cons.mpr ⟨z_t5 65 rfl, fun _ h => absurd h List.not_mem_nil⟩⟩⟩⟩⟩, by decide, by decide, by decide⟩, List.forall_mem_cons.mpr ⟨⟨zr_400, zmi_400, List.forall_mem_cons.mpr ⟨z_t5 66 rfl, List.forall_mem_cons.mpr ⟨z_t5 67 rfl, List.forall_mem_cons.mpr ⟨z_t1 0 rfl, List.forall_mem_cons.mpr ⟨z_t5 68 rfl, fun _ h => absurd h List.not_mem_nil⟩⟩⟩⟩, by decide, by decide, by decide⟩, List.forall_mem_cons.mpr ⟨⟨zr_147, zmi_147, List.forall_mem_cons.mpr ⟨z_t5 27 rfl, List.forall_mem_cons.mpr ⟨z_t5 28 rfl, List.forall_mem_cons.mpr ⟨z_t5 29 rfl, List.forall_mem_cons.mpr ⟨z_t1 1 rfl, List.forall_mem_cons.mpr ⟨z_t5 30 rfl, fun _ h => absurd h List.not_mem_nil⟩⟩⟩⟩⟩, by decide, by decide, by decide⟩, List.forall_mem_cons.mpr ⟨⟨zr_162, zmi_162, List.forall_mem_cons.mpr ⟨z_t5 82 rfl, List.forall_mem_cons.mpr ⟨z_t5 83 rfl, List.forall_mem_cons.mpr ⟨z_t5 84 rfl, List.forall_mem_cons.mpr ⟨z_t1 1 rfl, List.forall_mem_cons.mpr ⟨z_t5 85 rfl, fun _ h => absurd h List.not_mem_nil⟩⟩⟩⟩⟩, by decide, by decide, by decide⟩, List.forall_mem_cons.mpr ⟨⟨zr_404, zmi_404, List.forall_mem_cons.mpr ⟨z_t5 79 rfl, List.forall_mem_cons.mpr ⟨z_t5 80 rfl, List.forall_mem_cons.mpr ⟨z_t1 0 rfl, List.forall_mem_cons.mpr ⟨z_t5 81 rfl, fun _ h => absurd h List.not_mem_nil⟩⟩⟩⟩, by decide, by decide, by decide⟩, List.forall_mem_cons.mpr ⟨⟨zr_401, zmi_401, List.forall_mem_cons.mpr ⟨z_t5 10 rfl, List.forall_mem_cons.mpr ⟨z_t5 11 rfl, List.forall_mem_cons.mpr ⟨z_t1 0 rfl, List.forall_mem_cons.mpr ⟨z_t5 12 rfl, fun _ h => absurd h List.not_mem_nil⟩⟩⟩⟩, by decide, by decide, by decide⟩, List.forall_mem_cons.mpr ⟨⟨zr_403, zmi_403, List.forall_mem_cons.mpr ⟨z_t5 23 rfl, List.forall_mem_cons.mpr ⟨z_t5 24 rfl, List.forall_mem_cons.mpr ⟨z_t1 0 rfl, List.forall_mem_cons.mpr ⟨z_t5 25 rfl, fun _ h => absurd h List.not_mem_nil⟩⟩⟩⟩, by decide, by decide, by decide⟩, List.forall_mem_cons.mpr ⟨⟨zr_402, zmi_402, List.forall_mem_cons.mpr ⟨z_t5 49 rfl, List.forall_mem_cons.mpr ⟨z_t5 50 rfl, List.forall_mem_cons.mpr ⟨z_t1 0 rfl, List.forall_mem_cons.mpr ⟨z_t5 51 rfl, fun _ h => absurd h List.not_mem_nil⟩⟩⟩⟩, by decide, by decide, by decide⟩, List.forall_mem_cons.mpr ⟨⟨zr_152, zmi_152, List.forall_mem_cons.mpr ⟨z_t5 69 rfl, List.forall_mem_cons.mpr ⟨z_t5 70 rfl, List.forall_mem_cons.mpr ⟨z_t5 71 rfl, List.forall_mem_cons.mpr ⟨z_t1 1 rfl, List.forall_mem_cons.mpr ⟨z_t5 72 rfl, fun _ h => absurd h List.not_mem_nil⟩⟩⟩⟩⟩, by decide, by decide, by decide⟩, List.forall_mem_cons.mpr ⟨⟨zr_399, zmi_399, List.forall_mem_cons.mpr ⟨z_t5 73 rfl, List.forall_mem_cons.mpr ⟨z_t5 74 rfl, List.forall_mem_cons.mpr ⟨z_t1 0 rfl, List.forall_mem_cons.mpr ⟨z_t5 75 rfl, fun _ h => absurd h List.not_mem_nil⟩⟩⟩⟩, by decide, by decide, by decide⟩, List.forall_mem_cons.mpr ⟨⟨zr_405, zmi_405, List.forall_mem_cons.mpr ⟨z_t5 76 rfl, List.forall_mem_cons.mpr ⟨z_t5 77 rfl, List.forall_mem_cons.mpr ⟨z_t1 0 rfl, List.forall_mem_cons.mpr ⟨z_t5 78 rfl, fun _ h => absurd h List.not_mem_nil⟩⟩⟩⟩, by decide, by decide, by decide⟩, List.forall_mem_cons.mpr ⟨⟨zr_153, zmi_153, List.forall_mem_cons.mpr ⟨z_t5 86 rfl, List.forall_mem_cons.mpr ⟨z_t5 87 rfl, List.forall_mem_cons.mpr ⟨z_t5 88 rfl, List.forall_mem_cons.mpr ⟨z_t1 1 rfl, List.forall_mem_cons.mpr ⟨z_t5 89 rfl, fun _ h => absurd h List.not_mem_nil⟩⟩⟩⟩⟩, by decide, by decide, by decide⟩, List.forall_mem_cons.mpr ⟨⟨zr_398, zmi_398, List.forall_mem_cons.mpr ⟨z_t5 95 rfl, List.forall_mem_cons.mpr ⟨z_t5 96 rfl, List.forall_mem_cons.mpr ⟨z_t1 0 rfl, List.forall_mem_cons.mpr ⟨z_t5 97 rfl, fun _ h => absurd h List.not_mem_nil⟩⟩⟩⟩, by decide, by decide, by decide⟩, fun _ h => absurd h List.not_mem_nil⟩⟩⟩⟩⟩⟩⟩⟩⟩⟩⟩⟩⟩⟩⟩⟩
def zmth_11 : List ((Nat × Nat) × Nat × Nat) := [((12, 120), 120, 2), ((12, 121), 391, 1), ((12, 126), 143, 0), ((12, 129), 161, 0), ((12, 133), 406, 1), ((12, 136), 394, 1), ((12, 140), 396, 1), ((12, 143), 126, 0)]
theorem zmth_o11 : ∀ q ∈ zmth_11, zmthP q := List.forall_mem_cons.mpr ⟨⟨zr_120, zmi_120, List.forall_mem_cons.mpr ⟨z_t1 22 rfl, List.forall_mem_cons.mpr ⟨z_t1 23 rfl, List.forall_mem_cons.mpr ⟨z_t1 1 rfl, List.forall_mem_cons.mpr ⟨z_t1 24 rfl, fun _ h => absurd h List.not_mem_nil⟩⟩⟩⟩, by decide, by decide, by decide⟩, List.forall_mem_cons.mpr ⟨⟨zr_391, zmi_391, List.forall_mem_cons.mpr ⟨z_t4 161 rfl, List.forall_mem_cons.mpr ⟨z_t4 162 rfl, List.forall_mem_cons.mpr ⟨z_t1 0 rfl, List.forall_mem_cons.mpr ⟨z_t4 163 rfl, fun _ h => absurd h List.not_mem_nil⟩⟩⟩⟩, by decide, by decide, by decide⟩, List.forall_mem_cons.mpr ⟨⟨zr_143, zmi_143, List.forall_mem_cons.mpr ⟨z_t2 163 rfl, List.forall_mem_cons.mpr ⟨z_t2 164 rfl, List.forall_mem_cons.mpr ⟨z_t2 165 rfl, List.forall_mem_cons.mpr ⟨z_t1 1 rfl, List.forall_mem_cons.mpr ⟨z_t2 166 rfl, fun _ h => absurd h List.not_mem_nil⟩⟩⟩⟩⟩, by decide, by decide, by decide⟩, List.forall_mem_cons.mpr ⟨⟨zr_161, zmi_161, List.forall_mem_cons.mpr ⟨z_t4 63 rfl, List.forall_mem_cons.mpr ⟨z_t4 64 rfl, List.forall_mem_cons.mpr ⟨z_t4 65 rfl, List.forall_mem_cons.mpr ⟨z_t1 1 rfl, List.forall_mem_cons.mpr ⟨z_t4 66 rfl, fun _ h => absurd h List.not_mem_nil⟩⟩⟩⟩⟩, by decide, by decide, by decide⟩, List.forall_mem_cons.mpr ⟨⟨zr_406, zmi_406, List.forall_mem_cons.mpr ⟨z_t5 3 rfl, List.forall_mem_cons.mpr ⟨z_t5 4 rfl, List.forall_mem_cons.mpr ⟨z_t1 0 rfl, List.forall_mem_cons.mpr ⟨z_t5 5 rfl, fun _ h => absurd h List.not_mem_nil⟩⟩⟩⟩, by decide, by decide, by decide⟩, List.forall_mem_cons.mpr ⟨⟨zr_394, zmi_394, List.forall_mem_cons.mpr ⟨z_t4 177 rfl, List.forall_mem_cons.mpr ⟨z_t4 178 rfl, List.forall_mem_cons.mpr ⟨z_t1 0 rfl, List.forall_mem_cons.mpr ⟨z_t4 179 rfl, fun _ h => absurd h List.not_mem_nil⟩⟩⟩⟩, by decide, by decide, by decide⟩, List.forall_mem_cons.mpr ⟨⟨zr_396, zmi_396, List.forall_mem_cons.mpr ⟨z_t4 224 rfl, List.forall_mem_cons.mpr ⟨z_t4 225 rfl, List.forall_mem_cons.mpr ⟨z_t1 0 rfl, List.forall_mem_cons.mpr ⟨z_t4 226 rfl, fun _ h => absurd h List.not_mem_nil⟩⟩⟩⟩, by decide, by decide, by decide⟩, List.forall_mem_cons.mpr ⟨⟨zr_126, zmi_126, List.forall_mem_cons.mpr ⟨z_t4 78 rfl, List.forall_mem_cons.mpr ⟨z_t4 79 rfl, List.forall_mem_cons.mpr ⟨z_t4 80 rfl, List.forall_mem_cons.mpr ⟨z_t1 1 rfl, List.forall_mem_cons.mpr ⟨z_t4 81 rfl, fun _ h => absurd h List.not_mem_nil⟩⟩⟩⟩⟩, by decide, by decide, by decide⟩, fun _ h => absurd h List.not_mem_nil⟩⟩⟩⟩⟩⟩⟩⟩
def zmthT : List ((Nat × Nat) × Nat × Nat) := zmth_0 ++ (zmth_1 ++ (zmth_2 ++ (zmth_3 ++ (zmth_4 ++ (zmth_5 ++ (zmth_6 ++ (zmth_7 ++ (zmth_8 ++ (zmth_9 ++ (zmth_10 ++ (zmth_11)))))))))))
theorem zmth_ok : ∀ q ∈ zmthT, zmthP q := by
  unfold zmthT
  exact List.forall_mem_append.mpr ⟨zmth_o0, List.forall_mem_append.mpr ⟨zmth_o1, List.forall_mem_append.mpr ⟨zmth_o2, List.forall_mem_append.mpr ⟨zmth_o3, List.forall_mem_append.mpr ⟨zmth_o4, List.forall_mem_append.mpr ⟨zmth_o5, List.forall_mem_append.mpr ⟨zmth_o6, List.forall_mem_append.mpr ⟨zmth_o7, List.forall_mem_append.mpr ⟨zmth_o8, List.forall_mem_append.mpr ⟨zmth_o9, List.forall_mem_append.mpr ⟨zmth_o10, zmth_o11⟩⟩⟩⟩⟩⟩⟩⟩⟩⟩⟩
/-- a method that the machine has (190 to 255: only thought of) -/
def zliv (m : Nat) : Bool := decide (m < 190 ∨ 256 ≤ m)
theorem zmth_liv : ∀ q ∈ zmthT, zliv q.2.1 = true := by decide +kernel
def zcls_0 : List ((Nat × Nat) × Nat) := [((0, 9), 7), ((0, 37), 3), ((1, 9), 6), ((7, 9), 6), ((10, 7), 0), ((10, 16), 1), ((10, 27), 6), ((10, 37), 9), ((10, 49), 8), ((10, 56), 2), ((10, 63), 5), ((10, 70), 7), ((10, 80), 4), ((10, 91), 20), ((10, 101), 21), ((10, 206), 22), ((12, 10), 10), ((12, 84), 21)]
theorem zcls_o0 : ∀ q ∈ zcls_0, zclsP q := List.forall_mem_cons.mpr ⟨⟨by decide, z_t1 34 rfl⟩, List.forall_mem_cons.mpr ⟨⟨by decide, z_t1 36 rfl⟩, List.forall_mem_cons.mpr ⟨⟨by decide, z_t1 186 rfl⟩, List.forall_mem_cons.mpr ⟨⟨by decide, z_t1 60 rfl⟩, List.forall_mem_cons.mpr ⟨⟨by decide, z_t1 28 rfl⟩, List.forall_mem_cons.mpr ⟨⟨by decide, z_t1 179 rfl⟩, List.forall_mem_cons.mpr ⟨⟨by decide, z_t2 10 rfl⟩, List.forall_mem_cons.mpr ⟨⟨by decide, z_t2 12 rfl⟩, List.forall_mem_cons.mpr ⟨⟨by decide, z_t2 24 rfl⟩, List.forall_mem_cons.mpr ⟨⟨by decide, z_t2 71 rfl⟩, List.forall_mem_cons.mpr ⟨⟨by decide, z_t2 83 rfl⟩, List.forall_mem_cons.mpr ⟨⟨by decide, z_t2 110 rfl⟩, List.forall_mem_cons.mpr ⟨⟨by decide, z_t2 112 rfl⟩, List.forall_mem_cons.mpr ⟨⟨by decide, z_t3 0 rfl⟩, List.forall_mem_cons.mpr ⟨⟨by decide, z_t3 16 rfl⟩, List.forall_mem_cons.mpr ⟨⟨by decide, z_t2 171 rfl⟩, List.forall_mem_cons.mpr ⟨⟨by decide, z_t1 20 rfl⟩, List.forall_mem_cons.mpr ⟨⟨by decide, z_t5 26 rfl⟩, fun _ h => absurd h List.not_mem_nil⟩⟩⟩⟩⟩⟩⟩⟩⟩⟩⟩⟩⟩⟩⟩⟩⟩⟩
def zclsT : List ((Nat × Nat) × Nat) := zcls_0
theorem zcls_ok : ∀ q ∈ zclsT, zclsP q := by
  unfold zclsT
  exact zcls_o0
def zcst_0 : List ((Nat × Nat) × Int) := [((10, 156), 65535), ((4, 13), 65536), ((12, 7), 15596419), ((12, 8), 2147483647), ((12, 125), 65536)]
theorem zcst_o0 : ∀ q ∈ zcst_0, zcstP q := List.forall_mem_cons.mpr ⟨⟨by decide, by decide, z_t2 239 rfl⟩, List.forall_mem_cons.mpr ⟨⟨by decide, by decide, z_t3 40 rfl⟩, List.forall_mem_cons.mpr ⟨⟨by decide, by decide, z_t4 164 rfl⟩, List.forall_mem_cons.mpr ⟨⟨by decide, by decide, z_t4 168 rfl⟩, List.forall_mem_cons.mpr ⟨⟨by decide, by decide, z_t5 105 rfl⟩, fun _ h => absurd h List.not_mem_nil⟩⟩⟩⟩⟩
def zcstT : List ((Nat × Nat) × Int) := zcst_0
theorem zcst_ok : ∀ q ∈ zcstT, zcstP q := by
  unfold zcstT
  exact zcst_o0
def zcstl_0 : List ((Nat × Nat) × Int64) := [((0, 307), -1), ((12, 33), 14400), ((12, 67), 31)]
theorem zcstl_o0 : ∀ q ∈ zcstl_0, zcstlP q := List.forall_mem_cons.mpr ⟨z_t3 238 rfl, List.forall_mem_cons.mpr ⟨z_t4 230 rfl, List.forall_mem_cons.mpr ⟨z_t5 13 rfl, fun _ h => absurd h List.not_mem_nil⟩⟩⟩
def zcstlT : List ((Nat × Nat) × Int64) := zcstl_0
theorem zcstl_ok : ∀ q ∈ zcstlT, zcstlP q := by
  unfold zcstlT
  exact zcstl_o0
def zstr_0 : List (Nat × String) := [(380, "no such hand"), (157, "seed or many is out of range"), (159, "not so many changes can be made any more"), (397, "no more changes can be made"), (416, "it can not be done"), (393, "an argument is out of range"), (243, "no such place in the order"), (387, "no such shape"), (309, "how is 0 to 3"), (175, "dx and dy are -60 to 60"), (231, "no change of this hand stands"), (208, "no such place in the ring"), (382, "no such layer")]
theorem zstr_o0 : ∀ q ∈ zstr_0, zstrP q := List.forall_mem_cons.mpr ⟨z_t2 212 rfl, List.forall_mem_cons.mpr ⟨z_t3 9 rfl, List.forall_mem_cons.mpr ⟨z_t3 25 rfl, List.forall_mem_cons.mpr ⟨z_t3 49 rfl, List.forall_mem_cons.mpr ⟨z_t4 62 rfl, List.forall_mem_cons.mpr ⟨z_t4 71 rfl, List.forall_mem_cons.mpr ⟨z_t4 77 rfl, List.forall_mem_cons.mpr ⟨z_t4 189 rfl, List.forall_mem_cons.mpr ⟨z_t5 2 rfl, List.forall_mem_cons.mpr ⟨z_t5 31 rfl, List.forall_mem_cons.mpr ⟨z_t5 40 rfl, List.forall_mem_cons.mpr ⟨z_t5 57 rfl, List.forall_mem_cons.mpr ⟨z_t5 94 rfl, fun _ h => absurd h List.not_mem_nil⟩⟩⟩⟩⟩⟩⟩⟩⟩⟩⟩⟩⟩
def zstrT : List (Nat × String) := zstr_0
theorem zstr_ok : ∀ q ∈ zstrT, zstrP q := by
  unfold zstrT
  exact zstr_o0
theorem zd_0 : (parseMethodDescriptor "()I").map (fun d => d.parameters.length) = some 0 := by decide +kernel
theorem zd_1 : (parseMethodDescriptor "()J").map (fun d => d.parameters.length) = some 0 := by decide +kernel
theorem zd_2 : (parseMethodDescriptor "()V").map (fun d => d.parameters.length) = some 0 := by decide +kernel
theorem zd_3 : (parseMethodDescriptor "()Z").map (fun d => d.parameters.length) = some 0 := by decide +kernel
theorem zd_4 : (parseMethodDescriptor "(I)I").map (fun d => d.parameters.length) = some 1 := by decide +kernel
theorem zd_5 : (parseMethodDescriptor "(I)J").map (fun d => d.parameters.length) = some 1 := by decide +kernel
theorem zd_6 : (parseMethodDescriptor "(I)LLayerboard$Change;").map (fun d => d.parameters.length) = some 1 := by decide +kernel
theorem zd_7 : (parseMethodDescriptor "(I)LLayerboard$Shape;").map (fun d => d.parameters.length) = some 1 := by decide +kernel
theorem zd_8 : (parseMethodDescriptor "(I)V").map (fun d => d.parameters.length) = some 1 := by decide +kernel
theorem zd_9 : (parseMethodDescriptor "(I)Z").map (fun d => d.parameters.length) = some 1 := by decide +kernel
theorem zd_10 : (parseMethodDescriptor "(II)I").map (fun d => d.parameters.length) = some 2 := by decide +kernel
theorem zd_11 : (parseMethodDescriptor "(II)V").map (fun d => d.parameters.length) = some 2 := by decide +kernel
theorem zd_12 : (parseMethodDescriptor "(II)Z").map (fun d => d.parameters.length) = some 2 := by decide +kernel
theorem zd_13 : (parseMethodDescriptor "(III)I").map (fun d => d.parameters.length) = some 3 := by decide +kernel
theorem zd_14 : (parseMethodDescriptor "(III)LLayerboard$Change;").map (fun d => d.parameters.length) = some 3 := by decide +kernel
theorem zd_15 : (parseMethodDescriptor "(III)V").map (fun d => d.parameters.length) = some 3 := by decide +kernel
theorem zd_16 : (parseMethodDescriptor "(III)Z").map (fun d => d.parameters.length) = some 3 := by decide +kernel
theorem zd_17 : (parseMethodDescriptor "(IIII)I").map (fun d => d.parameters.length) = some 4 := by decide +kernel
theorem zd_18 : (parseMethodDescriptor "(IIII)V").map (fun d => d.parameters.length) = some 4 := by decide +kernel
theorem zd_19 : (parseMethodDescriptor "(IIII)Z").map (fun d => d.parameters.length) = some 4 := by decide +kernel
theorem zd_20 : (parseMethodDescriptor "(IIIIZ)I").map (fun d => d.parameters.length) = some 5 := by decide +kernel
theorem zd_21 : (parseMethodDescriptor "(IIIZ)I").map (fun d => d.parameters.length) = some 4 := by decide +kernel
theorem zd_22 : (parseMethodDescriptor "(IIZ)I").map (fun d => d.parameters.length) = some 3 := by decide +kernel
theorem zd_23 : (parseMethodDescriptor "(IJ)Z").map (fun d => d.parameters.length) = some 2 := by decide +kernel
theorem zd_24 : (parseMethodDescriptor "(ILLayerboard$Shape;LLayerboard$Shape;)V").map (fun d => d.parameters.length) = some 3 := by decide +kernel
theorem zd_25 : (parseMethodDescriptor "(IZ)I").map (fun d => d.parameters.length) = some 2 := by decide +kernel
theorem zd_26 : (parseMethodDescriptor "(IZ)J").map (fun d => d.parameters.length) = some 2 := by decide +kernel
theorem zd_27 : (parseMethodDescriptor "(IZI)I").map (fun d => d.parameters.length) = some 3 := by decide +kernel
theorem zd_28 : (parseMethodDescriptor "(IZZ)Z").map (fun d => d.parameters.length) = some 3 := by decide +kernel
theorem zd_29 : (parseMethodDescriptor "(J)I").map (fun d => d.parameters.length) = some 1 := by decide +kernel
theorem zd_30 : (parseMethodDescriptor "(J)Z").map (fun d => d.parameters.length) = some 1 := by decide +kernel
theorem zd_31 : (parseMethodDescriptor "(JI)I").map (fun d => d.parameters.length) = some 2 := by decide +kernel
theorem zd_32 : (parseMethodDescriptor "(JII)I").map (fun d => d.parameters.length) = some 3 := by decide +kernel
theorem zd_33 : (parseMethodDescriptor "(JII)V").map (fun d => d.parameters.length) = some 3 := by decide +kernel
theorem zd_34 : (parseMethodDescriptor "(LLayerboard$Change;)I").map (fun d => d.parameters.length) = some 1 := by decide +kernel
theorem zd_35 : (parseMethodDescriptor "(LLayerboard$Change;I)I").map (fun d => d.parameters.length) = some 2 := by decide +kernel
theorem zd_36 : (parseMethodDescriptor "(LLayerboard$Polygon;)V").map (fun d => d.parameters.length) = some 1 := by decide +kernel
theorem zd_37 : (parseMethodDescriptor "(LLayerboard$Polygon;II)V").map (fun d => d.parameters.length) = some 3 := by decide +kernel
theorem zd_38 : (parseMethodDescriptor "(LLayerboard$Shape;)I").map (fun d => d.parameters.length) = some 1 := by decide +kernel
theorem zd_39 : (parseMethodDescriptor "(LLayerboard$Shape;I)I").map (fun d => d.parameters.length) = some 2 := by decide +kernel
theorem zd_40 : (parseMethodDescriptor "(LLayerboard$Shape;I)V").map (fun d => d.parameters.length) = some 2 := by decide +kernel
theorem zd_41 : (parseMethodDescriptor "(LLayerboard$Shape;LLayerboard$Shape;)V").map (fun d => d.parameters.length) = some 2 := by decide +kernel
theorem zd_42 : (parseMethodDescriptor "(LLayerboard$Shape;LLayerboard$Shape;)Z").map (fun d => d.parameters.length) = some 2 := by decide +kernel
theorem zd_43 : (parseMethodDescriptor "(LLayerboard;)I").map (fun d => d.parameters.length) = some 1 := by decide +kernel
theorem zd_44 : (parseMethodDescriptor "(LLayerboard;)J").map (fun d => d.parameters.length) = some 1 := by decide +kernel
theorem zd_45 : (parseMethodDescriptor "(LLayerboard;)Z").map (fun d => d.parameters.length) = some 1 := by decide +kernel
theorem zd_46 : (parseMethodDescriptor "(LLayerboard;I)I").map (fun d => d.parameters.length) = some 2 := by decide +kernel
theorem zd_47 : (parseMethodDescriptor "(LLayerboard;I)Z").map (fun d => d.parameters.length) = some 2 := by decide +kernel
theorem zd_48 : (parseMethodDescriptor "(LLayerboard;II)Z").map (fun d => d.parameters.length) = some 3 := by decide +kernel
theorem zd_49 : (parseMethodDescriptor "(LLayerboard;III)I").map (fun d => d.parameters.length) = some 4 := by decide +kernel
theorem zd_50 : (parseMethodDescriptor "(LLayerboard;III)J").map (fun d => d.parameters.length) = some 4 := by decide +kernel
theorem zd_51 : (parseMethodDescriptor "(LLayerboard;III)Z").map (fun d => d.parameters.length) = some 4 := by decide +kernel
theorem zd_52 : (parseMethodDescriptor "(LLayerboard;IIII)Z").map (fun d => d.parameters.length) = some 5 := by decide +kernel
theorem zd_53 : (parseMethodDescriptor "(Z)I").map (fun d => d.parameters.length) = some 1 := by decide +kernel
theorem zd_54 : (parseMethodDescriptor "(ZI)I").map (fun d => d.parameters.length) = some 2 := by decide +kernel
theorem zd_55 : (parseMethodDescriptor "(ZI)Z").map (fun d => d.parameters.length) = some 2 := by decide +kernel
theorem zd_56 : (parseMethodDescriptor "(ZII)I").map (fun d => d.parameters.length) = some 3 := by decide +kernel
theorem zd_57 : (parseMethodDescriptor "([I)Z").map (fun d => d.parameters.length) = some 1 := by decide +kernel
theorem zd_58 : (parseMethodDescriptor "([II)I").map (fun d => d.parameters.length) = some 2 := by decide +kernel
theorem zd_59 : (parseMethodDescriptor "([II)V").map (fun d => d.parameters.length) = some 2 := by decide +kernel
theorem zm_o0 : ∀ x ∈ [zr_0, zr_1, zr_2, zr_3, zr_4, zr_5, zr_6, zr_7, zr_8, zr_9, zr_10, zr_11, zr_12, zr_13, zr_14, zr_15], zmP x := List.forall_mem_cons.mpr ⟨⟨rfl, by decide, by decide, zd_2, fun _ => ⟨rfl, rfl⟩⟩, List.forall_mem_cons.mpr ⟨⟨rfl, by decide, by decide, zd_1, fun h => by cases h⟩, List.forall_mem_cons.mpr ⟨⟨rfl, by decide, by decide, zd_3, fun h => by cases h⟩, List.forall_mem_cons.mpr ⟨⟨rfl, by decide, by decide, zd_0, fun h => by cases h⟩, List.forall_mem_cons.mpr ⟨⟨rfl, by decide, by decide, zd_42, fun h => by cases h⟩, List.forall_mem_cons.mpr ⟨⟨rfl, by decide, by decide, zd_9, fun h => by cases h⟩, List.forall_mem_cons.mpr ⟨⟨rfl, by decide, by decide, zd_9, fun h => by cases h⟩, List.forall_mem_cons.mpr ⟨⟨rfl, by decide, by decide, zd_9, fun h => by cases h⟩, List.forall_mem_cons.mpr ⟨⟨rfl, by decide, by decide, zd_10, fun h => by cases h⟩, List.forall_mem_cons.mpr ⟨⟨rfl, by decide, by decide, zd_9, fun h => by cases h⟩, List.forall_mem_cons.mpr ⟨⟨rfl, by decide, by decide, zd_35, fun h => by cases h⟩, List.forall_mem_cons.mpr ⟨⟨rfl, by decide, by decide, zd_35, fun h => by cases h⟩, List.forall_mem_cons.mpr ⟨⟨rfl, by decide, by decide, zd_10, fun h => by cases h⟩, List.forall_mem_cons.mpr ⟨⟨rfl, by decide, by decide, zd_12, fun h => by cases h⟩, List.forall_mem_cons.mpr ⟨⟨rfl, by decide, by decide, zd_10, fun h => by cases h⟩, List.forall_mem_cons.mpr ⟨⟨rfl, by decide, by decide, zd_4, fun h => by cases h⟩, fun _ h => absurd h List.not_mem_nil⟩⟩⟩⟩⟩⟩⟩⟩⟩⟩⟩⟩⟩⟩⟩⟩
theorem zm_o1 : ∀ x ∈ [zr_16, zr_17, zr_18, zr_19, zr_20, zr_21, zr_22, zr_23, zr_24, zr_25, zr_26, zr_27, zr_28, zr_29, zr_30, zr_31], zmP x := List.forall_mem_cons.mpr ⟨⟨rfl, by decide, by decide, zd_34, fun h => by cases h⟩, List.forall_mem_cons.mpr ⟨⟨rfl, by decide, by decide, zd_2, fun h => by cases h⟩, List.forall_mem_cons.mpr ⟨⟨rfl, by decide, by decide, zd_8, fun h => by cases h⟩, List.forall_mem_cons.mpr ⟨⟨rfl, by decide, by decide, zd_4, fun h => by cases h⟩, List.forall_mem_cons.mpr ⟨⟨rfl, by decide, by decide, zd_10, fun h => by cases h⟩, List.forall_mem_cons.mpr ⟨⟨rfl, by decide, by decide, zd_15, fun h => by cases h⟩, List.forall_mem_cons.mpr ⟨⟨rfl, by decide, by decide, zd_39, fun h => by cases h⟩, List.forall_mem_cons.mpr ⟨⟨rfl, by decide, by decide, zd_39, fun h => by cases h⟩, List.forall_mem_cons.mpr ⟨⟨rfl, by decide, by decide, zd_39, fun h => by cases h⟩, List.forall_mem_cons.mpr ⟨⟨rfl, by decide, by decide, zd_10, fun h => by cases h⟩, List.forall_mem_cons.mpr ⟨⟨rfl, by decide, by decide, zd_4, fun h => by cases h⟩, List.forall_mem_cons.mpr ⟨⟨rfl, by decide, by decide, zd_4, fun h => by cases h⟩, List.forall_mem_cons.mpr ⟨⟨rfl, by decide, by decide, zd_15, fun h => by cases h⟩, List.forall_mem_cons.mpr ⟨⟨rfl, by decide, by decide, zd_16, fun h => by cases h⟩, List.forall_mem_cons.mpr ⟨⟨rfl, by decide, by decide, zd_4, fun h => by cases h⟩, List.forall_mem_cons.mpr ⟨⟨rfl, by decide, by decide, zd_4, fun h => by cases h⟩, fun _ h => absurd h List.not_mem_nil⟩⟩⟩⟩⟩⟩⟩⟩⟩⟩⟩⟩⟩⟩⟩⟩
theorem zm_o2 : ∀ x ∈ [zr_32, zr_33, zr_34, zr_35, zr_36, zr_37, zr_38, zr_39, zr_40, zr_41, zr_42, zr_43, zr_44, zr_45, zr_46, zr_47], zmP x := List.forall_mem_cons.mpr ⟨⟨rfl, by decide, by decide, zd_25, fun h => by cases h⟩, List.forall_mem_cons.mpr ⟨⟨rfl, by decide, by decide, zd_13, fun h => by cases h⟩, List.forall_mem_cons.mpr ⟨⟨rfl, by decide, by decide, zd_38, fun h => by cases h⟩, List.forall_mem_cons.mpr ⟨⟨rfl, by decide, by decide, zd_31, fun h => by cases h⟩, List.forall_mem_cons.mpr ⟨⟨rfl, by decide, by decide, zd_29, fun h => by cases h⟩, List.forall_mem_cons.mpr ⟨⟨rfl, by decide, by decide, zd_4, fun h => by cases h⟩, List.forall_mem_cons.mpr ⟨⟨rfl, by decide, by decide, zd_4, fun h => by cases h⟩, List.forall_mem_cons.mpr ⟨⟨rfl, by decide, by decide, zd_0, fun h => by cases h⟩, List.forall_mem_cons.mpr ⟨⟨rfl, by decide, by decide, zd_10, fun h => by cases h⟩, List.forall_mem_cons.mpr ⟨⟨rfl, by decide, by decide, zd_4, fun h => by cases h⟩, List.forall_mem_cons.mpr ⟨⟨rfl, by decide, by decide, zd_35, fun h => by cases h⟩, List.forall_mem_cons.mpr ⟨⟨rfl, by decide, by decide, zd_13, fun h => by cases h⟩, List.forall_mem_cons.mpr ⟨⟨rfl, by decide, by decide, zd_2, fun h => by cases h⟩, List.forall_mem_cons.mpr ⟨⟨rfl, by decide, by decide, zd_10, fun h => by cases h⟩, List.forall_mem_cons.mpr ⟨⟨rfl, by decide, by decide, zd_9, fun h => by cases h⟩, List.forall_mem_cons.mpr ⟨⟨rfl, by decide, by decide, zd_2, fun _ => ⟨rfl, rfl⟩⟩, fun _ h => absurd h List.not_mem_nil⟩⟩⟩⟩⟩⟩⟩⟩⟩⟩⟩⟩⟩⟩⟩⟩
theorem zm_o3 : ∀ x ∈ [zr_48, zr_49, zr_0, zr_0, zr_0, zr_0, zr_0, zr_0, zr_0, zr_57, zr_58, zr_59, zr_60, zr_61, zr_62, zr_63], zmP x := List.forall_mem_cons.mpr ⟨⟨rfl, by decide, by decide, zd_15, fun h => by cases h⟩, List.forall_mem_cons.mpr ⟨⟨rfl, by decide, by decide, zd_2, fun _ => ⟨rfl, rfl⟩⟩, List.forall_mem_cons.mpr ⟨⟨rfl, by decide, by decide, zd_2, fun _ => ⟨rfl, rfl⟩⟩, List.forall_mem_cons.mpr ⟨⟨rfl, by decide, by decide, zd_2, fun _ => ⟨rfl, rfl⟩⟩, List.forall_mem_cons.mpr ⟨⟨rfl, by decide, by decide, zd_2, fun _ => ⟨rfl, rfl⟩⟩, List.forall_mem_cons.mpr ⟨⟨rfl, by decide, by decide, zd_2, fun _ => ⟨rfl, rfl⟩⟩, List.forall_mem_cons.mpr ⟨⟨rfl, by decide, by decide, zd_2, fun _ => ⟨rfl, rfl⟩⟩, List.forall_mem_cons.mpr ⟨⟨rfl, by decide, by decide, zd_2, fun _ => ⟨rfl, rfl⟩⟩, List.forall_mem_cons.mpr ⟨⟨rfl, by decide, by decide, zd_2, fun _ => ⟨rfl, rfl⟩⟩, List.forall_mem_cons.mpr ⟨⟨rfl, by decide, by decide, zd_2, fun _ => ⟨rfl, rfl⟩⟩, List.forall_mem_cons.mpr ⟨⟨rfl, by decide, by decide, zd_54, fun h => by cases h⟩, List.forall_mem_cons.mpr ⟨⟨rfl, by decide, by decide, zd_56, fun h => by cases h⟩, List.forall_mem_cons.mpr ⟨⟨rfl, by decide, by decide, zd_54, fun h => by cases h⟩, List.forall_mem_cons.mpr ⟨⟨rfl, by decide, by decide, zd_2, fun _ => ⟨rfl, rfl⟩⟩, List.forall_mem_cons.mpr ⟨⟨rfl, by decide, by decide, zd_4, fun h => by cases h⟩, List.forall_mem_cons.mpr ⟨⟨rfl, by decide, by decide, zd_2, fun _ => ⟨rfl, rfl⟩⟩, fun _ h => absurd h List.not_mem_nil⟩⟩⟩⟩⟩⟩⟩⟩⟩⟩⟩⟩⟩⟩⟩⟩
theorem zm_o4 : ∀ x ∈ [zr_0, zr_0, zr_0, zr_0, zr_0, zr_0, zr_0, zr_0, zr_0, zr_0, zr_0, zr_75, zr_76, zr_77, zr_78, zr_79], zmP x := List.forall_mem_cons.mpr ⟨⟨rfl, by decide, by decide, zd_2, fun _ => ⟨rfl, rfl⟩⟩, List.forall_mem_cons.mpr ⟨⟨rfl, by decide, by decide, zd_2, fun _ => ⟨rfl, rfl⟩⟩, List.forall_mem_cons.mpr ⟨⟨rfl, by decide, by decide, zd_2, fun _ => ⟨rfl, rfl⟩⟩, List.forall_mem_cons.mpr ⟨⟨rfl, by decide, by decide, zd_2, fun _ => ⟨rfl, rfl⟩⟩, List.forall_mem_cons.mpr ⟨⟨rfl, by decide, by decide, zd_2, fun _ => ⟨rfl, rfl⟩⟩, List.forall_mem_cons.mpr ⟨⟨rfl, by decide, by decide, zd_2, fun _ => ⟨rfl, rfl⟩⟩, List.forall_mem_cons.mpr ⟨⟨rfl, by decide, by decide, zd_2, fun _ => ⟨rfl, rfl⟩⟩, List.forall_mem_cons.mpr ⟨⟨rfl, by decide, by decide, zd_2, fun _ => ⟨rfl, rfl⟩⟩, List.forall_mem_cons.mpr ⟨⟨rfl, by decide, by decide, zd_2, fun _ => ⟨rfl, rfl⟩⟩, List.forall_mem_cons.mpr ⟨⟨rfl, by decide, by decide, zd_2, fun _ => ⟨rfl, rfl⟩⟩, List.forall_mem_cons.mpr ⟨⟨rfl, by decide, by decide, zd_2, fun _ => ⟨rfl, rfl⟩⟩, List.forall_mem_cons.mpr ⟨⟨rfl, by decide, by decide, zd_2, fun _ => ⟨rfl, rfl⟩⟩, List.forall_mem_cons.mpr ⟨⟨rfl, by decide, by decide, zd_2, fun h => by cases h⟩, List.forall_mem_cons.mpr ⟨⟨rfl, by decide, by decide, zd_11, fun h => by cases h⟩, List.forall_mem_cons.mpr ⟨⟨rfl, by decide, by decide, zd_3, fun h => by cases h⟩, List.forall_mem_cons.mpr ⟨⟨rfl, by decide, by decide, zd_4, fun h => by cases h⟩, fun _ h => absurd h List.not_mem_nil⟩⟩⟩⟩⟩⟩⟩⟩⟩⟩⟩⟩⟩⟩⟩⟩
theorem zm_o5 : ∀ x ∈ [zr_80, zr_81, zr_82, zr_83, zr_84, zr_85, zr_86, zr_87, zr_88, zr_89, zr_90, zr_91, zr_92, zr_93, zr_94, zr_95], zmP x := List.forall_mem_cons.mpr ⟨⟨rfl, by decide, by decide, zd_4, fun h => by cases h⟩, List.forall_mem_cons.mpr ⟨⟨rfl, by decide, by decide, zd_4, fun h => by cases h⟩, List.forall_mem_cons.mpr ⟨⟨rfl, by decide, by decide, zd_12, fun h => by cases h⟩, List.forall_mem_cons.mpr ⟨⟨rfl, by decide, by decide, zd_4, fun h => by cases h⟩, List.forall_mem_cons.mpr ⟨⟨rfl, by decide, by decide, zd_36, fun h => by cases h⟩, List.forall_mem_cons.mpr ⟨⟨rfl, by decide, by decide, zd_18, fun h => by cases h⟩, List.forall_mem_cons.mpr ⟨⟨rfl, by decide, by decide, zd_15, fun h => by cases h⟩, List.forall_mem_cons.mpr ⟨⟨rfl, by decide, by decide, zd_12, fun h => by cases h⟩, List.forall_mem_cons.mpr ⟨⟨rfl, by decide, by decide, zd_12, fun h => by cases h⟩, List.forall_mem_cons.mpr ⟨⟨rfl, by decide, by decide, zd_10, fun h => by cases h⟩, List.forall_mem_cons.mpr ⟨⟨rfl, by decide, by decide, zd_2, fun _ => ⟨rfl, rfl⟩⟩, List.forall_mem_cons.mpr ⟨⟨rfl, by decide, by decide, zd_4, fun h => by cases h⟩, List.forall_mem_cons.mpr ⟨⟨rfl, by decide, by decide, zd_9, fun h => by cases h⟩, List.forall_mem_cons.mpr ⟨⟨rfl, by decide, by decide, zd_11, fun h => by cases h⟩, List.forall_mem_cons.mpr ⟨⟨rfl, by decide, by decide, zd_2, fun h => by cases h⟩, List.forall_mem_cons.mpr ⟨⟨rfl, by decide, by decide, zd_2, fun h => by cases h⟩, fun _ h => absurd h List.not_mem_nil⟩⟩⟩⟩⟩⟩⟩⟩⟩⟩⟩⟩⟩⟩⟩⟩
theorem zm_o6 : ∀ x ∈ [zr_96, zr_97, zr_98, zr_99, zr_100, zr_101, zr_102, zr_103, zr_104, zr_105, zr_106, zr_107, zr_108, zr_109, zr_110, zr_111], zmP x := List.forall_mem_cons.mpr ⟨⟨rfl, by decide, by decide, zd_12, fun h => by cases h⟩, List.forall_mem_cons.mpr ⟨⟨rfl, by decide, by decide, zd_11, fun h => by cases h⟩, List.forall_mem_cons.mpr ⟨⟨rfl, by decide, by decide, zd_2, fun h => by cases h⟩, List.forall_mem_cons.mpr ⟨⟨rfl, by decide, by decide, zd_53, fun h => by cases h⟩, List.forall_mem_cons.mpr ⟨⟨rfl, by decide, by decide, zd_8, fun h => by cases h⟩, List.forall_mem_cons.mpr ⟨⟨rfl, by decide, by decide, zd_24, fun h => by cases h⟩, List.forall_mem_cons.mpr ⟨⟨rfl, by decide, by decide, zd_4, fun h => by cases h⟩, List.forall_mem_cons.mpr ⟨⟨rfl, by decide, by decide, zd_12, fun h => by cases h⟩, List.forall_mem_cons.mpr ⟨⟨rfl, by decide, by decide, zd_2, fun _ => ⟨rfl, rfl⟩⟩, List.forall_mem_cons.mpr ⟨⟨rfl, by decide, by decide, zd_41, fun h => by cases h⟩, List.forall_mem_cons.mpr ⟨⟨rfl, by decide, by decide, zd_40, fun h => by cases h⟩, List.forall_mem_cons.mpr ⟨⟨rfl, by decide, by decide, zd_37, fun h => by cases h⟩, List.forall_mem_cons.mpr ⟨⟨rfl, by decide, by decide, zd_2, fun h => by cases h⟩, List.forall_mem_cons.mpr ⟨⟨rfl, by decide, by decide, zd_11, fun h => by cases h⟩, List.forall_mem_cons.mpr ⟨⟨rfl, by decide, by decide, zd_24, fun h => by cases h⟩, List.forall_mem_cons.mpr ⟨⟨rfl, by decide, by decide, zd_28, fun h => by cases h⟩, fun _ h => absurd h List.not_mem_nil⟩⟩⟩⟩⟩⟩⟩⟩⟩⟩⟩⟩⟩⟩⟩⟩
theorem zm_o7 : ∀ x ∈ [zr_112, zr_113, zr_0, zr_0, zr_0, zr_0, zr_0, zr_0, zr_120, zr_0, zr_122, zr_123, zr_0, zr_0, zr_126, zr_127], zmP x := List.forall_mem_cons.mpr ⟨⟨rfl, by decide, by decide, zd_22, fun h => by cases h⟩, List.forall_mem_cons.mpr ⟨⟨rfl, by decide, by decide, zd_8, fun _ => ⟨rfl, rfl⟩⟩, List.forall_mem_cons.mpr ⟨⟨rfl, by decide, by decide, zd_2, fun _ => ⟨rfl, rfl⟩⟩, List.forall_mem_cons.mpr ⟨⟨rfl, by decide, by decide, zd_2, fun _ => ⟨rfl, rfl⟩⟩, List.forall_mem_cons.mpr ⟨⟨rfl, by decide, by decide, zd_2, fun _ => ⟨rfl, rfl⟩⟩, List.forall_mem_cons.mpr ⟨⟨rfl, by decide, by decide, zd_2, fun _ => ⟨rfl, rfl⟩⟩, List.forall_mem_cons.mpr ⟨⟨rfl, by decide, by decide, zd_2, fun _ => ⟨rfl, rfl⟩⟩, List.forall_mem_cons.mpr ⟨⟨rfl, by decide, by decide, zd_2, fun _ => ⟨rfl, rfl⟩⟩, List.forall_mem_cons.mpr ⟨⟨rfl, by decide, by decide, zd_2, fun _ => ⟨rfl, rfl⟩⟩, List.forall_mem_cons.mpr ⟨⟨rfl, by decide, by decide, zd_2, fun _ => ⟨rfl, rfl⟩⟩, List.forall_mem_cons.mpr ⟨⟨rfl, by decide, by decide, zd_1, fun h => by cases h⟩, List.forall_mem_cons.mpr ⟨⟨rfl, by decide, by decide, zd_0, fun h => by cases h⟩, List.forall_mem_cons.mpr ⟨⟨rfl, by decide, by decide, zd_2, fun _ => ⟨rfl, rfl⟩⟩, List.forall_mem_cons.mpr ⟨⟨rfl, by decide, by decide, zd_2, fun _ => ⟨rfl, rfl⟩⟩, List.forall_mem_cons.mpr ⟨⟨rfl, by decide, by decide, zd_3, fun h => by cases h⟩, List.forall_mem_cons.mpr ⟨⟨rfl, by decide, by decide, zd_9, fun h => by cases h⟩, fun _ h => absurd h List.not_mem_nil⟩⟩⟩⟩⟩⟩⟩⟩⟩⟩⟩⟩⟩⟩⟩⟩
theorem zm_o8 : ∀ x ∈ [zr_128, zr_0, zr_0, zr_131, zr_132, zr_0, zr_134, zr_0, zr_136, zr_137, zr_138, zr_0, zr_0, zr_0, zr_0, zr_143], zmP x := List.forall_mem_cons.mpr ⟨⟨rfl, by decide, by decide, zd_3, fun h => by cases h⟩, List.forall_mem_cons.mpr ⟨⟨rfl, by decide, by decide, zd_2, fun _ => ⟨rfl, rfl⟩⟩, List.forall_mem_cons.mpr ⟨⟨rfl, by decide, by decide, zd_2, fun _ => ⟨rfl, rfl⟩⟩, List.forall_mem_cons.mpr ⟨⟨rfl, by decide, by decide, zd_8, fun h => by cases h⟩, List.forall_mem_cons.mpr ⟨⟨rfl, by decide, by decide, zd_8, fun h => by cases h⟩, List.forall_mem_cons.mpr ⟨⟨rfl, by decide, by decide, zd_2, fun _ => ⟨rfl, rfl⟩⟩, List.forall_mem_cons.mpr ⟨⟨rfl, by decide, by decide, zd_15, fun h => by cases h⟩, List.forall_mem_cons.mpr ⟨⟨rfl, by decide, by decide, zd_2, fun _ => ⟨rfl, rfl⟩⟩, List.forall_mem_cons.mpr ⟨⟨rfl, by decide, by decide, zd_14, fun h => by cases h⟩, List.forall_mem_cons.mpr ⟨⟨rfl, by decide, by decide, zd_14, fun h => by cases h⟩, List.forall_mem_cons.mpr ⟨⟨rfl, by decide, by decide, zd_34, fun h => by cases h⟩, List.forall_mem_cons.mpr ⟨⟨rfl, by decide, by decide, zd_2, fun _ => ⟨rfl, rfl⟩⟩, List.forall_mem_cons.mpr ⟨⟨rfl, by decide, by decide, zd_2, fun _ => ⟨rfl, rfl⟩⟩, List.forall_mem_cons.mpr ⟨⟨rfl, by decide, by decide, zd_2, fun _ => ⟨rfl, rfl⟩⟩, List.forall_mem_cons.mpr ⟨⟨rfl, by decide, by decide, zd_2, fun _ => ⟨rfl, rfl⟩⟩, List.forall_mem_cons.mpr ⟨⟨rfl, by decide, by decide, zd_13, fun h => by cases h⟩, fun _ h => absurd h List.not_mem_nil⟩⟩⟩⟩⟩⟩⟩⟩⟩⟩⟩⟩⟩⟩⟩⟩
theorem zm_o9 : ∀ x ∈ [zr_144, zr_0, zr_146, zr_147, zr_0, zr_0, zr_0, zr_0, zr_152, zr_153, zr_0, zr_155, zr_0, zr_157, zr_0, zr_0], zmP x := List.forall_mem_cons.mpr ⟨⟨rfl, by decide, by decide, zd_6, fun h => by cases h⟩, List.forall_mem_cons.mpr ⟨⟨rfl, by decide, by decide, zd_2, fun _ => ⟨rfl, rfl⟩⟩, List.forall_mem_cons.mpr ⟨⟨rfl, by decide, by decide, zd_7, fun h => by cases h⟩, List.forall_mem_cons.mpr ⟨⟨rfl, by decide, by decide, zd_20, fun h => by cases h⟩, List.forall_mem_cons.mpr ⟨⟨rfl, by decide, by decide, zd_2, fun _ => ⟨rfl, rfl⟩⟩, List.forall_mem_cons.mpr ⟨⟨rfl, by decide, by decide, zd_2, fun _ => ⟨rfl, rfl⟩⟩, List.forall_mem_cons.mpr ⟨⟨rfl, by decide, by decide, zd_2, fun _ => ⟨rfl, rfl⟩⟩, List.forall_mem_cons.mpr ⟨⟨rfl, by decide, by decide, zd_2, fun _ => ⟨rfl, rfl⟩⟩, List.forall_mem_cons.mpr ⟨⟨rfl, by decide, by decide, zd_13, fun h => by cases h⟩, List.forall_mem_cons.mpr ⟨⟨rfl, by decide, by decide, zd_13, fun h => by cases h⟩, List.forall_mem_cons.mpr ⟨⟨rfl, by decide, by decide, zd_2, fun _ => ⟨rfl, rfl⟩⟩, List.forall_mem_cons.mpr ⟨⟨rfl, by decide, by decide, zd_17, fun h => by cases h⟩, List.forall_mem_cons.mpr ⟨⟨rfl, by decide, by decide, zd_2, fun _ => ⟨rfl, rfl⟩⟩, List.forall_mem_cons.mpr ⟨⟨rfl, by decide, by decide, zd_13, fun h => by cases h⟩, List.forall_mem_cons.mpr ⟨⟨rfl, by decide, by decide, zd_2, fun _ => ⟨rfl, rfl⟩⟩, List.forall_mem_cons.mpr ⟨⟨rfl, by decide, by decide, zd_2, fun _ => ⟨rfl, rfl⟩⟩, fun _ h => absurd h List.not_mem_nil⟩⟩⟩⟩⟩⟩⟩⟩⟩⟩⟩⟩⟩⟩⟩⟩
theorem zm_o10 : ∀ x ∈ [zr_0, zr_161, zr_162, zr_163, zr_164, zr_165, zr_166, zr_167, zr_168, zr_0, zr_0, zr_0, zr_172, zr_173, zr_174, zr_0], zmP x := List.forall_mem_cons.mpr ⟨⟨rfl, by decide, by decide, zd_2, fun _ => ⟨rfl, rfl⟩⟩, List.forall_mem_cons.mpr ⟨⟨rfl, by decide, by decide, zd_27, fun h => by cases h⟩, List.forall_mem_cons.mpr ⟨⟨rfl, by decide, by decide, zd_10, fun h => by cases h⟩, List.forall_mem_cons.mpr ⟨⟨rfl, by decide, by decide, zd_17, fun h => by cases h⟩, List.forall_mem_cons.mpr ⟨⟨rfl, by decide, by decide, zd_4, fun h => by cases h⟩, List.forall_mem_cons.mpr ⟨⟨rfl, by decide, by decide, zd_4, fun h => by cases h⟩, List.forall_mem_cons.mpr ⟨⟨rfl, by decide, by decide, zd_2, fun h => by cases h⟩, List.forall_mem_cons.mpr ⟨⟨rfl, by decide, by decide, zd_4, fun h => by cases h⟩, List.forall_mem_cons.mpr ⟨⟨rfl, by decide, by decide, zd_10, fun h => by cases h⟩, List.forall_mem_cons.mpr ⟨⟨rfl, by decide, by decide, zd_2, fun _ => ⟨rfl, rfl⟩⟩, List.forall_mem_cons.mpr ⟨⟨rfl, by decide, by decide, zd_2, fun _ => ⟨rfl, rfl⟩⟩, List.forall_mem_cons.mpr ⟨⟨rfl, by decide, by decide, zd_2, fun _ => ⟨rfl, rfl⟩⟩, List.forall_mem_cons.mpr ⟨⟨rfl, by decide, by decide, zd_16, fun h => by cases h⟩, List.forall_mem_cons.mpr ⟨⟨rfl, by decide, by decide, zd_11, fun h => by cases h⟩, List.forall_mem_cons.mpr ⟨⟨rfl, by decide, by decide, zd_10, fun h => by cases h⟩, List.forall_mem_cons.mpr ⟨⟨rfl, by decide, by decide, zd_2, fun _ => ⟨rfl, rfl⟩⟩, fun _ h => absurd h List.not_mem_nil⟩⟩⟩⟩⟩⟩⟩⟩⟩⟩⟩⟩⟩⟩⟩⟩
theorem zm_o11 : ∀ x ∈ [zr_0, zr_177, zr_178, zr_0, zr_0, zr_0, zr_0, zr_0, zr_0, zr_0, zr_0, zr_0, zr_0, zr_0, zr_0, zr_191], zmP x := List.forall_mem_cons.mpr ⟨⟨rfl, by decide, by decide, zd_2, fun _ => ⟨rfl, rfl⟩⟩, List.forall_mem_cons.mpr ⟨⟨rfl, by decide, by decide, zd_25, fun h => by cases h⟩, List.forall_mem_cons.mpr ⟨⟨rfl, by decide, by decide, zd_21, fun h => by cases h⟩, List.forall_mem_cons.mpr ⟨⟨rfl, by decide, by decide, zd_2, fun _ => ⟨rfl, rfl⟩⟩, List.forall_mem_cons.mpr ⟨⟨rfl, by decide, by decide, zd_2, fun _ => ⟨rfl, rfl⟩⟩, List.forall_mem_cons.mpr ⟨⟨rfl, by decide, by decide, zd_2, fun _ => ⟨rfl, rfl⟩⟩, List.forall_mem_cons.mpr ⟨⟨rfl, by decide, by decide, zd_2, fun _ => ⟨rfl, rfl⟩⟩, List.forall_mem_cons.mpr ⟨⟨rfl, by decide, by decide, zd_2, fun _ => ⟨rfl, rfl⟩⟩, List.forall_mem_cons.mpr ⟨⟨rfl, by decide, by decide, zd_2, fun _ => ⟨rfl, rfl⟩⟩, List.forall_mem_cons.mpr ⟨⟨rfl, by decide, by decide, zd_2, fun _ => ⟨rfl, rfl⟩⟩, List.forall_mem_cons.mpr ⟨⟨rfl, by decide, by decide, zd_2, fun _ => ⟨rfl, rfl⟩⟩, List.forall_mem_cons.mpr ⟨⟨rfl, by decide, by decide, zd_2, fun _ => ⟨rfl, rfl⟩⟩, List.forall_mem_cons.mpr ⟨⟨rfl, by decide, by decide, zd_2, fun _ => ⟨rfl, rfl⟩⟩, List.forall_mem_cons.mpr ⟨⟨rfl, by decide, by decide, zd_2, fun _ => ⟨rfl, rfl⟩⟩, List.forall_mem_cons.mpr ⟨⟨rfl, by decide, by decide, zd_2, fun _ => ⟨rfl, rfl⟩⟩, List.forall_mem_cons.mpr ⟨⟨rfl, by decide, by decide, zd_2, fun h => by cases h⟩, fun _ h => absurd h List.not_mem_nil⟩⟩⟩⟩⟩⟩⟩⟩⟩⟩⟩⟩⟩⟩⟩⟩
theorem zm_o12 : ∀ x ∈ [zr_192, zr_193, zr_194, zr_195, zr_196, zr_197, zr_198, zr_199, zr_200, zr_201, zr_202, zr_203, zr_204, zr_205, zr_206, zr_207], zmP x := List.forall_mem_cons.mpr ⟨⟨rfl, by decide, by decide, zd_9, fun h => by cases h⟩, List.forall_mem_cons.mpr ⟨⟨rfl, by decide, by decide, zd_8, fun h => by cases h⟩, List.forall_mem_cons.mpr ⟨⟨rfl, by decide, by decide, zd_13, fun h => by cases h⟩, List.forall_mem_cons.mpr ⟨⟨rfl, by decide, by decide, zd_15, fun h => by cases h⟩, List.forall_mem_cons.mpr ⟨⟨rfl, by decide, by decide, zd_8, fun h => by cases h⟩, List.forall_mem_cons.mpr ⟨⟨rfl, by decide, by decide, zd_10, fun h => by cases h⟩, List.forall_mem_cons.mpr ⟨⟨rfl, by decide, by decide, zd_30, fun h => by cases h⟩, List.forall_mem_cons.mpr ⟨⟨rfl, by decide, by decide, zd_9, fun h => by cases h⟩, List.forall_mem_cons.mpr ⟨⟨rfl, by decide, by decide, zd_16, fun h => by cases h⟩, List.forall_mem_cons.mpr ⟨⟨rfl, by decide, by decide, zd_23, fun h => by cases h⟩, List.forall_mem_cons.mpr ⟨⟨rfl, by decide, by decide, zd_4, fun h => by cases h⟩, List.forall_mem_cons.mpr ⟨⟨rfl, by decide, by decide, zd_12, fun h => by cases h⟩, List.forall_mem_cons.mpr ⟨⟨rfl, by decide, by decide, zd_55, fun h => by cases h⟩, List.forall_mem_cons.mpr ⟨⟨rfl, by decide, by decide, zd_55, fun h => by cases h⟩, List.forall_mem_cons.mpr ⟨⟨rfl, by decide, by decide, zd_19, fun h => by cases h⟩, List.forall_mem_cons.mpr ⟨⟨rfl, by decide, by decide, zd_28, fun h => by cases h⟩, fun _ h => absurd h List.not_mem_nil⟩⟩⟩⟩⟩⟩⟩⟩⟩⟩⟩⟩⟩⟩⟩⟩
theorem zm_o13 : ∀ x ∈ [zr_208, zr_209, zr_210, zr_211, zr_212, zr_213, zr_214, zr_215, zr_216, zr_217, zr_218, zr_219, zr_220, zr_221, zr_222, zr_223], zmP x := List.forall_mem_cons.mpr ⟨⟨rfl, by decide, by decide, zd_16, fun h => by cases h⟩, List.forall_mem_cons.mpr ⟨⟨rfl, by decide, by decide, zd_4, fun h => by cases h⟩, List.forall_mem_cons.mpr ⟨⟨rfl, by decide, by decide, zd_4, fun h => by cases h⟩, List.forall_mem_cons.mpr ⟨⟨rfl, by decide, by decide, zd_26, fun h => by cases h⟩, List.forall_mem_cons.mpr ⟨⟨rfl, by decide, by decide, zd_5, fun h => by cases h⟩, List.forall_mem_cons.mpr ⟨⟨rfl, by decide, by decide, zd_32, fun h => by cases h⟩, List.forall_mem_cons.mpr ⟨⟨rfl, by decide, by decide, zd_33, fun h => by cases h⟩, List.forall_mem_cons.mpr ⟨⟨rfl, by decide, by decide, zd_3, fun h => by cases h⟩, List.forall_mem_cons.mpr ⟨⟨rfl, by decide, by decide, zd_10, fun h => by cases h⟩, List.forall_mem_cons.mpr ⟨⟨rfl, by decide, by decide, zd_15, fun h => by cases h⟩, List.forall_mem_cons.mpr ⟨⟨rfl, by decide, by decide, zd_11, fun h => by cases h⟩, List.forall_mem_cons.mpr ⟨⟨rfl, by decide, by decide, zd_10, fun h => by cases h⟩, List.forall_mem_cons.mpr ⟨⟨rfl, by decide, by decide, zd_4, fun h => by cases h⟩, List.forall_mem_cons.mpr ⟨⟨rfl, by decide, by decide, zd_2, fun h => by cases h⟩, List.forall_mem_cons.mpr ⟨⟨rfl, by decide, by decide, zd_12, fun h => by cases h⟩, List.forall_mem_cons.mpr ⟨⟨rfl, by decide, by decide, zd_15, fun h => by cases h⟩, fun _ h => absurd h List.not_mem_nil⟩⟩⟩⟩⟩⟩⟩⟩⟩⟩⟩⟩⟩⟩⟩⟩
theorem zm_o14 : ∀ x ∈ [zr_224, zr_225, zr_226, zr_227, zr_228, zr_229, zr_230, zr_231, zr_232, zr_233, zr_234, zr_235, zr_236, zr_237, zr_238, zr_239], zmP x := List.forall_mem_cons.mpr ⟨⟨rfl, by decide, by decide, zd_16, fun h => by cases h⟩, List.forall_mem_cons.mpr ⟨⟨rfl, by decide, by decide, zd_4, fun h => by cases h⟩, List.forall_mem_cons.mpr ⟨⟨rfl, by decide, by decide, zd_16, fun h => by cases h⟩, List.forall_mem_cons.mpr ⟨⟨rfl, by decide, by decide, zd_10, fun h => by cases h⟩, List.forall_mem_cons.mpr ⟨⟨rfl, by decide, by decide, zd_4, fun h => by cases h⟩, List.forall_mem_cons.mpr ⟨⟨rfl, by decide, by decide, zd_9, fun h => by cases h⟩, List.forall_mem_cons.mpr ⟨⟨rfl, by decide, by decide, zd_4, fun h => by cases h⟩, List.forall_mem_cons.mpr ⟨⟨rfl, by decide, by decide, zd_29, fun h => by cases h⟩, List.forall_mem_cons.mpr ⟨⟨rfl, by decide, by decide, zd_29, fun h => by cases h⟩, List.forall_mem_cons.mpr ⟨⟨rfl, by decide, by decide, zd_30, fun h => by cases h⟩, List.forall_mem_cons.mpr ⟨⟨rfl, by decide, by decide, zd_31, fun h => by cases h⟩, List.forall_mem_cons.mpr ⟨⟨rfl, by decide, by decide, zd_56, fun h => by cases h⟩, List.forall_mem_cons.mpr ⟨⟨rfl, by decide, by decide, zd_4, fun h => by cases h⟩, List.forall_mem_cons.mpr ⟨⟨rfl, by decide, by decide, zd_16, fun h => by cases h⟩, List.forall_mem_cons.mpr ⟨⟨rfl, by decide, by decide, zd_12, fun h => by cases h⟩, List.forall_mem_cons.mpr ⟨⟨rfl, by decide, by decide, zd_9, fun h => by cases h⟩, fun _ h => absurd h List.not_mem_nil⟩⟩⟩⟩⟩⟩⟩⟩⟩⟩⟩⟩⟩⟩⟩⟩
theorem zm_o15 : ∀ x ∈ [zr_240, zr_241, zr_0, zr_0, zr_0, zr_0, zr_0, zr_0, zr_0, zr_0, zr_0, zr_0, zr_0, zr_0, zr_0, zr_0], zmP x := List.forall_mem_cons.mpr ⟨⟨rfl, by decide, by decide, zd_8, fun h => by cases h⟩, List.forall_mem_cons.mpr ⟨⟨rfl, by decide, by decide, zd_16, fun h => by cases h⟩, List.forall_mem_cons.mpr ⟨⟨rfl, by decide, by decide, zd_2, fun _ => ⟨rfl, rfl⟩⟩, List.forall_mem_cons.mpr ⟨⟨rfl, by decide, by decide, zd_2, fun _ => ⟨rfl, rfl⟩⟩, List.forall_mem_cons.mpr ⟨⟨rfl, by decide, by decide, zd_2, fun _ => ⟨rfl, rfl⟩⟩, List.forall_mem_cons.mpr ⟨⟨rfl, by decide, by decide, zd_2, fun _ => ⟨rfl, rfl⟩⟩, List.forall_mem_cons.mpr ⟨⟨rfl, by decide, by decide, zd_2, fun _ => ⟨rfl, rfl⟩⟩, List.forall_mem_cons.mpr ⟨⟨rfl, by decide, by decide, zd_2, fun _ => ⟨rfl, rfl⟩⟩, List.forall_mem_cons.mpr ⟨⟨rfl, by decide, by decide, zd_2, fun _ => ⟨rfl, rfl⟩⟩, List.forall_mem_cons.mpr ⟨⟨rfl, by decide, by decide, zd_2, fun _ => ⟨rfl, rfl⟩⟩, List.forall_mem_cons.mpr ⟨⟨rfl, by decide, by decide, zd_2, fun _ => ⟨rfl, rfl⟩⟩, List.forall_mem_cons.mpr ⟨⟨rfl, by decide, by decide, zd_2, fun _ => ⟨rfl, rfl⟩⟩, List.forall_mem_cons.mpr ⟨⟨rfl, by decide, by decide, zd_2, fun _ => ⟨rfl, rfl⟩⟩, List.forall_mem_cons.mpr ⟨⟨rfl, by decide, by decide, zd_2, fun _ => ⟨rfl, rfl⟩⟩, List.forall_mem_cons.mpr ⟨⟨rfl, by decide, by decide, zd_2, fun _ => ⟨rfl, rfl⟩⟩, List.forall_mem_cons.mpr ⟨⟨rfl, by decide, by decide, zd_2, fun _ => ⟨rfl, rfl⟩⟩, fun _ h => absurd h List.not_mem_nil⟩⟩⟩⟩⟩⟩⟩⟩⟩⟩⟩⟩⟩⟩⟩⟩
theorem zm_o16 : ∀ x ∈ [zr_0, zr_0, zr_0, zr_0, zr_0, zr_0, zr_0, zr_0, zr_0, zr_0, zr_0, zr_0, zr_0, zr_0, zr_0, zr_0], zmP x := List.forall_mem_cons.mpr ⟨⟨rfl, by decide, by decide, zd_2, fun _ => ⟨rfl, rfl⟩⟩, List.forall_mem_cons.mpr ⟨⟨rfl, by decide, by decide, zd_2, fun _ => ⟨rfl, rfl⟩⟩, List.forall_mem_cons.mpr ⟨⟨rfl, by decide, by decide, zd_2, fun _ => ⟨rfl, rfl⟩⟩, List.forall_mem_cons.mpr ⟨⟨rfl, by decide, by decide, zd_2, fun _ => ⟨rfl, rfl⟩⟩, List.forall_mem_cons.mpr ⟨⟨rfl, by decide, by decide, zd_2, fun _ => ⟨rfl, rfl⟩⟩, List.forall_mem_cons.mpr ⟨⟨rfl, by decide, by decide, zd_2, fun _ => ⟨rfl, rfl⟩⟩, List.forall_mem_cons.mpr ⟨⟨rfl, by decide, by decide, zd_2, fun _ => ⟨rfl, rfl⟩⟩, List.forall_mem_cons.mpr ⟨⟨rfl, by decide, by decide, zd_2, fun _ => ⟨rfl, rfl⟩⟩, List.forall_mem_cons.mpr ⟨⟨rfl, by decide, by decide, zd_2, fun _ => ⟨rfl, rfl⟩⟩, List.forall_mem_cons.mpr ⟨⟨rfl, by decide, by decide, zd_2, fun _ => ⟨rfl, rfl⟩⟩, List.forall_mem_cons.mpr ⟨⟨rfl, by decide, by decide, zd_2, fun _ => ⟨rfl, rfl⟩⟩, List.forall_mem_cons.mpr ⟨⟨rfl, by decide, by decide, zd_2, fun _ => ⟨rfl, rfl⟩⟩, List.forall_mem_cons.mpr ⟨⟨rfl, by decide, by decide, zd_2, fun _ => ⟨rfl, rfl⟩⟩, List.forall_mem_cons.mpr ⟨⟨rfl, by decide, by decide, zd_2, fun _ => ⟨rfl, rfl⟩⟩, List.forall_mem_cons.mpr ⟨⟨rfl, by decide, by decide, zd_2, fun _ => ⟨rfl, rfl⟩⟩, List.forall_mem_cons.mpr ⟨⟨rfl, by decide, by decide, zd_2, fun _ => ⟨rfl, rfl⟩⟩, fun _ h => absurd h List.not_mem_nil⟩⟩⟩⟩⟩⟩⟩⟩⟩⟩⟩⟩⟩⟩⟩⟩
theorem zm_o17 : ∀ x ∈ [zr_0, zr_0, zr_0, zr_0, zr_0, zr_0, zr_0, zr_0, zr_0, zr_0, zr_0, zr_0, zr_0, zr_0, zr_0, zr_0], zmP x := List.forall_mem_cons.mpr ⟨⟨rfl, by decide, by decide, zd_2, fun _ => ⟨rfl, rfl⟩⟩, List.forall_mem_cons.mpr ⟨⟨rfl, by decide, by decide, zd_2, fun _ => ⟨rfl, rfl⟩⟩, List.forall_mem_cons.mpr ⟨⟨rfl, by decide, by decide, zd_2, fun _ => ⟨rfl, rfl⟩⟩, List.forall_mem_cons.mpr ⟨⟨rfl, by decide, by decide, zd_2, fun _ => ⟨rfl, rfl⟩⟩, List.forall_mem_cons.mpr ⟨⟨rfl, by decide, by decide, zd_2, fun _ => ⟨rfl, rfl⟩⟩, List.forall_mem_cons.mpr ⟨⟨rfl, by decide, by decide, zd_2, fun _ => ⟨rfl, rfl⟩⟩, List.forall_mem_cons.mpr ⟨⟨rfl, by decide, by decide, zd_2, fun _ => ⟨rfl, rfl⟩⟩, List.forall_mem_cons.mpr ⟨⟨rfl, by decide, by decide, zd_2, fun _ => ⟨rfl, rfl⟩⟩, List.forall_mem_cons.mpr ⟨⟨rfl, by decide, by decide, zd_2, fun _ => ⟨rfl, rfl⟩⟩, List.forall_mem_cons.mpr ⟨⟨rfl, by decide, by decide, zd_2, fun _ => ⟨rfl, rfl⟩⟩, List.forall_mem_cons.mpr ⟨⟨rfl, by decide, by decide, zd_2, fun _ => ⟨rfl, rfl⟩⟩, List.forall_mem_cons.mpr ⟨⟨rfl, by decide, by decide, zd_2, fun _ => ⟨rfl, rfl⟩⟩, List.forall_mem_cons.mpr ⟨⟨rfl, by decide, by decide, zd_2, fun _ => ⟨rfl, rfl⟩⟩, List.forall_mem_cons.mpr ⟨⟨rfl, by decide, by decide, zd_2, fun _ => ⟨rfl, rfl⟩⟩, List.forall_mem_cons.mpr ⟨⟨rfl, by decide, by decide, zd_2, fun _ => ⟨rfl, rfl⟩⟩, List.forall_mem_cons.mpr ⟨⟨rfl, by decide, by decide, zd_2, fun _ => ⟨rfl, rfl⟩⟩, fun _ h => absurd h List.not_mem_nil⟩⟩⟩⟩⟩⟩⟩⟩⟩⟩⟩⟩⟩⟩⟩⟩
theorem zm_o18 : ∀ x ∈ [zr_0, zr_0, zr_0, zr_0, zr_0, zr_0, zr_0, zr_0, zr_0, zr_0, zr_0, zr_0, zr_0, zr_0, zr_0, zr_0], zmP x := List.forall_mem_cons.mpr ⟨⟨rfl, by decide, by decide, zd_2, fun _ => ⟨rfl, rfl⟩⟩, List.forall_mem_cons.mpr ⟨⟨rfl, by decide, by decide, zd_2, fun _ => ⟨rfl, rfl⟩⟩, List.forall_mem_cons.mpr ⟨⟨rfl, by decide, by decide, zd_2, fun _ => ⟨rfl, rfl⟩⟩, List.forall_mem_cons.mpr ⟨⟨rfl, by decide, by decide, zd_2, fun _ => ⟨rfl, rfl⟩⟩, List.forall_mem_cons.mpr ⟨⟨rfl, by decide, by decide, zd_2, fun _ => ⟨rfl, rfl⟩⟩, List.forall_mem_cons.mpr ⟨⟨rfl, by decide, by decide, zd_2, fun _ => ⟨rfl, rfl⟩⟩, List.forall_mem_cons.mpr ⟨⟨rfl, by decide, by decide, zd_2, fun _ => ⟨rfl, rfl⟩⟩, List.forall_mem_cons.mpr ⟨⟨rfl, by decide, by decide, zd_2, fun _ => ⟨rfl, rfl⟩⟩, List.forall_mem_cons.mpr ⟨⟨rfl, by decide, by decide, zd_2, fun _ => ⟨rfl, rfl⟩⟩, List.forall_mem_cons.mpr ⟨⟨rfl, by decide, by decide, zd_2, fun _ => ⟨rfl, rfl⟩⟩, List.forall_mem_cons.mpr ⟨⟨rfl, by decide, by decide, zd_2, fun _ => ⟨rfl, rfl⟩⟩, List.forall_mem_cons.mpr ⟨⟨rfl, by decide, by decide, zd_2, fun _ => ⟨rfl, rfl⟩⟩, List.forall_mem_cons.mpr ⟨⟨rfl, by decide, by decide, zd_2, fun _ => ⟨rfl, rfl⟩⟩, List.forall_mem_cons.mpr ⟨⟨rfl, by decide, by decide, zd_2, fun _ => ⟨rfl, rfl⟩⟩, List.forall_mem_cons.mpr ⟨⟨rfl, by decide, by decide, zd_2, fun _ => ⟨rfl, rfl⟩⟩, List.forall_mem_cons.mpr ⟨⟨rfl, by decide, by decide, zd_2, fun _ => ⟨rfl, rfl⟩⟩, fun _ h => absurd h List.not_mem_nil⟩⟩⟩⟩⟩⟩⟩⟩⟩⟩⟩⟩⟩⟩⟩⟩
theorem zm_o19 : ∀ x ∈ [zr_0, zr_0, zr_0, zr_0, zr_0, zr_0, zr_0, zr_0, zr_0, zr_0, zr_0, zr_0, zr_0, zr_0, zr_0, zr_0], zmP x := List.forall_mem_cons.mpr ⟨⟨rfl, by decide, by decide, zd_2, fun _ => ⟨rfl, rfl⟩⟩, List.forall_mem_cons.mpr ⟨⟨rfl, by decide, by decide, zd_2, fun _ => ⟨rfl, rfl⟩⟩, List.forall_mem_cons.mpr ⟨⟨rfl, by decide, by decide, zd_2, fun _ => ⟨rfl, rfl⟩⟩, List.forall_mem_cons.mpr ⟨⟨rfl, by decide, by decide, zd_2, fun _ => ⟨rfl, rfl⟩⟩, List.forall_mem_cons.mpr ⟨⟨rfl, by decide, by decide, zd_2, fun _ => ⟨rfl, rfl⟩⟩, List.forall_mem_cons.mpr ⟨⟨rfl, by decide, by decide, zd_2, fun _ => ⟨rfl, rfl⟩⟩, List.forall_mem_cons.mpr ⟨⟨rfl, by decide, by decide, zd_2, fun _ => ⟨rfl, rfl⟩⟩, List.forall_mem_cons.mpr ⟨⟨rfl, by decide, by decide, zd_2, fun _ => ⟨rfl, rfl⟩⟩, List.forall_mem_cons.mpr ⟨⟨rfl, by decide, by decide, zd_2, fun _ => ⟨rfl, rfl⟩⟩, List.forall_mem_cons.mpr ⟨⟨rfl, by decide, by decide, zd_2, fun _ => ⟨rfl, rfl⟩⟩, List.forall_mem_cons.mpr ⟨⟨rfl, by decide, by decide, zd_2, fun _ => ⟨rfl, rfl⟩⟩, List.forall_mem_cons.mpr ⟨⟨rfl, by decide, by decide, zd_2, fun _ => ⟨rfl, rfl⟩⟩, List.forall_mem_cons.mpr ⟨⟨rfl, by decide, by decide, zd_2, fun _ => ⟨rfl, rfl⟩⟩, List.forall_mem_cons.mpr ⟨⟨rfl, by decide, by decide, zd_2, fun _ => ⟨rfl, rfl⟩⟩, List.forall_mem_cons.mpr ⟨⟨rfl, by decide, by decide, zd_2, fun _ => ⟨rfl, rfl⟩⟩, List.forall_mem_cons.mpr ⟨⟨rfl, by decide, by decide, zd_2, fun _ => ⟨rfl, rfl⟩⟩, fun _ h => absurd h List.not_mem_nil⟩⟩⟩⟩⟩⟩⟩⟩⟩⟩⟩⟩⟩⟩⟩⟩
theorem zm_o20 : ∀ x ∈ [zr_0, zr_0, zr_0, zr_0, zr_0, zr_0, zr_0, zr_0, zr_0, zr_0, zr_0, zr_0, zr_0, zr_0, zr_0, zr_0], zmP x := List.forall_mem_cons.mpr ⟨⟨rfl, by decide, by decide, zd_2, fun _ => ⟨rfl, rfl⟩⟩, List.forall_mem_cons.mpr ⟨⟨rfl, by decide, by decide, zd_2, fun _ => ⟨rfl, rfl⟩⟩, List.forall_mem_cons.mpr ⟨⟨rfl, by decide, by decide, zd_2, fun _ => ⟨rfl, rfl⟩⟩, List.forall_mem_cons.mpr ⟨⟨rfl, by decide, by decide, zd_2, fun _ => ⟨rfl, rfl⟩⟩, List.forall_mem_cons.mpr ⟨⟨rfl, by decide, by decide, zd_2, fun _ => ⟨rfl, rfl⟩⟩, List.forall_mem_cons.mpr ⟨⟨rfl, by decide, by decide, zd_2, fun _ => ⟨rfl, rfl⟩⟩, List.forall_mem_cons.mpr ⟨⟨rfl, by decide, by decide, zd_2, fun _ => ⟨rfl, rfl⟩⟩, List.forall_mem_cons.mpr ⟨⟨rfl, by decide, by decide, zd_2, fun _ => ⟨rfl, rfl⟩⟩, List.forall_mem_cons.mpr ⟨⟨rfl, by decide, by decide, zd_2, fun _ => ⟨rfl, rfl⟩⟩, List.forall_mem_cons.mpr ⟨⟨rfl, by decide, by decide, zd_2, fun _ => ⟨rfl, rfl⟩⟩, List.forall_mem_cons.mpr ⟨⟨rfl, by decide, by decide, zd_2, fun _ => ⟨rfl, rfl⟩⟩, List.forall_mem_cons.mpr ⟨⟨rfl, by decide, by decide, zd_2, fun _ => ⟨rfl, rfl⟩⟩, List.forall_mem_cons.mpr ⟨⟨rfl, by decide, by decide, zd_2, fun _ => ⟨rfl, rfl⟩⟩, List.forall_mem_cons.mpr ⟨⟨rfl, by decide, by decide, zd_2, fun _ => ⟨rfl, rfl⟩⟩, List.forall_mem_cons.mpr ⟨⟨rfl, by decide, by decide, zd_2, fun _ => ⟨rfl, rfl⟩⟩, List.forall_mem_cons.mpr ⟨⟨rfl, by decide, by decide, zd_2, fun _ => ⟨rfl, rfl⟩⟩, fun _ h => absurd h List.not_mem_nil⟩⟩⟩⟩⟩⟩⟩⟩⟩⟩⟩⟩⟩⟩⟩⟩
theorem zm_o21 : ∀ x ∈ [zr_0, zr_0, zr_0, zr_0, zr_0, zr_0, zr_0, zr_0, zr_0, zr_0, zr_0, zr_0, zr_0, zr_0, zr_0, zr_0], zmP x := List.forall_mem_cons.mpr ⟨⟨rfl, by decide, by decide, zd_2, fun _ => ⟨rfl, rfl⟩⟩, List.forall_mem_cons.mpr ⟨⟨rfl, by decide, by decide, zd_2, fun _ => ⟨rfl, rfl⟩⟩, List.forall_mem_cons.mpr ⟨⟨rfl, by decide, by decide, zd_2, fun _ => ⟨rfl, rfl⟩⟩, List.forall_mem_cons.mpr ⟨⟨rfl, by decide, by decide, zd_2, fun _ => ⟨rfl, rfl⟩⟩, List.forall_mem_cons.mpr ⟨⟨rfl, by decide, by decide, zd_2, fun _ => ⟨rfl, rfl⟩⟩, List.forall_mem_cons.mpr ⟨⟨rfl, by decide, by decide, zd_2, fun _ => ⟨rfl, rfl⟩⟩, List.forall_mem_cons.mpr ⟨⟨rfl, by decide, by decide, zd_2, fun _ => ⟨rfl, rfl⟩⟩, List.forall_mem_cons.mpr ⟨⟨rfl, by decide, by decide, zd_2, fun _ => ⟨rfl, rfl⟩⟩, List.forall_mem_cons.mpr ⟨⟨rfl, by decide, by decide, zd_2, fun _ => ⟨rfl, rfl⟩⟩, List.forall_mem_cons.mpr ⟨⟨rfl, by decide, by decide, zd_2, fun _ => ⟨rfl, rfl⟩⟩, List.forall_mem_cons.mpr ⟨⟨rfl, by decide, by decide, zd_2, fun _ => ⟨rfl, rfl⟩⟩, List.forall_mem_cons.mpr ⟨⟨rfl, by decide, by decide, zd_2, fun _ => ⟨rfl, rfl⟩⟩, List.forall_mem_cons.mpr ⟨⟨rfl, by decide, by decide, zd_2, fun _ => ⟨rfl, rfl⟩⟩, List.forall_mem_cons.mpr ⟨⟨rfl, by decide, by decide, zd_2, fun _ => ⟨rfl, rfl⟩⟩, List.forall_mem_cons.mpr ⟨⟨rfl, by decide, by decide, zd_2, fun _ => ⟨rfl, rfl⟩⟩, List.forall_mem_cons.mpr ⟨⟨rfl, by decide, by decide, zd_2, fun _ => ⟨rfl, rfl⟩⟩, fun _ h => absurd h List.not_mem_nil⟩⟩⟩⟩⟩⟩⟩⟩⟩⟩⟩⟩⟩⟩⟩⟩
theorem zm_o22 : ∀ x ∈ [zr_0, zr_0, zr_0, zr_0, zr_0, zr_0, zr_0, zr_0, zr_0, zr_0, zr_0, zr_0, zr_0, zr_0, zr_0, zr_0], zmP x := List.forall_mem_cons.mpr ⟨⟨rfl, by decide, by decide, zd_2, fun _ => ⟨rfl, rfl⟩⟩, List.forall_mem_cons.mpr ⟨⟨rfl, by decide, by decide, zd_2, fun _ => ⟨rfl, rfl⟩⟩, List.forall_mem_cons.mpr ⟨⟨rfl, by decide, by decide, zd_2, fun _ => ⟨rfl, rfl⟩⟩, List.forall_mem_cons.mpr ⟨⟨rfl, by decide, by decide, zd_2, fun _ => ⟨rfl, rfl⟩⟩, List.forall_mem_cons.mpr ⟨⟨rfl, by decide, by decide, zd_2, fun _ => ⟨rfl, rfl⟩⟩, List.forall_mem_cons.mpr ⟨⟨rfl, by decide, by decide, zd_2, fun _ => ⟨rfl, rfl⟩⟩, List.forall_mem_cons.mpr ⟨⟨rfl, by decide, by decide, zd_2, fun _ => ⟨rfl, rfl⟩⟩, List.forall_mem_cons.mpr ⟨⟨rfl, by decide, by decide, zd_2, fun _ => ⟨rfl, rfl⟩⟩, List.forall_mem_cons.mpr ⟨⟨rfl, by decide, by decide, zd_2, fun _ => ⟨rfl, rfl⟩⟩, List.forall_mem_cons.mpr ⟨⟨rfl, by decide, by decide, zd_2, fun _ => ⟨rfl, rfl⟩⟩, List.forall_mem_cons.mpr ⟨⟨rfl, by decide, by decide, zd_2, fun _ => ⟨rfl, rfl⟩⟩, List.forall_mem_cons.mpr ⟨⟨rfl, by decide, by decide, zd_2, fun _ => ⟨rfl, rfl⟩⟩, List.forall_mem_cons.mpr ⟨⟨rfl, by decide, by decide, zd_2, fun _ => ⟨rfl, rfl⟩⟩, List.forall_mem_cons.mpr ⟨⟨rfl, by decide, by decide, zd_2, fun _ => ⟨rfl, rfl⟩⟩, List.forall_mem_cons.mpr ⟨⟨rfl, by decide, by decide, zd_2, fun _ => ⟨rfl, rfl⟩⟩, List.forall_mem_cons.mpr ⟨⟨rfl, by decide, by decide, zd_2, fun _ => ⟨rfl, rfl⟩⟩, fun _ h => absurd h List.not_mem_nil⟩⟩⟩⟩⟩⟩⟩⟩⟩⟩⟩⟩⟩⟩⟩⟩
theorem zm_o23 : ∀ x ∈ [zr_0, zr_0, zr_0, zr_0, zr_0, zr_0, zr_0, zr_0, zr_0, zr_0, zr_0, zr_0, zr_0, zr_0, zr_0, zr_0], zmP x := List.forall_mem_cons.mpr ⟨⟨rfl, by decide, by decide, zd_2, fun _ => ⟨rfl, rfl⟩⟩, List.forall_mem_cons.mpr ⟨⟨rfl, by decide, by decide, zd_2, fun _ => ⟨rfl, rfl⟩⟩, List.forall_mem_cons.mpr ⟨⟨rfl, by decide, by decide, zd_2, fun _ => ⟨rfl, rfl⟩⟩, List.forall_mem_cons.mpr ⟨⟨rfl, by decide, by decide, zd_2, fun _ => ⟨rfl, rfl⟩⟩, List.forall_mem_cons.mpr ⟨⟨rfl, by decide, by decide, zd_2, fun _ => ⟨rfl, rfl⟩⟩, List.forall_mem_cons.mpr ⟨⟨rfl, by decide, by decide, zd_2, fun _ => ⟨rfl, rfl⟩⟩, List.forall_mem_cons.mpr ⟨⟨rfl, by decide, by decide, zd_2, fun _ => ⟨rfl, rfl⟩⟩, List.forall_mem_cons.mpr ⟨⟨rfl, by decide, by decide, zd_2, fun _ => ⟨rfl, rfl⟩⟩, List.forall_mem_cons.mpr ⟨⟨rfl, by decide, by decide, zd_2, fun _ => ⟨rfl, rfl⟩⟩, List.forall_mem_cons.mpr ⟨⟨rfl, by decide, by decide, zd_2, fun _ => ⟨rfl, rfl⟩⟩, List.forall_mem_cons.mpr ⟨⟨rfl, by decide, by decide, zd_2, fun _ => ⟨rfl, rfl⟩⟩, List.forall_mem_cons.mpr ⟨⟨rfl, by decide, by decide, zd_2, fun _ => ⟨rfl, rfl⟩⟩, List.forall_mem_cons.mpr ⟨⟨rfl, by decide, by decide, zd_2, fun _ => ⟨rfl, rfl⟩⟩, List.forall_mem_cons.mpr ⟨⟨rfl, by decide, by decide, zd_2, fun _ => ⟨rfl, rfl⟩⟩, List.forall_mem_cons.mpr ⟨⟨rfl, by decide, by decide, zd_2, fun _ => ⟨rfl, rfl⟩⟩, List.forall_mem_cons.mpr ⟨⟨rfl, by decide, by decide, zd_2, fun _ => ⟨rfl, rfl⟩⟩, fun _ h => absurd h List.not_mem_nil⟩⟩⟩⟩⟩⟩⟩⟩⟩⟩⟩⟩⟩⟩⟩⟩
theorem zm_o24 : ∀ x ∈ [zr_0, zr_385, zr_386, zr_387, zr_388, zr_0, zr_0, zr_391, zr_392, zr_393, zr_394, zr_395, zr_396, zr_397, zr_398, zr_399], zmP x := List.forall_mem_cons.mpr ⟨⟨rfl, by decide, by decide, zd_2, fun _ => ⟨rfl, rfl⟩⟩, List.forall_mem_cons.mpr ⟨⟨rfl, by decide, by decide, zd_59, fun h => by cases h⟩, List.forall_mem_cons.mpr ⟨⟨rfl, by decide, by decide, zd_4, fun h => by cases h⟩, List.forall_mem_cons.mpr ⟨⟨rfl, by decide, by decide, zd_10, fun h => by cases h⟩, List.forall_mem_cons.mpr ⟨⟨rfl, by decide, by decide, zd_10, fun h => by cases h⟩, List.forall_mem_cons.mpr ⟨⟨rfl, by decide, by decide, zd_2, fun _ => ⟨rfl, rfl⟩⟩, List.forall_mem_cons.mpr ⟨⟨rfl, by decide, by decide, zd_2, fun _ => ⟨rfl, rfl⟩⟩, List.forall_mem_cons.mpr ⟨⟨rfl, by decide, by decide, zd_58, fun h => by cases h⟩, List.forall_mem_cons.mpr ⟨⟨rfl, by decide, by decide, zd_10, fun h => by cases h⟩, List.forall_mem_cons.mpr ⟨⟨rfl, by decide, by decide, zd_43, fun h => by cases h⟩, List.forall_mem_cons.mpr ⟨⟨rfl, by decide, by decide, zd_48, fun h => by cases h⟩, List.forall_mem_cons.mpr ⟨⟨rfl, by decide, by decide, zd_50, fun h => by cases h⟩, List.forall_mem_cons.mpr ⟨⟨rfl, by decide, by decide, zd_48, fun h => by cases h⟩, List.forall_mem_cons.mpr ⟨⟨rfl, by decide, by decide, zd_28, fun h => by cases h⟩, List.forall_mem_cons.mpr ⟨⟨rfl, by decide, by decide, zd_52, fun h => by cases h⟩, List.forall_mem_cons.mpr ⟨⟨rfl, by decide, by decide, zd_45, fun h => by cases h⟩, fun _ h => absurd h List.not_mem_nil⟩⟩⟩⟩⟩⟩⟩⟩⟩⟩⟩⟩⟩⟩⟩⟩
theorem zm_o25 : ∀ x ∈ [zr_400, zr_401, zr_402, zr_403, zr_404, zr_405, zr_406, zr_407], zmP x := List.forall_mem_cons.mpr ⟨⟨rfl, by decide, by decide, zd_47, fun h => by cases h⟩, List.forall_mem_cons.mpr ⟨⟨rfl, by decide, by decide, zd_44, fun h => by cases h⟩, List.forall_mem_cons.mpr ⟨⟨rfl, by decide, by decide, zd_51, fun h => by cases h⟩, List.forall_mem_cons.mpr ⟨⟨rfl, by decide, by decide, zd_49, fun h => by cases h⟩, List.forall_mem_cons.mpr ⟨⟨rfl, by decide, by decide, zd_46, fun h => by cases h⟩, List.forall_mem_cons.mpr ⟨⟨rfl, by decide, by decide, zd_47, fun h => by cases h⟩, List.forall_mem_cons.mpr ⟨⟨rfl, by decide, by decide, zd_52, fun h => by cases h⟩, List.forall_mem_cons.mpr ⟨⟨rfl, by decide, by decide, zd_57, fun h => by cases h⟩, fun _ h => absurd h List.not_mem_nil⟩⟩⟩⟩⟩⟩⟩⟩
set_option maxRecDepth 20000 in
theorem zm_ok : ∀ x ∈ zmtab, zmP x := List.forall_mem_append.mpr ⟨zm_o0, List.forall_mem_append.mpr ⟨zm_o1, List.forall_mem_append.mpr ⟨zm_o2, List.forall_mem_append.mpr ⟨zm_o3, List.forall_mem_append.mpr ⟨zm_o4, List.forall_mem_append.mpr ⟨zm_o5, List.forall_mem_append.mpr ⟨zm_o6, List.forall_mem_append.mpr ⟨zm_o7, List.forall_mem_append.mpr ⟨zm_o8, List.forall_mem_append.mpr ⟨zm_o9, List.forall_mem_append.mpr ⟨zm_o10, List.forall_mem_append.mpr ⟨zm_o11, List.forall_mem_append.mpr ⟨zm_o12, List.forall_mem_append.mpr ⟨zm_o13, List.forall_mem_append.mpr ⟨zm_o14, List.forall_mem_append.mpr ⟨zm_o15, List.forall_mem_append.mpr ⟨zm_o16, List.forall_mem_append.mpr ⟨zm_o17, List.forall_mem_append.mpr ⟨zm_o18, List.forall_mem_append.mpr ⟨zm_o19, List.forall_mem_append.mpr ⟨zm_o20, List.forall_mem_append.mpr ⟨zm_o21, List.forall_mem_append.mpr ⟨zm_o22, List.forall_mem_append.mpr ⟨zm_o23, List.forall_mem_append.mpr ⟨zm_o24, zm_o25⟩⟩⟩⟩⟩⟩⟩⟩⟩⟩⟩⟩⟩⟩⟩⟩⟩⟩⟩⟩⟩⟩⟩⟩⟩
theorem zplain : ∀ c : Nat, c < 15 → zcn c ≠ "java/lang/invoke/MethodHandle" ∧ zcn c ≠ "java/lang/invoke/VarHandle" := by decide +kernel
theorem zpl_0 : plainName (zcn 0) = true := by decide +kernel
theorem zpl_1 : plainName (zcn 1) = true := by decide +kernel
theorem zpl_2 : plainName (zcn 2) = true := by decide +kernel
theorem zpl_3 : plainName (zcn 3) = true := by decide +kernel
theorem zpl_4 : plainName (zcn 4) = true := by decide +kernel
theorem zpl_5 : plainName (zcn 5) = true := by decide +kernel
theorem zpl_6 : plainName (zcn 6) = true := by decide +kernel
theorem zpl_7 : plainName (zcn 7) = true := by decide +kernel
theorem zpl_8 : plainName (zcn 8) = true := by decide +kernel
theorem zpl_9 : plainName (zcn 9) = true := by decide +kernel
theorem zpl_10 : plainName (zcn 10) = true := by decide +kernel
theorem zpl_11 : plainName (zcn 11) = true := by decide +kernel
theorem zpl_12 : plainName (zcn 12) = true := by decide +kernel
def zexcT : List (Nat × Nat) := [(95, 0), (105, 1), (210, 2)]
def zstrK : List Nat := zstrT.map (fun q => q.1)
theorem zlay_0 : ∀ w ∈ u_ws (zcl 0).1 (zcl 0).2.1 (zcl 0).2.2, w ∈ lw_tbl := List.forall_mem_cons.mpr ⟨z_t1 162 rfl, List.forall_mem_cons.mpr ⟨z_t1 164 rfl, List.forall_mem_cons.mpr ⟨z_t1 166 rfl, List.forall_mem_cons.mpr ⟨z_t1 168 rfl, List.forall_mem_cons.mpr ⟨z_t1 170 rfl, List.forall_mem_cons.mpr ⟨z_t1 172 rfl, List.forall_mem_cons.mpr ⟨z_t1 174 rfl, List.forall_mem_cons.mpr ⟨z_t1 176 rfl, fun _ h => absurd h List.not_mem_nil⟩⟩⟩⟩⟩⟩⟩⟩
theorem zinst_0 : Jvm.Cond.instantiable (zcl 0).1 (zcl 0).2.2 ∈ lw_tbl ∧ Jvm.Cond.initialized (zcl 0).1 ∈ lw_tbl ∧ (zcl 0).1 = zcn 0 ∧ vwCl[0]? = some (zcl 0) := ⟨z_t1 29 rfl, z_t1 2 rfl, rfl, rfl⟩
theorem zlay_1 : ∀ w ∈ u_ws (zcl 1).1 (zcl 1).2.1 (zcl 1).2.2, w ∈ lw_tbl := List.forall_mem_cons.mpr ⟨z_t1 223 rfl, List.forall_mem_cons.mpr ⟨z_t1 225 rfl, List.forall_mem_cons.mpr ⟨z_t1 227 rfl, List.forall_mem_cons.mpr ⟨z_t1 229 rfl, List.forall_mem_cons.mpr ⟨z_t1 231 rfl, List.forall_mem_cons.mpr ⟨z_t1 233 rfl, List.forall_mem_cons.mpr ⟨z_t1 235 rfl, List.forall_mem_cons.mpr ⟨z_t1 237 rfl, List.forall_mem_cons.mpr ⟨z_t1 239 rfl, List.forall_mem_cons.mpr ⟨z_t2 1 rfl, List.forall_mem_cons.mpr ⟨z_t2 3 rfl, List.forall_mem_cons.mpr ⟨z_t2 5 rfl, List.forall_mem_cons.mpr ⟨z_t2 7 rfl, fun _ h => absurd h List.not_mem_nil⟩⟩⟩⟩⟩⟩⟩⟩⟩⟩⟩⟩⟩
theorem zinst_1 : Jvm.Cond.instantiable (zcl 1).1 (zcl 1).2.2 ∈ lw_tbl ∧ Jvm.Cond.initialized (zcl 1).1 ∈ lw_tbl ∧ (zcl 1).1 = zcn 1 ∧ vwCl[1]? = some (zcl 1) := ⟨z_t1 181 rfl, z_t1 7 rfl, rfl, rfl⟩
theorem zlay_2 : ∀ w ∈ u_ws (zcl 2).1 (zcl 2).2.1 (zcl 2).2.2, w ∈ lw_tbl := List.forall_mem_cons.mpr ⟨z_t2 78 rfl, List.forall_mem_cons.mpr ⟨z_t2 80 rfl, fun _ h => absurd h List.not_mem_nil⟩⟩
theorem zinst_2 : Jvm.Cond.instantiable (zcl 2).1 (zcl 2).2.2 ∈ lw_tbl ∧ Jvm.Cond.initialized (zcl 2).1 ∈ lw_tbl ∧ (zcl 2).1 = zcn 2 ∧ vwCl[2]? = some (zcl 2) := ⟨z_t2 72 rfl, z_t1 10 rfl, rfl, rfl⟩
theorem zlay_3 : ∀ w ∈ u_ws (zcl 3).1 (zcl 3).2.1 (zcl 3).2.2, w ∈ lw_tbl := List.forall_mem_cons.mpr ⟨z_t1 46 rfl, List.forall_mem_cons.mpr ⟨z_t1 48 rfl, List.forall_mem_cons.mpr ⟨z_t1 50 rfl, fun _ h => absurd h List.not_mem_nil⟩⟩⟩
theorem zinst_3 : Jvm.Cond.instantiable (zcl 3).1 (zcl 3).2.2 ∈ lw_tbl ∧ Jvm.Cond.initialized (zcl 3).1 ∈ lw_tbl ∧ (zcl 3).1 = zcn 3 ∧ vwCl[3]? = some (zcl 3) := ⟨z_t1 37 rfl, z_t1 3 rfl, rfl, rfl⟩
theorem zlay_4 : ∀ w ∈ u_ws (zcl 4).1 (zcl 4).2.1 (zcl 4).2.2, w ∈ lw_tbl := List.forall_mem_cons.mpr ⟨z_t2 120 rfl, fun _ h => absurd h List.not_mem_nil⟩
theorem zinst_4 : Jvm.Cond.instantiable (zcl 4).1 (zcl 4).2.2 ∈ lw_tbl ∧ Jvm.Cond.initialized (zcl 4).1 ∈ lw_tbl ∧ (zcl 4).1 = zcn 4 ∧ vwCl[4]? = some (zcl 4) := ⟨z_t2 113 rfl, z_t1 12 rfl, rfl, rfl⟩
theorem zlay_5 : ∀ w ∈ u_ws (zcl 5).1 (zcl 5).2.1 (zcl 5).2.2, w ∈ lw_tbl := List.forall_mem_cons.mpr ⟨z_t2 95 rfl, List.forall_mem_cons.mpr ⟨z_t2 97 rfl, List.forall_mem_cons.mpr ⟨z_t2 99 rfl, List.forall_mem_cons.mpr ⟨z_t2 101 rfl, List.forall_mem_cons.mpr ⟨z_t2 103 rfl, List.forall_mem_cons.mpr ⟨z_t2 105 rfl, List.forall_mem_cons.mpr ⟨z_t2 107 rfl, fun _ h => absurd h List.not_mem_nil⟩⟩⟩⟩⟩⟩⟩
theorem zinst_5 : Jvm.Cond.instantiable (zcl 5).1 (zcl 5).2.2 ∈ lw_tbl ∧ Jvm.Cond.initialized (zcl 5).1 ∈ lw_tbl ∧ (zcl 5).1 = zcn 5 ∧ vwCl[5]? = some (zcl 5) := ⟨z_t2 84 rfl, z_t1 11 rfl, rfl, rfl⟩
theorem zlay_6 : ∀ w ∈ u_ws (zcl 6).1 (zcl 6).2.1 (zcl 6).2.2, w ∈ lw_tbl := List.forall_mem_cons.mpr ⟨z_t1 76 rfl, List.forall_mem_cons.mpr ⟨z_t1 78 rfl, List.forall_mem_cons.mpr ⟨z_t1 80 rfl, fun _ h => absurd h List.not_mem_nil⟩⟩⟩
theorem zinst_6 : Jvm.Cond.instantiable (zcl 6).1 (zcl 6).2.2 ∈ lw_tbl ∧ Jvm.Cond.initialized (zcl 6).1 ∈ lw_tbl ∧ (zcl 6).1 = zcn 6 ∧ vwCl[6]? = some (zcl 6) := ⟨z_t1 62 rfl, z_t1 5 rfl, rfl, rfl⟩
theorem zlay_7 : ∀ w ∈ u_ws (zcl 7).1 (zcl 7).2.1 (zcl 7).2.2, w ∈ lw_tbl := List.forall_mem_cons.mpr ⟨z_t1 116 rfl, List.forall_mem_cons.mpr ⟨z_t1 118 rfl, List.forall_mem_cons.mpr ⟨z_t1 120 rfl, List.forall_mem_cons.mpr ⟨z_t1 122 rfl, List.forall_mem_cons.mpr ⟨z_t1 124 rfl, List.forall_mem_cons.mpr ⟨z_t1 126 rfl, List.forall_mem_cons.mpr ⟨z_t1 128 rfl, List.forall_mem_cons.mpr ⟨z_t1 130 rfl, List.forall_mem_cons.mpr ⟨z_t1 132 rfl, List.forall_mem_cons.mpr ⟨z_t1 134 rfl, List.forall_mem_cons.mpr ⟨z_t1 136 rfl, List.forall_mem_cons.mpr ⟨z_t1 138 rfl, List.forall_mem_cons.mpr ⟨z_t1 140 rfl, List.forall_mem_cons.mpr ⟨z_t1 142 rfl, List.forall_mem_cons.mpr ⟨z_t1 144 rfl, List.forall_mem_cons.mpr ⟨z_t1 146 rfl, fun _ h => absurd h List.not_mem_nil⟩⟩⟩⟩⟩⟩⟩⟩⟩⟩⟩⟩⟩⟩⟩⟩
theorem zinst_7 : Jvm.Cond.instantiable (zcl 7).1 (zcl 7).2.2 ∈ lw_tbl ∧ Jvm.Cond.initialized (zcl 7).1 ∈ lw_tbl ∧ (zcl 7).1 = zcn 7 ∧ vwCl[7]? = some (zcl 7) := ⟨z_t1 55 rfl, z_t1 4 rfl, rfl, rfl⟩
theorem zlay_8 : ∀ w ∈ u_ws (zcl 8).1 (zcl 8).2.1 (zcl 8).2.2, w ∈ lw_tbl := List.forall_mem_cons.mpr ⟨z_t2 44 rfl, List.forall_mem_cons.mpr ⟨z_t2 46 rfl, List.forall_mem_cons.mpr ⟨z_t2 48 rfl, List.forall_mem_cons.mpr ⟨z_t2 50 rfl, List.forall_mem_cons.mpr ⟨z_t2 52 rfl, List.forall_mem_cons.mpr ⟨z_t2 54 rfl, List.forall_mem_cons.mpr ⟨z_t2 56 rfl, List.forall_mem_cons.mpr ⟨z_t2 58 rfl, List.forall_mem_cons.mpr ⟨z_t2 60 rfl, List.forall_mem_cons.mpr ⟨z_t2 62 rfl, List.forall_mem_cons.mpr ⟨z_t2 64 rfl, List.forall_mem_cons.mpr ⟨z_t2 66 rfl, List.forall_mem_cons.mpr ⟨z_t2 68 rfl, fun _ h => absurd h List.not_mem_nil⟩⟩⟩⟩⟩⟩⟩⟩⟩⟩⟩⟩⟩
theorem zinst_8 : Jvm.Cond.instantiable (zcl 8).1 (zcl 8).2.2 ∈ lw_tbl ∧ Jvm.Cond.initialized (zcl 8).1 ∈ lw_tbl ∧ (zcl 8).1 = zcn 8 ∧ vwCl[8]? = some (zcl 8) := ⟨z_t2 25 rfl, z_t1 9 rfl, rfl, rfl⟩
theorem zlay_9 : ∀ w ∈ u_ws (zcl 9).1 (zcl 9).2.1 (zcl 9).2.2, w ∈ lw_tbl := List.forall_mem_cons.mpr ⟨z_t2 19 rfl, List.forall_mem_cons.mpr ⟨z_t2 21 rfl, fun _ h => absurd h List.not_mem_nil⟩⟩
theorem zinst_9 : Jvm.Cond.instantiable (zcl 9).1 (zcl 9).2.2 ∈ lw_tbl ∧ Jvm.Cond.initialized (zcl 9).1 ∈ lw_tbl ∧ (zcl 9).1 = zcn 9 ∧ vwCl[9]? = some (zcl 9) := ⟨z_t2 13 rfl, z_t1 8 rfl, rfl, rfl⟩
theorem zlay_10 : ∀ w ∈ u_ws (zcl 10).1 (zcl 10).2.1 (zcl 10).2.2, w ∈ lw_tbl := List.forall_mem_cons.mpr ⟨z_t2 136 rfl, List.forall_mem_cons.mpr ⟨z_t2 138 rfl, List.forall_mem_cons.mpr ⟨z_t2 140 rfl, List.forall_mem_cons.mpr ⟨z_t2 142 rfl, List.forall_mem_cons.mpr ⟨z_t2 144 rfl, List.forall_mem_cons.mpr ⟨z_t2 146 rfl, List.forall_mem_cons.mpr ⟨z_t2 148 rfl, List.forall_mem_cons.mpr ⟨z_t2 150 rfl, List.forall_mem_cons.mpr ⟨z_t2 152 rfl, List.forall_mem_cons.mpr ⟨z_t2 154 rfl, List.forall_mem_cons.mpr ⟨z_t2 156 rfl, List.forall_mem_cons.mpr ⟨z_t2 158 rfl, List.forall_mem_cons.mpr ⟨z_t2 160 rfl, fun _ h => absurd h List.not_mem_nil⟩⟩⟩⟩⟩⟩⟩⟩⟩⟩⟩⟩⟩
theorem zinst_10 : Jvm.Cond.instantiable (zcl 10).1 (zcl 10).2.2 ∈ lw_tbl ∧ Jvm.Cond.initialized (zcl 10).1 ∈ lw_tbl ∧ (zcl 10).1 = zcn 10 ∧ vwCl[10]? = some (zcl 10) := ⟨z_t1 21 rfl, z_t1 1 rfl, rfl, rfl⟩
theorem zarr_ok : Jvm.Cond.arrayClass .int ∈ lw_tbl ∧ Jvm.Cond.arrayClass .boolean ∈ lw_tbl ∧ Jvm.Cond.arrayClass .int ∈ lw_tbl ∧ Jvm.Cond.arrayOver (.object (zcn 7)) ∈ lw_tbl ∧ Jvm.Cond.arrayOver (.object (zcn 6)) ∈ lw_tbl ∧ Jvm.Cond.arrayOver (.object (zcn 1)) ∈ lw_tbl := ⟨z_t1 53 rfl, z_t1 54 rfl, z_t1 53 rfl, z_t1 35 rfl, z_t1 61 rfl, z_t1 180 rfl⟩
theorem zexc_0 : Jvm.Cond.initialized (zen 0) ∈ lw_tbl ∧ Jvm.Cond.castable (zen 0) (zen 0) ∈ lw_tbl := ⟨z_t1 17 rfl, z_t3 2 rfl⟩
theorem zexc_1 : Jvm.Cond.initialized (zen 1) ∈ lw_tbl ∧ Jvm.Cond.castable (zen 1) (zen 1) ∈ lw_tbl := ⟨z_t1 18 rfl, z_t3 18 rfl⟩
theorem zexc_2 : Jvm.Cond.initialized (zen 2) ∈ lw_tbl ∧ Jvm.Cond.castable (zen 2) (zen 2) ∈ lw_tbl := ⟨z_t1 16 rfl, z_t2 173 rfl⟩
