/-! ===== names: methods, links ===== -/
theorem gW_c0 {w : Cond} (i : Nat) (h : (k2_sels lw_privs)[i]? = some w) (hg : goodWord w = true) : w ∈ gW := List.mem_filter.mpr ⟨List.mem_append_left _ (List.mem_of_getElem? h), hg⟩
theorem gW_t {w : Cond} (h : w ∈ tables_1) (hg : goodWord w = true) : w ∈ gW := List.mem_filter.mpr ⟨List.mem_append_right _ h, hg⟩
theorem gW_c1 {w : Cond} (i : Nat) (h : tables_1_1[i]? = some w) (hg : goodWord w = true) : w ∈ gW := gW_t (List.mem_append_left _ (List.mem_of_getElem? h)) hg
theorem gW_c2 {w : Cond} (i : Nat) (h : tables_1_2[i]? = some w) (hg : goodWord w = true) : w ∈ gW := gW_t (List.mem_append_right _ (List.mem_append_left _ (List.mem_of_getElem? h))) hg
theorem gW_c3 {w : Cond} (i : Nat) (h : tables_1_3[i]? = some w) (hg : goodWord w = true) : w ∈ gW := gW_t (List.mem_append_right _ (List.mem_append_right _ (List.mem_append_left _ (List.mem_of_getElem? h)))) hg
theorem gW_c4 {w : Cond} (i : Nat) (h : tables_1_4[i]? = some w) (hg : goodWord w = true) : w ∈ gW := gW_t (List.mem_append_right _ (List.mem_append_right _ (List.mem_append_right _ (List.mem_append_left _ (List.mem_of_getElem? h))))) hg
theorem gW_c5 {w : Cond} (i : Nat) (h : tables_1_5[i]? = some w) (hg : goodWord w = true) : w ∈ gW := gW_t (List.mem_append_right _ (List.mem_append_right _ (List.mem_append_right _ (List.mem_append_right _ (List.mem_of_getElem? h))))) hg
theorem gws_0 : ∀ w ∈ u_ws RJx4a65c TJx4a65c 3, w ∈ gW := by
  have h : ∀ w ∈ u_ws RJx4a65c TJx4a65c 3, w ∈ lw_tbl ∧ goodWord w = true := by decide +kernel
  exact fun w hw => List.mem_filter.mpr (h w hw)
theorem gws_1 : ∀ w ∈ u_ws RX0 TX0 2, w ∈ gW := by
  have h : ∀ w ∈ u_ws RX0 TX0 2, w ∈ lw_tbl ∧ goodWord w = true := by decide +kernel
  exact fun w hw => List.mem_filter.mpr (h w hw)
theorem gws_2 : ∀ w ∈ u_ws RX1 TX1 3, w ∈ gW := by
  have h : ∀ w ∈ u_ws RX1 TX1 3, w ∈ lw_tbl ∧ goodWord w = true := by decide +kernel
  exact fun w hw => List.mem_filter.mpr (h w hw)
theorem gws_3 : ∀ w ∈ u_ws RX2 TX2 1, w ∈ gW := by
  have h : ∀ w ∈ u_ws RX2 TX2 1, w ∈ lw_tbl ∧ goodWord w = true := by decide +kernel
  exact fun w hw => List.mem_filter.mpr (h w hw)
theorem gws_4 : ∀ w ∈ u_ws RX3 TX3 4, w ∈ gW := by
  have h : ∀ w ∈ u_ws RX3 TX3 4, w ∈ lw_tbl ∧ goodWord w = true := by decide +kernel
  exact fun w hw => List.mem_filter.mpr (h w hw)
theorem gws_5 : ∀ w ∈ u_ws RX4 TX4 4, w ∈ gW := by
  have h : ∀ w ∈ u_ws RX4 TX4 4, w ∈ lw_tbl ∧ goodWord w = true := by decide +kernel
  exact fun w hw => List.mem_filter.mpr (h w hw)
theorem gws_6 : ∀ w ∈ u_ws RX5 TX5 12, w ∈ gW := by
  have h : ∀ w ∈ u_ws RX5 TX5 12, w ∈ lw_tbl ∧ goodWord w = true := by decide +kernel
  exact fun w hw => List.mem_filter.mpr (h w hw)
def y_F_init : MethodName := ⟨"FolderRounds", "<init>", "()V"⟩
def M_F_init : gM := (prog_1_method_1_code, 2, "FolderRounds", "<init>", [], none)
theorem cd_F_init : gCode y_F_init M_F_init ∈ gW := gW_c1 34 rfl rfl
def y_S_init : MethodName := ⟨"FolderRounds$Station", "<init>", "(I)V"⟩
def M_S_init : gM := (prog_3_method_1_code, 2, "FolderRounds$Station", "<init>", [], none)
theorem cd_S_init : gCode y_S_init M_S_init ∈ gW := gW_c1 43 rfl rfl
def y_A_init : MethodName := ⟨"java/util/ArrayList", "<init>", "()V"⟩
def M_A_init : gM := (prog_33_method_2_code, 1, "java/util/ArrayList", "<init>", [], none)
theorem cd_A_init : gCode y_A_init M_A_init ∈ gW := gW_c1 49 rfl rfl
def y_J_listInit : MethodName := ⟨"java/util/AbstractList", "<init>", "()V"⟩
def M_J_listInit : gM := (prog_32_method_1_code, 1, "java/util/AbstractList", "<init>", [], none)
theorem cd_J_listInit : gCode y_J_listInit M_J_listInit ∈ gW := gW_c1 52 rfl rfl
def y_J_collInit : MethodName := ⟨"java/util/AbstractCollection", "<init>", "()V"⟩
def M_J_collInit : gM := (prog_31_method_1_code, 1, "java/util/AbstractCollection", "<init>", [], none)
theorem cd_J_collInit : gCode y_J_collInit M_J_collInit ∈ gW := gW_c1 55 rfl rfl
def y_T_init : MethodName := ⟨"FolderRounds$Table", "<init>", "()V"⟩
def M_T_init : gM := (prog_4_method_1_code, 1, "FolderRounds$Table", "<init>", [], none)
theorem cd_T_init : gCode y_T_init M_T_init ∈ gW := gW_c1 75 rfl rfl
def y_C_init : MethodName := ⟨"FolderRounds$Cartridge", "<init>", "()V"⟩
def M_C_init : gM := (prog_2_method_1_code, 1, "FolderRounds$Cartridge", "<init>", [], none)
theorem cd_C_init : gCode y_C_init M_C_init ∈ gW := gW_c1 99 rfl rfl
def y_F_leftOut : MethodName := ⟨"FolderRounds", "leftOut", "()I"⟩
def M_F_leftOut : gM := (prog_1_method_17_code, 1, "FolderRounds", "leftOut", [], (Option.some FieldType.int))
theorem cd_F_leftOut : gCode y_F_leftOut M_F_leftOut ∈ gW := gW_c1 132 rfl rfl
def y_L_edit : MethodName := ⟨"FolderRoundsLaw", "edit", "(LFolderRounds;IIII)I"⟩
def M_L_edit : gM := (method_3_code, 6, "FolderRoundsLaw", "edit", [((0), (9), (12), (13)), ((0), (9), (16), (15)), ((0), (9), (20), (17))], (Option.some FieldType.int))
theorem cd_L_edit : gCode y_L_edit M_L_edit ∈ gW := gW_c1 135 rfl rfl
def y_F_edit : MethodName := ⟨"FolderRounds", "edit", "(IIII)V"⟩
def M_F_edit : gM := (prog_1_method_2_code, 6, "FolderRounds", "edit", [], none)
theorem cd_F_edit : gCode y_F_edit M_F_edit ∈ gW := gW_c1 142 rfl rfl
def y_F_stationAt : MethodName := ⟨"FolderRounds", "stationAt", "(I)LFolderRounds$Station;"⟩
def M_F_stationAt : gM := (prog_1_method_21_code, 2, "FolderRounds", "stationAt", [], (Option.some (FieldType.object "FolderRounds$Station")))
theorem cd_F_stationAt : gCode y_F_stationAt M_F_stationAt ∈ gW := gW_c1 146 rfl rfl
def y_F_checkStation : MethodName := ⟨"FolderRounds", "checkStation", "(I)V"⟩
def M_F_checkStation : gM := (prog_1_method_18_code, 1, "FolderRounds", "checkStation", [], none)
theorem cd_F_checkStation : gCode y_F_checkStation M_F_checkStation ∈ gW := gW_c1 149 rfl rfl
def y_F_checkDocument : MethodName := ⟨"FolderRounds", "checkDocument", "(I)V"⟩
def M_F_checkDocument : gM := (prog_1_method_19_code, 1, "FolderRounds", "checkDocument", [], none)
theorem cd_F_checkDocument : gCode y_F_checkDocument M_F_checkDocument ∈ gW := gW_c1 217 rfl rfl
def y_F_makeVersion : MethodName := ⟨"FolderRounds", "makeVersion", "(LFolderRounds$Station;III)V"⟩
def M_F_makeVersion : gM := (prog_1_method_24_code, 4, "FolderRounds", "makeVersion", [], none)
theorem cd_F_makeVersion : gCode y_F_makeVersion M_F_makeVersion ∈ gW := gW_c1 235 rfl rfl
def y_S_ownCounter : MethodName := ⟨"FolderRounds$Station", "ownCounter", "(I)I"⟩
def M_S_ownCounter : gM := (prog_3_method_2_code, 2, "FolderRounds$Station", "ownCounter", [], (Option.some FieldType.int))
theorem cd_S_ownCounter : gCode y_S_ownCounter M_S_ownCounter ∈ gW := gW_c1 239 rfl rfl
def y_T_counterAt : MethodName := ⟨"FolderRounds$Table", "counterAt", "(III)I"⟩
def M_T_counterAt : gM := (prog_4_method_3_code, 4, "FolderRounds$Table", "counterAt", [], (Option.some FieldType.int))
theorem cd_T_counterAt : gCode y_T_counterAt M_T_counterAt ∈ gW := gW_c2 3 rfl rfl
def y_T_startOf : MethodName := ⟨"FolderRounds$Table", "startOf", "(II)I"⟩
def M_T_startOf : gM := (prog_4_method_2_code, 2, "FolderRounds$Table", "startOf", [], (Option.some FieldType.int))
theorem cd_T_startOf : gCode y_T_startOf M_T_startOf ∈ gW := gW_c2 6 rfl rfl
def y_S_nextVersion : MethodName := ⟨"FolderRounds$Station", "nextVersion", "(III)LFolderRounds$Version;"⟩
def M_S_nextVersion : gM := (prog_3_method_3_code, 5, "FolderRounds$Station", "nextVersion", [], (Option.some (FieldType.object "FolderRounds$Version")))
theorem cd_S_nextVersion : gCode y_S_nextVersion M_S_nextVersion ∈ gW := gW_c2 25 rfl rfl
def y_T_vectorAt : MethodName := ⟨"FolderRounds$Table", "vectorAt", "(II)[I"⟩
def M_T_vectorAt : gM := (prog_4_method_4_code, 4, "FolderRounds$Table", "vectorAt", [], (Option.some (FieldType.array FieldType.int)))
theorem cd_T_vectorAt : gCode y_T_vectorAt M_T_vectorAt ∈ gW := gW_c2 29 rfl rfl
def y_J_copyOfRange : MethodName := ⟨"java/util/Arrays", "copyOfRange", "([III)[I"⟩
def M_J_copyOfRange : gM := (prog_34_method_136_code, 3, "java/util/Arrays", "copyOfRange", [], (Option.some (FieldType.array FieldType.int)))
theorem cd_J_copyOfRange : gCode y_J_copyOfRange M_J_copyOfRange ∈ gW := gW_c2 32 rfl rfl
def y_J_newLength : MethodName := ⟨"jdk/internal/util/ArraysSupport", "newLength", "(III)I"⟩
def M_J_newLength : gM := (prog_41_method_27_code, 4, "jdk/internal/util/ArraysSupport", "newLength", [], (Option.some FieldType.int))
theorem cd_J_newLength : gCode y_J_newLength M_J_newLength ∈ gW := gW_c2 92 rfl rfl
def y_J_max : MethodName := ⟨"java/lang/Math", "max", "(II)I"⟩
def M_J_max : gM := (prog_19_method_65_code, 2, "java/lang/Math", "max", [], (Option.some FieldType.int))
theorem cd_J_max : gCode y_J_max M_J_max ∈ gW := gW_c2 95 rfl rfl
def y_J_min : MethodName := ⟨"java/lang/Math", "min", "(II)I"⟩
def M_J_min : gM := (prog_19_method_69_code, 2, "java/lang/Math", "min", [], (Option.some FieldType.int))
theorem cd_J_min : gCode y_J_min M_J_min ∈ gW := gW_c2 113 rfl rfl
def y_V_init : MethodName := ⟨"FolderRounds$Version", "<init>", "(III[I)V"⟩
def M_V_init : gM := (prog_5_method_1_code, 5, "FolderRounds$Version", "<init>", [], none)
theorem cd_V_init : gCode y_V_init M_V_init ∈ gW := gW_c3 56 rfl rfl
def y_S_takeIn : MethodName := ⟨"FolderRounds$Station", "takeIn", "(LFolderRounds$Version;)Z"⟩
def M_S_takeIn : gM := (prog_3_method_5_code, 2, "FolderRounds$Station", "takeIn", [], (Option.some FieldType.boolean))
theorem cd_S_takeIn : gCode y_S_takeIn M_S_takeIn ∈ gW := gW_c3 80 rfl rfl
def y_S_bytesWith : MethodName := ⟨"FolderRounds$Station", "bytesWith", "(LFolderRounds$Version;)I"⟩
def M_S_bytesWith : gM := (prog_3_method_6_code, 5, "FolderRounds$Station", "bytesWith", [], (Option.some FieldType.int))
theorem cd_S_bytesWith : gCode y_S_bytesWith M_S_bytesWith ∈ gW := gW_c3 84 rfl rfl
def y_V_byteCount : MethodName := ⟨"FolderRounds$Version", "byteCount", "()I"⟩
def M_V_byteCount : gM := (prog_5_method_4_code, 1, "FolderRounds$Version", "byteCount", [], (Option.some FieldType.int))
theorem cd_V_byteCount : gCode y_V_byteCount M_V_byteCount ∈ gW := gW_c3 88 rfl rfl
def y_V_isMark : MethodName := ⟨"FolderRounds$Version", "isMark", "()Z"⟩
def M_V_isMark : gM := (prog_5_method_2_code, 1, "FolderRounds$Version", "isMark", [], (Option.some FieldType.boolean))
theorem cd_V_isMark : gCode y_V_isMark M_V_isMark ∈ gW := gW_c3 92 rfl rfl
def y_A_size : MethodName := ⟨"java/util/ArrayList", "size", "()I"⟩
def M_A_size : gM := (prog_33_method_8_code, 1, "java/util/ArrayList", "size", [], (Option.some FieldType.int))
theorem cd_A_size : gCode y_A_size M_A_size ∈ gW := gW_c3 96 rfl rfl
def y_A_get : MethodName := ⟨"java/util/ArrayList", "get", "(I)Ljava/lang/Object;"⟩
def M_A_get : gM := (prog_33_method_20_code, 2, "java/util/ArrayList", "get", [], (Option.some (FieldType.object "java/lang/Object")))
theorem cd_A_get : gCode y_A_get M_A_get ∈ gW := gW_c3 100 rfl rfl
def y_J_checkIndex : MethodName := ⟨"java/util/Objects", "checkIndex", "(II)I"⟩
def M_J_checkIndex : gM := (prog_38_method_17_code, 2, "java/util/Objects", "checkIndex", [], (Option.some FieldType.int))
theorem cd_J_checkIndex : gCode y_J_checkIndex M_J_checkIndex ∈ gW := gW_c3 103 rfl rfl
def y_J_pCheckIndex : MethodName := ⟨"jdk/internal/util/Preconditions", "checkIndex", "(IILjava/util/function/BiFunction;)I"⟩
def M_J_pCheckIndex : gM := (prog_42_method_11_code, 3, "jdk/internal/util/Preconditions", "checkIndex", [], (Option.some FieldType.int))
theorem cd_J_pCheckIndex : gCode y_J_pCheckIndex M_J_pCheckIndex ∈ gW := gW_c3 106 rfl rfl
def y_A_elementData : MethodName := ⟨"java/util/ArrayList", "elementData", "(I)Ljava/lang/Object;"⟩
def M_A_elementData : gM := (prog_33_method_18_code, 2, "java/util/ArrayList", "elementData", [], (Option.some (FieldType.object "java/lang/Object")))
theorem cd_A_elementData : gCode y_A_elementData M_A_elementData ∈ gW := gW_c3 110 rfl rfl
def y_V_replaces : MethodName := ⟨"FolderRounds$Version", "replaces", "(LFolderRounds$Version;)Z"⟩
def M_V_replaces : gM := (prog_5_method_7_code, 3, "FolderRounds$Version", "replaces", [], (Option.some FieldType.boolean))
theorem cd_V_replaces : gCode y_V_replaces M_V_replaces ∈ gW := gW_c3 114 rfl rfl
def y_S_removeReplaced : MethodName := ⟨"FolderRounds$Station", "removeReplaced", "(LFolderRounds$Version;)V"⟩
def M_S_removeReplaced : gM := (prog_3_method_7_code, 3, "FolderRounds$Station", "removeReplaced", [], none)
theorem cd_S_removeReplaced : gCode y_S_removeReplaced M_S_removeReplaced ∈ gW := gW_c3 118 rfl rfl
def y_A_remove : MethodName := ⟨"java/util/ArrayList", "remove", "(I)Ljava/lang/Object;"⟩
def M_A_remove : gM := (prog_33_method_29_code, 4, "java/util/ArrayList", "remove", [], (Option.some (FieldType.object "java/lang/Object")))
theorem cd_A_remove : gCode y_A_remove M_A_remove ∈ gW := gW_c3 122 rfl rfl
def y_A_fastRemove : MethodName := ⟨"java/util/ArrayList", "fastRemove", "([Ljava/lang/Object;I)V"⟩
def M_A_fastRemove : gM := (prog_33_method_39_code, 4, "java/util/ArrayList", "fastRemove", [], none)
theorem cd_A_fastRemove : gCode y_A_fastRemove M_A_fastRemove ∈ gW := gW_c3 126 rfl rfl
def y_S_insert : MethodName := ⟨"FolderRounds$Station", "insert", "(LFolderRounds$Version;)V"⟩
def M_S_insert : gM := (prog_3_method_8_code, 3, "FolderRounds$Station", "insert", [], none)
theorem cd_S_insert : gCode y_S_insert M_S_insert ∈ gW := gW_c3 131 rfl rfl
def y_V_compareWith : MethodName := ⟨"FolderRounds$Version", "compareWith", "(LFolderRounds$Version;)I"⟩
def M_V_compareWith : gM := (prog_5_method_8_code, 4, "FolderRounds$Version", "compareWith", [], (Option.some FieldType.int))
theorem cd_V_compareWith : gCode y_V_compareWith M_V_compareWith ∈ gW := gW_c3 135 rfl rfl
def y_J_compare : MethodName := ⟨"java/lang/Integer", "compare", "(II)I"⟩
def M_J_compare : gM := (prog_17_method_40_code, 2, "java/lang/Integer", "compare", [], (Option.some FieldType.int))
theorem cd_J_compare : gCode y_J_compare M_J_compare ∈ gW := gW_c3 138 rfl rfl
def y_A_addAt : MethodName := ⟨"java/util/ArrayList", "add", "(ILjava/lang/Object;)V"⟩
def M_A_addAt : gM := (prog_33_method_26_code, 5, "java/util/ArrayList", "add", [], none)
theorem cd_A_addAt : gCode y_A_addAt M_A_addAt ∈ gW := gW_c3 142 rfl rfl
def y_A_rangeCheckForAdd : MethodName := ⟨"java/util/ArrayList", "rangeCheckForAdd", "(I)V"⟩
def M_A_rangeCheckForAdd : gM := (prog_33_method_45_code, 2, "java/util/ArrayList", "rangeCheckForAdd", [], none)
theorem cd_A_rangeCheckForAdd : gCode y_A_rangeCheckForAdd M_A_rangeCheckForAdd ∈ gW := gW_c3 146 rfl rfl
def y_A_grow0 : MethodName := ⟨"java/util/ArrayList", "grow", "()[Ljava/lang/Object;"⟩
def M_A_grow0 : gM := (prog_33_method_7_code, 1, "java/util/ArrayList", "grow", [], (Option.some (FieldType.array (FieldType.object "java/lang/Object"))))
theorem cd_A_grow0 : gCode y_A_grow0 M_A_grow0 ∈ gW := gW_c3 176 rfl rfl
def y_A_grow : MethodName := ⟨"java/util/ArrayList", "grow", "(I)[Ljava/lang/Object;"⟩
def M_A_grow : gM := (prog_33_method_6_code, 4, "java/util/ArrayList", "grow", [], (Option.some (FieldType.array (FieldType.object "java/lang/Object"))))
theorem cd_A_grow : gCode y_A_grow M_A_grow ∈ gW := gW_c3 180 rfl rfl
def y_J_copyOf : MethodName := ⟨"java/util/Arrays", "copyOf", "([Ljava/lang/Object;I)[Ljava/lang/Object;"⟩
def M_J_copyOf : gM := (prog_34_method_119_code, 2, "java/util/Arrays", "copyOf", [], (Option.some (FieldType.array (FieldType.object "java/lang/Object"))))
theorem cd_J_copyOf : gCode y_J_copyOf M_J_copyOf ∈ gW := gW_c3 184 rfl rfl
def y_J_copyOf3 : MethodName := ⟨"java/util/Arrays", "copyOf", "([Ljava/lang/Object;ILjava/lang/Class;)[Ljava/lang/Object;"⟩
def M_J_copyOf3 : gM := (prog_34_method_120_code, 4, "java/util/Arrays", "copyOf", [], (Option.some (FieldType.array (FieldType.object "java/lang/Object"))))
theorem cd_J_copyOf3 : gCode y_J_copyOf3 M_J_copyOf3 ∈ gW := gW_c3 204 rfl rfl
def y_T_joinVersion : MethodName := ⟨"FolderRounds$Table", "joinVersion", "(ILFolderRounds$Version;)V"⟩
def M_T_joinVersion : gM := (prog_4_method_6_code, 5, "FolderRounds$Table", "joinVersion", [], none)
theorem cd_T_joinVersion : gCode y_T_joinVersion M_T_joinVersion ∈ gW := gW_c3 213 rfl rfl
def y_L_erase : MethodName := ⟨"FolderRoundsLaw", "erase", "(LFolderRounds;II)I"⟩
def M_L_erase : gM := (method_4_code, 4, "FolderRoundsLaw", "erase", [((0), (6), (9), (13)), ((0), (6), (12), (17))], (Option.some FieldType.int))
theorem cd_L_erase : gCode y_L_erase M_L_erase ∈ gW := gW_c3 217 rfl rfl
def y_F_erase : MethodName := ⟨"FolderRounds", "erase", "(II)V"⟩
def M_F_erase : gM := (prog_1_method_3_code, 4, "FolderRounds", "erase", [], none)
theorem cd_F_erase : gCode y_F_erase M_F_erase ∈ gW := gW_c3 221 rfl rfl
def y_L_siblings : MethodName := ⟨"FolderRoundsLaw", "siblings", "(LFolderRounds;II[J)I"⟩
def M_L_siblings : gM := (method_5_code, 5, "FolderRoundsLaw", "siblings", [((0), (10), (13), (13))], (Option.some FieldType.int))
theorem cd_L_siblings : gCode y_L_siblings M_L_siblings ∈ gW := gW_c3 224 rfl rfl
def y_F_siblings : MethodName := ⟨"FolderRounds", "siblings", "(II)I"⟩
def M_F_siblings : gM := (prog_1_method_4_code, 4, "FolderRounds", "siblings", [], (Option.some FieldType.int))
theorem cd_F_siblings : gCode y_F_siblings M_F_siblings ∈ gW := gW_c3 228 rfl rfl
def y_S_countSiblings : MethodName := ⟨"FolderRounds$Station", "countSiblings", "(I)I"⟩
def M_S_countSiblings : gM := (prog_3_method_13_code, 4, "FolderRounds$Station", "countSiblings", [], (Option.some FieldType.int))
theorem cd_S_countSiblings : gCode y_S_countSiblings M_S_countSiblings ∈ gW := gW_c3 232 rfl rfl
def y_V_hasBytesOf : MethodName := ⟨"FolderRounds$Version", "hasBytesOf", "(I)Z"⟩
def M_V_hasBytesOf : gM := (prog_5_method_3_code, 2, "FolderRounds$Version", "hasBytesOf", [], (Option.some FieldType.boolean))
theorem cd_V_hasBytesOf : gCode y_V_hasBytesOf M_V_hasBytesOf ∈ gW := gW_c3 236 rfl rfl
def y_L_counter : MethodName := ⟨"FolderRoundsLaw", "counter", "(LFolderRounds;IIII[J)I"⟩
def M_L_counter : gM := (method_6_code, 7, "FolderRoundsLaw", "counter", [((0), (14), (17), (13)), ((0), (14), (21), (31))], (Option.some FieldType.int))
theorem cd_L_counter : gCode y_L_counter M_L_counter ∈ gW := gW_c3 239 rfl rfl
def y_F_counter : MethodName := ⟨"FolderRounds", "counter", "(IIII)I"⟩
def M_F_counter : gM := (prog_1_method_5_code, 6, "FolderRounds", "counter", [], (Option.some FieldType.int))
theorem cd_F_counter : gCode y_F_counter M_F_counter ∈ gW := gW_c4 4 rfl rfl
def y_F_siblingAt : MethodName := ⟨"FolderRounds", "siblingAt", "(III)LFolderRounds$Version;"⟩
def M_F_siblingAt : gM := (prog_1_method_23_code, 6, "FolderRounds", "siblingAt", [], (Option.some (FieldType.object "FolderRounds$Version")))
theorem cd_F_siblingAt : gCode y_F_siblingAt M_F_siblingAt ∈ gW := gW_c4 8 rfl rfl
def y_S_findSibling : MethodName := ⟨"FolderRounds$Station", "findSibling", "(II)LFolderRounds$Version;"⟩
def M_S_findSibling : gM := (prog_3_method_14_code, 6, "FolderRounds$Station", "findSibling", [], (Option.some (FieldType.object "FolderRounds$Version")))
theorem cd_S_findSibling : gCode y_S_findSibling M_S_findSibling ∈ gW := gW_c4 12 rfl rfl
def y_F_checkCounter : MethodName := ⟨"FolderRounds", "checkCounter", "(I)V"⟩
def M_F_checkCounter : gM := (prog_1_method_20_code, 1, "FolderRounds", "checkCounter", [], none)
theorem cd_F_checkCounter : gCode y_F_checkCounter M_F_checkCounter ∈ gW := gW_c4 15 rfl rfl
def y_L_byteOf : MethodName := ⟨"FolderRoundsLaw", "byteOf", "(LFolderRounds;IIII[J)I"⟩
def M_L_byteOf : gM := (method_7_code, 7, "FolderRoundsLaw", "byteOf", [((0), (14), (17), (13)), ((0), (14), (21), (31))], (Option.some FieldType.int))
theorem cd_L_byteOf : gCode y_L_byteOf M_L_byteOf ∈ gW := gW_c4 23 rfl rfl
def y_F_byteOf : MethodName := ⟨"FolderRounds", "byteOf", "(IIII)I"⟩
def M_F_byteOf : gM := (prog_1_method_6_code, 6, "FolderRounds", "byteOf", [], (Option.some FieldType.int))
theorem cd_F_byteOf : gCode y_F_byteOf M_F_byteOf ∈ gW := gW_c4 27 rfl rfl
def y_L_visit : MethodName := ⟨"FolderRoundsLaw", "visit", "(LFolderRounds;III[J)I"⟩
def M_L_visit : gM := (method_8_code, 6, "FolderRoundsLaw", "visit", [((0), (12), (15), (13))], (Option.some FieldType.int))
theorem cd_L_visit : gCode y_L_visit M_L_visit ∈ gW := gW_c4 30 rfl rfl
def y_F_visit : MethodName := ⟨"FolderRounds", "visit", "(III)I"⟩
def M_F_visit : gM := (prog_1_method_7_code, 4, "FolderRounds", "visit", [], (Option.some FieldType.int))
theorem cd_F_visit : gCode y_F_visit M_F_visit ∈ gW := gW_c4 34 rfl rfl
def y_F_cartridgeAt : MethodName := ⟨"FolderRounds", "cartridgeAt", "(I)LFolderRounds$Cartridge;"⟩
def M_F_cartridgeAt : gM := (prog_1_method_22_code, 2, "FolderRounds", "cartridgeAt", [], (Option.some (FieldType.object "FolderRounds$Cartridge")))
theorem cd_F_cartridgeAt : gCode y_F_cartridgeAt M_F_cartridgeAt ∈ gW := gW_c4 38 rfl rfl
def y_F_goThrough : MethodName := ⟨"FolderRounds", "goThrough", "(LFolderRounds$Cartridge;LFolderRounds$Station;II)I"⟩
def M_F_goThrough : gM := (prog_1_method_25_code, 6, "FolderRounds", "goThrough", [], (Option.some FieldType.int))
theorem cd_F_goThrough : gCode y_F_goThrough M_F_goThrough ∈ gW := gW_c4 43 rfl rfl
def y_F_unload : MethodName := ⟨"FolderRounds", "unload", "(LFolderRounds$Cartridge;LFolderRounds$Station;I)I"⟩
def M_F_unload : gM := (prog_1_method_26_code, 7, "FolderRounds", "unload", [], (Option.some FieldType.int))
theorem cd_F_unload : gCode y_F_unload M_F_unload ∈ gW := gW_c4 47 rfl rfl
def y_A_isEmpty : MethodName := ⟨"java/util/ArrayList", "isEmpty", "()Z"⟩
def M_A_isEmpty : gM := (prog_33_method_9_code, 1, "java/util/ArrayList", "isEmpty", [], (Option.some FieldType.boolean))
theorem cd_A_isEmpty : gCode y_A_isEmpty M_A_isEmpty ∈ gW := gW_c4 53 rfl rfl
def y_S_lacks : MethodName := ⟨"FolderRounds$Station", "lacks", "(LFolderRounds$Version;)Z"⟩
def M_S_lacks : gM := (prog_3_method_4_code, 2, "FolderRounds$Station", "lacks", [], (Option.some FieldType.boolean))
theorem cd_S_lacks : gCode y_S_lacks M_S_lacks ∈ gW := gW_c4 59 rfl rfl
def y_T_covers : MethodName := ⟨"FolderRounds$Table", "covers", "(ILFolderRounds$Version;)Z"⟩
def M_T_covers : gM := (prog_4_method_5_code, 5, "FolderRounds$Table", "covers", [], (Option.some FieldType.boolean))
theorem cd_T_covers : gCode y_T_covers M_T_covers ∈ gW := gW_c4 63 rfl rfl
def y_S_learn : MethodName := ⟨"FolderRounds$Station", "learn", "(LFolderRounds$Table;)V"⟩
def M_S_learn : gM := (prog_3_method_9_code, 3, "FolderRounds$Station", "learn", [], none)
theorem cd_S_learn : gCode y_S_learn M_S_learn ∈ gW := gW_c4 67 rfl rfl
def y_T_joinStation : MethodName := ⟨"FolderRounds$Table", "joinStation", "(ILFolderRounds$Table;)V"⟩
def M_T_joinStation : gM := (prog_4_method_7_code, 5, "FolderRounds$Table", "joinStation", [], none)
theorem cd_T_joinStation : gCode y_T_joinStation M_T_joinStation ∈ gW := gW_c4 71 rfl rfl
def y_S_dropMarksThatAllHave : MethodName := ⟨"FolderRounds$Station", "dropMarksThatAllHave", "()V"⟩
def M_S_dropMarksThatAllHave : gM := (prog_3_method_10_code, 3, "FolderRounds$Station", "dropMarksThatAllHave", [], none)
theorem cd_S_dropMarksThatAllHave : gCode y_S_dropMarksThatAllHave M_S_dropMarksThatAllHave ∈ gW := gW_c4 75 rfl rfl
def y_S_allHave : MethodName := ⟨"FolderRounds$Station", "allHave", "(LFolderRounds$Version;)Z"⟩
def M_S_allHave : gM := (prog_3_method_11_code, 3, "FolderRounds$Station", "allHave", [], (Option.some FieldType.boolean))
theorem cd_S_allHave : gCode y_S_allHave M_S_allHave ∈ gW := gW_c4 80 rfl rfl
def y_T_become : MethodName := ⟨"FolderRounds$Table", "become", "(LFolderRounds$Table;)V"⟩
def M_T_become : gM := (prog_4_method_8_code, 2, "FolderRounds$Table", "become", [], none)
theorem cd_T_become : gCode y_T_become M_T_become ∈ gW := gW_c4 84 rfl rfl
def y_F_load : MethodName := ⟨"FolderRounds", "load", "(LFolderRounds$Cartridge;LFolderRounds$Station;II)I"⟩
def M_F_load : gM := (prog_1_method_27_code, 8, "FolderRounds", "load", [], (Option.some FieldType.int))
theorem cd_F_load : gCode y_F_load M_F_load ∈ gW := gW_c4 89 rfl rfl
def y_F_chooseWhatToLoad : MethodName := ⟨"FolderRounds", "chooseWhatToLoad", "(LFolderRounds$Station;I)V"⟩
def M_F_chooseWhatToLoad : gM := (prog_1_method_28_code, 5, "FolderRounds", "chooseWhatToLoad", [], none)
theorem cd_F_chooseWhatToLoad : gCode y_F_chooseWhatToLoad M_F_chooseWhatToLoad ∈ gW := gW_c4 93 rfl rfl
def y_A_clear : MethodName := ⟨"java/util/ArrayList", "clear", "()V"⟩
def M_A_clear : gM := (prog_33_method_40_code, 4, "java/util/ArrayList", "clear", [], none)
theorem cd_A_clear : gCode y_A_clear M_A_clear ∈ gW := gW_c4 97 rfl rfl
def y_S_knowsLackAmong : MethodName := ⟨"FolderRounds$Station", "knowsLackAmong", "(ILFolderRounds$Version;)Z"⟩
def M_S_knowsLackAmong : gM := (prog_3_method_12_code, 5, "FolderRounds$Station", "knowsLackAmong", [], (Option.some FieldType.boolean))
theorem cd_S_knowsLackAmong : gCode y_S_knowsLackAmong M_S_knowsLackAmong ∈ gW := gW_c4 102 rfl rfl
def y_F_addBySum : MethodName := ⟨"FolderRounds", "addBySum", "(LFolderRounds$Version;)V"⟩
def M_F_addBySum : gM := (prog_1_method_29_code, 4, "FolderRounds", "addBySum", [], none)
theorem cd_F_addBySum : gCode y_F_addBySum M_F_addBySum ∈ gW := gW_c4 106 rfl rfl
def y_V_sumOfCounters : MethodName := ⟨"FolderRounds$Version", "sumOfCounters", "()I"⟩
def M_V_sumOfCounters : gM := (prog_5_method_6_code, 3, "FolderRounds$Version", "sumOfCounters", [], (Option.some FieldType.int))
theorem cd_V_sumOfCounters : gCode y_V_sumOfCounters M_V_sumOfCounters ∈ gW := gW_c4 110 rfl rfl
def y_V_roomTaken : MethodName := ⟨"FolderRounds$Version", "roomTaken", "()I"⟩
def M_V_roomTaken : gM := (prog_5_method_5_code, 1, "FolderRounds$Version", "roomTaken", [], (Option.some FieldType.int))
theorem cd_V_roomTaken : gCode y_V_roomTaken M_V_roomTaken ∈ gW := gW_c4 115 rfl rfl
def y_C_roomLeft : MethodName := ⟨"FolderRounds$Cartridge", "roomLeft", "()I"⟩
def M_C_roomLeft : gM := (prog_2_method_2_code, 3, "FolderRounds$Cartridge", "roomLeft", [], (Option.some FieldType.int))
theorem cd_C_roomLeft : gCode y_C_roomLeft M_C_roomLeft ∈ gW := gW_c4 120 rfl rfl
def y_A_add : MethodName := ⟨"java/util/ArrayList", "add", "(Ljava/lang/Object;)Z"⟩
def M_A_add : gM := (prog_33_method_25_code, 2, "java/util/ArrayList", "add", [], (Option.some FieldType.boolean))
theorem cd_A_add : gCode y_A_add M_A_add ∈ gW := gW_c4 128 rfl rfl
def y_A_add3 : MethodName := ⟨"java/util/ArrayList", "add", "(Ljava/lang/Object;[Ljava/lang/Object;I)V"⟩
def M_A_add3 : gM := (prog_33_method_24_code, 4, "java/util/ArrayList", "add", [], none)
theorem cd_A_add3 : gCode y_A_add3 M_A_add3 ∈ gW := gW_c4 132 rfl rfl
def y_L_cut : MethodName := ⟨"FolderRoundsLaw", "cut", "(LFolderRounds;IIII[J)I"⟩
def M_L_cut : gM := (method_9_code, 7, "FolderRoundsLaw", "cut", [((0), (14), (17), (13)), ((0), (14), (21), (15))], (Option.some FieldType.int))
theorem cd_L_cut : gCode y_L_cut M_L_cut ∈ gW := gW_c4 135 rfl rfl
def y_F_cut : MethodName := ⟨"FolderRounds", "cut", "(IIII)I"⟩
def M_F_cut : gM := (prog_1_method_8_code, 7, "FolderRounds", "cut", [], (Option.some FieldType.int))
theorem cd_F_cut : gCode y_F_cut M_F_cut ∈ gW := gW_c4 139 rfl rfl
def y_L_lose : MethodName := ⟨"FolderRoundsLaw", "lose", "(LFolderRounds;I[J)I"⟩
def M_L_lose : gM := (method_10_code, 4, "FolderRoundsLaw", "lose", [((0), (9), (12), (13))], (Option.some FieldType.int))
theorem cd_L_lose : gCode y_L_lose M_L_lose ∈ gW := gW_c4 142 rfl rfl
def y_F_lose : MethodName := ⟨"FolderRounds", "lose", "(I)I"⟩
def M_F_lose : gM := (prog_1_method_9_code, 4, "FolderRounds", "lose", [], (Option.some FieldType.int))
theorem cd_F_lose : gCode y_F_lose M_F_lose ∈ gW := gW_c4 146 rfl rfl
def y_T_becomeZeros : MethodName := ⟨"FolderRounds$Table", "becomeZeros", "()V"⟩
def M_T_becomeZeros : gM := (prog_4_method_9_code, 1, "FolderRounds$Table", "becomeZeros", [], none)
theorem cd_T_becomeZeros : gCode y_T_becomeZeros M_T_becomeZeros ∈ gW := gW_c4 150 rfl rfl
def y_J_fill : MethodName := ⟨"java/util/Arrays", "fill", "([II)V"⟩
def M_J_fill : gM := (prog_34_method_103_code, 4, "java/util/Arrays", "fill", [], none)
theorem cd_J_fill : gCode y_J_fill M_J_fill ∈ gW := gW_c4 153 rfl rfl
def y_L_copy : MethodName := ⟨"FolderRoundsLaw", "copy", "(LFolderRounds;II)I"⟩
def M_L_copy : gM := (method_11_code, 4, "FolderRoundsLaw", "copy", [((0), (6), (9), (13))], (Option.some FieldType.int))
theorem cd_L_copy : gCode y_L_copy M_L_copy ∈ gW := gW_c4 156 rfl rfl
def y_F_copy : MethodName := ⟨"FolderRounds", "copy", "(II)V"⟩
def M_F_copy : gM := (prog_1_method_10_code, 5, "FolderRounds", "copy", [], none)
theorem cd_F_copy : gCode y_F_copy M_F_copy ∈ gW := gW_c4 160 rfl rfl
def y_C_become : MethodName := ⟨"FolderRounds$Cartridge", "become", "(LFolderRounds$Cartridge;)V"⟩
def M_C_become : gM := (prog_2_method_3_code, 3, "FolderRounds$Cartridge", "become", [], none)
theorem cd_C_become : gCode y_C_become M_C_become ∈ gW := gW_c4 164 rfl rfl
def y_L_known : MethodName := ⟨"FolderRoundsLaw", "known", "(LFolderRounds;IIII[J)I"⟩
def M_L_known : gM := (method_12_code, 7, "FolderRoundsLaw", "known", [((0), (14), (17), (13)), ((0), (14), (21), (31))], (Option.some FieldType.int))
theorem cd_L_known : gCode y_L_known M_L_known ∈ gW := gW_c4 170 rfl rfl
def y_F_known : MethodName := ⟨"FolderRounds", "known", "(IIII)I"⟩
def M_F_known : gM := (prog_1_method_11_code, 6, "FolderRounds", "known", [], (Option.some FieldType.int))
theorem cd_F_known : gCode y_F_known M_F_known ∈ gW := gW_c4 174 rfl rfl
def y_L_marks : MethodName := ⟨"FolderRoundsLaw", "marks", "(LFolderRounds;I[J)I"⟩
def M_L_marks : gM := (method_13_code, 4, "FolderRoundsLaw", "marks", [((0), (9), (12), (13))], (Option.some FieldType.int))
theorem cd_L_marks : gCode y_L_marks M_L_marks ∈ gW := gW_c4 178 rfl rfl
def y_F_marks : MethodName := ⟨"FolderRounds", "marks", "(I)I"⟩
def M_F_marks : gM := (prog_1_method_12_code, 2, "FolderRounds", "marks", [], (Option.some FieldType.int))
theorem cd_F_marks : gCode y_F_marks M_F_marks ∈ gW := gW_c4 182 rfl rfl
def y_S_countMarks : MethodName := ⟨"FolderRounds$Station", "countMarks", "()I"⟩
def M_S_countMarks : gM := (prog_3_method_15_code, 3, "FolderRounds$Station", "countMarks", [], (Option.some FieldType.int))
theorem cd_S_countMarks : gCode y_S_countMarks M_S_countMarks ∈ gW := gW_c4 186 rfl rfl
def y_L_bytes : MethodName := ⟨"FolderRoundsLaw", "bytes", "(LFolderRounds;I[J)I"⟩
def M_L_bytes : gM := (method_14_code, 4, "FolderRoundsLaw", "bytes", [((0), (9), (12), (13))], (Option.some FieldType.int))
theorem cd_L_bytes : gCode y_L_bytes M_L_bytes ∈ gW := gW_c4 189 rfl rfl
def y_F_bytes : MethodName := ⟨"FolderRounds", "bytes", "(I)I"⟩
def M_F_bytes : gM := (prog_1_method_13_code, 2, "FolderRounds", "bytes", [], (Option.some FieldType.int))
theorem cd_F_bytes : gCode y_F_bytes M_F_bytes ∈ gW := gW_c4 193 rfl rfl
def y_S_countBytes : MethodName := ⟨"FolderRounds$Station", "countBytes", "()I"⟩
def M_S_countBytes : gM := (prog_3_method_16_code, 3, "FolderRounds$Station", "countBytes", [], (Option.some FieldType.int))
theorem cd_S_countBytes : gCode y_S_countBytes M_S_countBytes ∈ gW := gW_c4 197 rfl rfl
def y_L_same : MethodName := ⟨"FolderRoundsLaw", "same", "(LFolderRounds;II[J)I"⟩
def M_L_same : gM := (method_15_code, 5, "FolderRoundsLaw", "same", [((0), (17), (20), (13))], (Option.some FieldType.int))
theorem cd_L_same : gCode y_L_same M_L_same ∈ gW := gW_c4 200 rfl rfl
def y_F_same : MethodName := ⟨"FolderRounds", "same", "(II)Z"⟩
def M_F_same : gM := (prog_1_method_14_code, 5, "FolderRounds", "same", [], (Option.some FieldType.boolean))
theorem cd_F_same : gCode y_F_same M_F_same ∈ gW := gW_c4 204 rfl rfl
def y_S_hasSameSiblingsAs : MethodName := ⟨"FolderRounds$Station", "hasSameSiblingsAs", "(LFolderRounds$Station;)Z"⟩
def M_S_hasSameSiblingsAs : gM := (prog_3_method_17_code, 5, "FolderRounds$Station", "hasSameSiblingsAs", [], (Option.some FieldType.boolean))
theorem cd_S_hasSameSiblingsAs : gCode y_S_hasSameSiblingsAs M_S_hasSameSiblingsAs ∈ gW := gW_c4 208 rfl rfl
def y_S_skipMarks : MethodName := ⟨"FolderRounds$Station", "skipMarks", "(I)I"⟩
def M_S_skipMarks : gM := (prog_3_method_18_code, 3, "FolderRounds$Station", "skipMarks", [], (Option.some FieldType.int))
theorem cd_S_skipMarks : gCode y_S_skipMarks M_S_skipMarks ∈ gW := gW_c4 212 rfl rfl
def y_L_room : MethodName := ⟨"FolderRoundsLaw", "room", "(LFolderRounds;I[J)I"⟩
def M_L_room : gM := (method_16_code, 4, "FolderRoundsLaw", "room", [((0), (9), (12), (13))], (Option.some FieldType.int))
theorem cd_L_room : gCode y_L_room M_L_room ∈ gW := gW_c4 215 rfl rfl
def y_F_room : MethodName := ⟨"FolderRounds", "room", "(I)I"⟩
def M_F_room : gM := (prog_1_method_15_code, 2, "FolderRounds", "room", [], (Option.some FieldType.int))
theorem cd_F_room : gCode y_F_room M_F_room ∈ gW := gW_c4 219 rfl rfl
def y_L_item : MethodName := ⟨"FolderRoundsLaw", "item", "(LFolderRounds;III[J)I"⟩
def M_L_item : gM := (method_17_code, 6, "FolderRoundsLaw", "item", [((0), (12), (15), (13)), ((0), (12), (19), (31))], (Option.some FieldType.int))
theorem cd_L_item : gCode y_L_item M_L_item ∈ gW := gW_c4 222 rfl rfl
def y_F_item : MethodName := ⟨"FolderRounds", "item", "(III)I"⟩
def M_F_item : gM := (prog_1_method_16_code, 6, "FolderRounds", "item", [], (Option.some FieldType.int))
theorem cd_F_item : gCode y_F_item M_F_item ∈ gW := gW_c4 226 rfl rfl
def y_R_init : MethodName := ⟨"FolderRoundsModel", "<init>", "()V"⟩
def M_R_init : gM := (prog_7_method_1_code, 1, "FolderRoundsModel", "<init>", [], none)
theorem cd_R_init : gCode y_R_init M_R_init ∈ gW := gW_c4 231 rfl rfl
def y_R_thrown : MethodName := ⟨"FolderRoundsModel", "thrown", "()I"⟩
def M_R_thrown : gM := (prog_7_method_2_code, 1, "FolderRoundsModel", "thrown", [], (Option.some FieldType.int))
theorem cd_R_thrown : gCode y_R_thrown M_R_thrown ∈ gW := gW_c5 33 rfl rfl
def y_R_edit : MethodName := ⟨"FolderRoundsModel", "edit", "(IIII)V"⟩
def M_R_edit : gM := (prog_7_method_17_code, 5, "FolderRoundsModel", "edit", [], none)
theorem cd_R_edit : gCode y_R_edit M_R_edit ∈ gW := gW_c5 37 rfl rfl
def y_R_isPlace : MethodName := ⟨"FolderRoundsModel", "isPlace", "(II)Z"⟩
def M_R_isPlace : gM := (prog_7_method_16_code, 2, "FolderRoundsModel", "isPlace", [], (Option.some FieldType.boolean))
theorem cd_R_isPlace : gCode y_R_isPlace M_R_isPlace ∈ gW := gW_c5 40 rfl rfl
def y_R_within : MethodName := ⟨"FolderRoundsModel", "within", "(III)Z"⟩
def M_R_within : gM := (prog_7_method_3_code, 3, "FolderRoundsModel", "within", [], (Option.some FieldType.boolean))
theorem cd_R_within : gCode y_R_within M_R_within ∈ gW := gW_c5 43 rfl rfl
def y_R_make : MethodName := ⟨"FolderRoundsModel", "make", "(IIII)I"⟩
def M_R_make : gM := (prog_7_method_15_code, 8, "FolderRoundsModel", "make", [], (Option.some FieldType.int))
theorem cd_R_make : gCode y_R_make M_R_make ∈ gW := gW_c5 47 rfl rfl
def y_R_at : MethodName := ⟨"FolderRoundsModel", "at", "(III)I"⟩
def M_R_at : gM := (prog_7_method_5_code, 3, "FolderRoundsModel", "at", [], (Option.some FieldType.int))
theorem cd_R_at : gCode y_R_at M_R_at ∈ gW := gW_c5 50 rfl rfl
def y_R_hasRoom : MethodName := ⟨"FolderRoundsModel", "hasRoom", "(II)Z"⟩
def M_R_hasRoom : gM := (prog_7_method_13_code, 6, "FolderRoundsModel", "hasRoom", [], (Option.some FieldType.boolean))
theorem cd_R_hasRoom : gCode y_R_hasRoom M_R_hasRoom ∈ gW := gW_c5 54 rfl rfl
def y_R_allBytes : MethodName := ⟨"FolderRoundsModel", "allBytes", "(I)I"⟩
def M_R_allBytes : gM := (prog_7_method_12_code, 4, "FolderRoundsModel", "allBytes", [], (Option.some FieldType.int))
theorem cd_R_allBytes : gCode y_R_allBytes M_R_allBytes ∈ gW := gW_c5 58 rfl rfl
def y_R_bytesOf : MethodName := ⟨"FolderRoundsModel", "bytesOf", "(I)I"⟩
def M_R_bytesOf : gM := (prog_7_method_10_code, 2, "FolderRoundsModel", "bytesOf", [], (Option.some FieldType.int))
theorem cd_R_bytesOf : gCode y_R_bytesOf M_R_bytesOf ∈ gW := gW_c5 62 rfl rfl
def y_R_standing : MethodName := ⟨"FolderRoundsModel", "standing", "(III)I"⟩
def M_R_standing : gM := (prog_7_method_11_code, 4, "FolderRoundsModel", "standing", [], (Option.some FieldType.int))
theorem cd_R_standing : gCode y_R_standing M_R_standing ∈ gW := gW_c5 66 rfl rfl
def y_R_covers : MethodName := ⟨"FolderRoundsModel", "covers", "(II)Z"⟩
def M_R_covers : gM := (prog_7_method_7_code, 5, "FolderRoundsModel", "covers", [], (Option.some FieldType.boolean))
theorem cd_R_covers : gCode y_R_covers M_R_covers ∈ gW := gW_c5 70 rfl rfl
def y_R_counterOf : MethodName := ⟨"FolderRoundsModel", "counterOf", "(II)I"⟩
def M_R_counterOf : gM := (prog_7_method_4_code, 3, "FolderRoundsModel", "counterOf", [], (Option.some FieldType.int))
theorem cd_R_counterOf : gCode y_R_counterOf M_R_counterOf ∈ gW := gW_c5 74 rfl rfl
def y_R_comeToStand : MethodName := ⟨"FolderRoundsModel", "comeToStand", "(II)V"⟩
def M_R_comeToStand : gM := (prog_7_method_14_code, 6, "FolderRoundsModel", "comeToStand", [], none)
theorem cd_R_comeToStand : gCode y_R_comeToStand M_R_comeToStand ∈ gW := gW_c5 78 rfl rfl
def y_R_erase : MethodName := ⟨"FolderRoundsModel", "erase", "(II)V"⟩
def M_R_erase : gM := (prog_7_method_18_code, 3, "FolderRoundsModel", "erase", [], none)
theorem cd_R_erase : gCode y_R_erase M_R_erase ∈ gW := gW_c5 82 rfl rfl
def y_R_siblings : MethodName := ⟨"FolderRoundsModel", "siblings", "(II)I"⟩
def M_R_siblings : gM := (prog_7_method_21_code, 3, "FolderRoundsModel", "siblings", [], (Option.some FieldType.int))
theorem cd_R_siblings : gCode y_R_siblings M_R_siblings ∈ gW := gW_c5 86 rfl rfl
def y_R_count : MethodName := ⟨"FolderRoundsModel", "count", "(IIZ)I"⟩
def M_R_count : gM := (prog_7_method_19_code, 7, "FolderRoundsModel", "count", [], (Option.some FieldType.int))
theorem cd_R_count : gCode y_R_count M_R_count ∈ gW := gW_c5 90 rfl rfl
def y_R_counter : MethodName := ⟨"FolderRoundsModel", "counter", "(IIII)I"⟩
def M_R_counter : gM := (prog_7_method_22_code, 6, "FolderRoundsModel", "counter", [], (Option.some FieldType.int))
theorem cd_R_counter : gCode y_R_counter M_R_counter ∈ gW := gW_c5 94 rfl rfl
def y_R_sibling : MethodName := ⟨"FolderRoundsModel", "sibling", "(III)I"⟩
def M_R_sibling : gM := (prog_7_method_20_code, 9, "FolderRoundsModel", "sibling", [], (Option.some FieldType.int))
theorem cd_R_sibling : gCode y_R_sibling M_R_sibling ∈ gW := gW_c5 98 rfl rfl
def y_R_compare : MethodName := ⟨"FolderRoundsModel", "compare", "(II)I"⟩
def M_R_compare : gM := (prog_7_method_8_code, 5, "FolderRoundsModel", "compare", [], (Option.some FieldType.int))
theorem cd_R_compare : gCode y_R_compare M_R_compare ∈ gW := gW_c5 102 rfl rfl
def y_R_byteOf : MethodName := ⟨"FolderRoundsModel", "byteOf", "(IIII)I"⟩
def M_R_byteOf : gM := (prog_7_method_23_code, 6, "FolderRoundsModel", "byteOf", [], (Option.some FieldType.int))
theorem cd_R_byteOf : gCode y_R_byteOf M_R_byteOf ∈ gW := gW_c5 106 rfl rfl
def y_R_visit : MethodName := ⟨"FolderRoundsModel", "visit", "(III)I"⟩
def M_R_visit : gM := (prog_7_method_32_code, 4, "FolderRoundsModel", "visit", [], (Option.some FieldType.int))
theorem cd_R_visit : gCode y_R_visit M_R_visit ∈ gW := gW_c5 110 rfl rfl
def y_R_visitUpTo : MethodName := ⟨"FolderRoundsModel", "visitUpTo", "(IIII)I"⟩
def M_R_visitUpTo : gM := (prog_7_method_31_code, 7, "FolderRoundsModel", "visitUpTo", [], (Option.some FieldType.int))
theorem cd_R_visitUpTo : gCode y_R_visitUpTo M_R_visitUpTo ∈ gW := gW_c5 115 rfl rfl
def y_R_unload : MethodName := ⟨"FolderRoundsModel", "unload", "(III)I"⟩
def M_R_unload : gM := (prog_7_method_25_code, 6, "FolderRoundsModel", "unload", [], (Option.some FieldType.int))
theorem cd_R_unload : gCode y_R_unload M_R_unload ∈ gW := gW_c5 119 rfl rfl
def y_R_isCovered : MethodName := ⟨"FolderRoundsModel", "isCovered", "(II)Z"⟩
def M_R_isCovered : gM := (prog_7_method_6_code, 5, "FolderRoundsModel", "isCovered", [], (Option.some FieldType.boolean))
theorem cd_R_isCovered : gCode y_R_isCovered M_R_isCovered ∈ gW := gW_c5 123 rfl rfl
def y_R_learn : MethodName := ⟨"FolderRoundsModel", "learn", "(II)V"⟩
def M_R_learn : gM := (prog_7_method_26_code, 7, "FolderRoundsModel", "learn", [], none)
theorem cd_R_learn : gCode y_R_learn M_R_learn ∈ gW := gW_c5 127 rfl rfl
def y_R_dropMarks : MethodName := ⟨"FolderRoundsModel", "dropMarks", "(I)V"⟩
def M_R_dropMarks : gM := (prog_7_method_27_code, 6, "FolderRoundsModel", "dropMarks", [], none)
theorem cd_R_dropMarks : gCode y_R_dropMarks M_R_dropMarks ∈ gW := gW_c5 131 rfl rfl
def y_R_nextToLoad : MethodName := ⟨"FolderRoundsModel", "nextToLoad", "(III)I"⟩
def M_R_nextToLoad : gM := (prog_7_method_30_code, 8, "FolderRoundsModel", "nextToLoad", [], (Option.some FieldType.int))
theorem cd_R_nextToLoad : gCode y_R_nextToLoad M_R_nextToLoad ∈ gW := gW_c5 135 rfl rfl
def y_R_isLacked : MethodName := ⟨"FolderRoundsModel", "isLacked", "(III)Z"⟩
def M_R_isLacked : gM := (prog_7_method_28_code, 7, "FolderRoundsModel", "isLacked", [], (Option.some FieldType.boolean))
theorem cd_R_isLacked : gCode y_R_isLacked M_R_isLacked ∈ gW := gW_c5 139 rfl rfl
def y_R_isSooner : MethodName := ⟨"FolderRoundsModel", "isSooner", "(II)Z"⟩
def M_R_isSooner : gM := (prog_7_method_29_code, 3, "FolderRoundsModel", "isSooner", [], (Option.some FieldType.boolean))
theorem cd_R_isSooner : gCode y_R_isSooner M_R_isSooner ∈ gW := gW_c5 143 rfl rfl
def y_R_sumOf : MethodName := ⟨"FolderRoundsModel", "sumOf", "(I)I"⟩
def M_R_sumOf : gM := (prog_7_method_9_code, 2, "FolderRoundsModel", "sumOf", [], (Option.some FieldType.int))
theorem cd_R_sumOf : gCode y_R_sumOf M_R_sumOf ∈ gW := gW_c5 147 rfl rfl
def y_R_roomOf : MethodName := ⟨"FolderRoundsModel", "roomOf", "(I)I"⟩
def M_R_roomOf : gM := (prog_7_method_24_code, 4, "FolderRoundsModel", "roomOf", [], (Option.some FieldType.int))
theorem cd_R_roomOf : gCode y_R_roomOf M_R_roomOf ∈ gW := gW_c5 151 rfl rfl
def y_R_cut : MethodName := ⟨"FolderRoundsModel", "cut", "(IIII)I"⟩
def M_R_cut : gM := (prog_7_method_33_code, 5, "FolderRoundsModel", "cut", [], (Option.some FieldType.int))
theorem cd_R_cut : gCode y_R_cut M_R_cut ∈ gW := gW_c5 155 rfl rfl
def y_R_lose : MethodName := ⟨"FolderRoundsModel", "lose", "(I)I"⟩
def M_R_lose : gM := (prog_7_method_34_code, 4, "FolderRoundsModel", "lose", [], (Option.some FieldType.int))
theorem cd_R_lose : gCode y_R_lose M_R_lose ∈ gW := gW_c5 159 rfl rfl
def y_R_copy : MethodName := ⟨"FolderRoundsModel", "copy", "(II)V"⟩
def M_R_copy : gM := (prog_7_method_35_code, 4, "FolderRoundsModel", "copy", [], none)
theorem cd_R_copy : gCode y_R_copy M_R_copy ∈ gW := gW_c5 163 rfl rfl
def y_R_known : MethodName := ⟨"FolderRoundsModel", "known", "(IIII)I"⟩
def M_R_known : gM := (prog_7_method_36_code, 5, "FolderRoundsModel", "known", [], (Option.some FieldType.int))
theorem cd_R_known : gCode y_R_known M_R_known ∈ gW := gW_c5 167 rfl rfl
def y_R_marks : MethodName := ⟨"FolderRoundsModel", "marks", "(I)I"⟩
def M_R_marks : gM := (prog_7_method_37_code, 4, "FolderRoundsModel", "marks", [], (Option.some FieldType.int))
theorem cd_R_marks : gCode y_R_marks M_R_marks ∈ gW := gW_c5 171 rfl rfl
def y_R_bytes : MethodName := ⟨"FolderRoundsModel", "bytes", "(I)I"⟩
def M_R_bytes : gM := (prog_7_method_38_code, 2, "FolderRoundsModel", "bytes", [], (Option.some FieldType.int))
theorem cd_R_bytes : gCode y_R_bytes M_R_bytes ∈ gW := gW_c5 175 rfl rfl
def y_R_same : MethodName := ⟨"FolderRoundsModel", "same", "(II)Z"⟩
def M_R_same : gM := (prog_7_method_39_code, 9, "FolderRoundsModel", "same", [], (Option.some FieldType.boolean))
theorem cd_R_same : gCode y_R_same M_R_same ∈ gW := gW_c5 179 rfl rfl
def y_R_room : MethodName := ⟨"FolderRoundsModel", "room", "(I)I"⟩
def M_R_room : gM := (prog_7_method_40_code, 2, "FolderRoundsModel", "room", [], (Option.some FieldType.int))
theorem cd_R_room : gCode y_R_room M_R_room ∈ gW := gW_c5 183 rfl rfl
def y_R_item : MethodName := ⟨"FolderRoundsModel", "item", "(III)I"⟩
def M_R_item : gM := (prog_7_method_41_code, 5, "FolderRoundsModel", "item", [], (Option.some FieldType.int))
theorem cd_R_item : gCode y_R_item M_R_item ∈ gW := gW_c5 187 rfl rfl
def y_R_leftOut : MethodName := ⟨"FolderRoundsModel", "leftOut", "()I"⟩
def M_R_leftOut : gM := (prog_7_method_42_code, 1, "FolderRoundsModel", "leftOut", [], (Option.some FieldType.int))
theorem cd_R_leftOut : gCode y_R_leftOut M_R_leftOut ∈ gW := gW_c5 191 rfl rfl
def y_L_law : MethodName := ⟨"FolderRoundsLaw", "law", "([I)Z"⟩
def M_L_law : gM := (code, 7, "FolderRoundsLaw", "law", [], (some FieldType.boolean))
theorem fl_F_11 (M : gM) (h : M.2.2.1 = "FolderRounds") : gFl M 11 5 0 := ⟨RX4, TX4, 4, "FolderRounds", rfl, by decide, by rw [h]; exact gW_c1 116 rfl rfl, gws_5, Or.inl rfl⟩
theorem fl_F_20 (M : gM) (h : M.2.2.1 = "FolderRounds") : gFl M 20 5 1 := ⟨RX4, TX4, 4, "FolderRounds", rfl, by decide, by rw [h]; exact gW_c1 117 rfl rfl, gws_5, Or.inl rfl⟩
theorem fl_F_28 (M : gM) (h : M.2.2.1 = "FolderRounds") : gFl M 28 5 2 := ⟨RX4, TX4, 4, "FolderRounds", rfl, by decide, by rw [h]; exact gW_c1 118 rfl rfl, gws_5, Or.inl rfl⟩
theorem fl_F_32 (M : gM) (h : M.2.2.1 = "FolderRounds") : gFl M 32 5 3 := ⟨RX4, TX4, 4, "FolderRounds", rfl, by decide, by rw [h]; exact gW_c1 119 rfl rfl, gws_5, Or.inl rfl⟩
theorem fl_S_9 (M : gM) (h : M.2.2.1 = "FolderRounds$Station") : gFl M 9 2 0 := ⟨RX1, TX1, 3, "FolderRounds$Station", rfl, by decide, by rw [h]; exact gW_c1 82 rfl rfl, gws_2, Or.inl rfl⟩
theorem fl_S_18 (M : gM) (h : M.2.2.1 = "FolderRounds$Station") : gFl M 18 2 1 := ⟨RX1, TX1, 3, "FolderRounds$Station", rfl, by decide, by rw [h]; exact gW_c1 83 rfl rfl, gws_2, Or.inl rfl⟩
theorem fl_S_25 (M : gM) (h : M.2.2.1 = "FolderRounds$Station") : gFl M 25 2 2 := ⟨RX1, TX1, 3, "FolderRounds$Station", rfl, by decide, by rw [h]; exact gW_c1 85 rfl rfl, gws_2, Or.inl rfl⟩
theorem fl_A_9 (M : gM) (h : M.2.2.1 = "java/util/ArrayList") : gFl M 9 0 1 := ⟨RJx4a65c, TJx4a65c, 3, "java/util/ArrayList", rfl, by decide, by rw [h]; exact gW_c1 59 rfl rfl, gws_0, Or.inl rfl⟩
theorem fl_AbstractList_7 (M : gM) (h : M.2.2.1 = "java/util/AbstractList") : gFl M 7 0 0 := ⟨RJx4a65c, TJx4a65c, 3, "java/util/AbstractList", rfl, by decide, by rw [h]; exact gW_c1 61 rfl rfl, gws_0, Or.inl rfl⟩
theorem fl_T_9 (M : gM) (h : M.2.2.1 = "FolderRounds$Table") : gFl M 9 3 0 := ⟨RX2, TX2, 1, "FolderRounds$Table", rfl, by decide, by rw [h]; exact gW_c1 77 rfl rfl, gws_3, Or.inl rfl⟩
theorem fl_C_12 (M : gM) (h : M.2.2.1 = "FolderRounds$Cartridge") : gFl M 12 1 0 := ⟨RX0, TX0, 2, "FolderRounds$Cartridge", rfl, by decide, by rw [h]; exact gW_c1 105 rfl rfl, gws_1, Or.inl rfl⟩
theorem fl_C_21 (M : gM) (h : M.2.2.1 = "FolderRounds$Cartridge") : gFl M 21 1 1 := ⟨RX0, TX0, 2, "FolderRounds$Cartridge", rfl, by decide, by rw [h]; exact gW_c1 107 rfl rfl, gws_1, Or.inl rfl⟩
theorem vx_F_45 : ∀ c ∈ vx_at0 "FolderRounds" 45 "java/lang/IllegalArgumentException" ["java/lang/RuntimeException", "java/lang/Exception"], c ∈ gW ∨ c ∈ gNwl := by
  have h : ∀ c ∈ vx_at0 "FolderRounds" 45 "java/lang/IllegalArgumentException" ["java/lang/RuntimeException", "java/lang/Exception"], (c ∈ lw_tbl ∧ goodWord c = true) ∨ c ∈ gNwl := by decide +kernel
  exact fun c hc => (h c hc).imp (fun q => List.mem_filter.mpr q) id
theorem vx_F_133 : ∀ c ∈ vx_at0 "FolderRounds" 133 "java/util/NoSuchElementException" ["java/lang/RuntimeException", "java/lang/Exception"], c ∈ gW ∨ c ∈ gNwl := by
  have h : ∀ c ∈ vx_at0 "FolderRounds" 133 "java/util/NoSuchElementException" ["java/lang/RuntimeException", "java/lang/Exception"], (c ∈ lw_tbl ∧ goodWord c = true) ∨ c ∈ gNwl := by decide +kernel
  exact fun c hc => (h c hc).imp (fun q => List.mem_filter.mpr q) id
theorem vx_F_150 : ∀ c ∈ vx_at0 "FolderRounds" 150 "java/lang/UnsupportedOperationException" ["java/lang/RuntimeException", "java/lang/Exception"], c ∈ gW ∨ c ∈ gNwl := by
  have h : ∀ c ∈ vx_at0 "FolderRounds" 150 "java/lang/UnsupportedOperationException" ["java/lang/RuntimeException", "java/lang/Exception"], (c ∈ lw_tbl ∧ goodWord c = true) ∨ c ∈ gNwl := by decide +kernel
  exact fun c hc => (h c hc).imp (fun q => List.mem_filter.mpr q) id
theorem fl_V_9 (M : gM) (h : M.2.2.1 = "FolderRounds$Version") : gFl M 9 4 0 := ⟨RX3, TX3, 4, "FolderRounds$Version", rfl, by decide, by rw [h]; exact gW_c3 58 rfl rfl, gws_4, Or.inl rfl⟩
theorem fl_V_15 (M : gM) (h : M.2.2.1 = "FolderRounds$Version") : gFl M 15 4 1 := ⟨RX3, TX3, 4, "FolderRounds$Version", rfl, by decide, by rw [h]; exact gW_c3 61 rfl rfl, gws_4, Or.inl rfl⟩
theorem fl_V_18 (M : gM) (h : M.2.2.1 = "FolderRounds$Version") : gFl M 18 4 2 := ⟨RX3, TX3, 4, "FolderRounds$Version", rfl, by decide, by rw [h]; exact gW_c3 63 rfl rfl, gws_4, Or.inl rfl⟩
theorem fl_V_21 (M : gM) (h : M.2.2.1 = "FolderRounds$Version") : gFl M 21 4 3 := ⟨RX3, TX3, 4, "FolderRounds$Version", rfl, by decide, by rw [h]; exact gW_c3 65 rfl rfl, gws_4, Or.inl rfl⟩
theorem fl_A_48 (M : gM) (h : M.2.2.1 = "java/util/ArrayList") : gFl M 48 0 2 := ⟨RJx4a65c, TJx4a65c, 3, "java/util/ArrayList", rfl, by decide, by rw [h]; exact gW_c1 60 rfl rfl, gws_0, Or.inl rfl⟩
theorem fl_A_63 (M : gM) (h : M.2.2.1 = "java/util/ArrayList") : gFl M 63 0 0 := ⟨RJx4a65c, TJx4a65c, 3, "java/util/ArrayList", rfl, by decide, by rw [h]; exact gW_c1 62 rfl rfl, gws_0, Or.inr (gW_c1 63 rfl rfl)⟩
theorem fl_T_25 (M : gM) (h : M.2.2.1 = "FolderRounds$Table") : gFl M 25 4 0 := ⟨RX3, TX3, 4, "FolderRounds$Version", rfl, by decide, by rw [h]; exact gW_c3 59 rfl rfl, gws_4, Or.inl rfl⟩
theorem fl_T_31 (M : gM) (h : M.2.2.1 = "FolderRounds$Table") : gFl M 31 4 3 := ⟨RX3, TX3, 4, "FolderRounds$Version", rfl, by decide, by rw [h]; exact gW_c3 67 rfl rfl, gws_4, Or.inl rfl⟩
theorem fl_F_61 (M : gM) (h : M.2.2.1 = "FolderRounds") : gFl M 61 4 3 := ⟨RX3, TX3, 4, "FolderRounds$Version", rfl, by decide, by rw [h]; exact gW_c3 66 rfl rfl, gws_4, Or.inl rfl⟩
theorem vx_F_72 : ∀ c ∈ vx_at0 "FolderRounds" 72 "java/lang/IndexOutOfBoundsException" ["java/lang/RuntimeException", "java/lang/Exception"], c ∈ gW ∨ c ∈ gNwl := by
  have h : ∀ c ∈ vx_at0 "FolderRounds" 72 "java/lang/IndexOutOfBoundsException" ["java/lang/RuntimeException", "java/lang/Exception"], (c ∈ lw_tbl ∧ goodWord c = true) ∨ c ∈ gNwl := by decide +kernel
  exact fun c hc => (h c hc).imp (fun q => List.mem_filter.mpr q) id
theorem fl_F_67 (M : gM) (h : M.2.2.1 = "FolderRounds") : gFl M 67 4 1 := ⟨RX3, TX3, 4, "FolderRounds$Version", rfl, by decide, by rw [h]; exact gW_c3 62 rfl rfl, gws_4, Or.inl rfl⟩
theorem fl_F_73 (M : gM) (h : M.2.2.1 = "FolderRounds") : gFl M 73 4 2 := ⟨RX3, TX3, 4, "FolderRounds$Version", rfl, by decide, by rw [h]; exact gW_c3 64 rfl rfl, gws_4, Or.inl rfl⟩
theorem fl_F_85 (M : gM) (h : M.2.2.1 = "FolderRounds") : gFl M 85 1 0 := ⟨RX0, TX0, 2, "FolderRounds$Cartridge", rfl, by decide, by rw [h]; exact gW_c1 106 rfl rfl, gws_1, Or.inl rfl⟩
theorem fl_F_95 (M : gM) (h : M.2.2.1 = "FolderRounds") : gFl M 95 1 1 := ⟨RX0, TX0, 2, "FolderRounds$Cartridge", rfl, by decide, by rw [h]; exact gW_c1 108 rfl rfl, gws_1, Or.inl rfl⟩
theorem fl_F_111 (M : gM) (h : M.2.2.1 = "FolderRounds") : gFl M 111 2 2 := ⟨RX1, TX1, 3, "FolderRounds$Station", rfl, by decide, by rw [h]; exact gW_c1 86 rfl rfl, gws_2, Or.inl rfl⟩
theorem fl_F_201 (M : gM) (h : M.2.2.1 = "FolderRounds") : gFl M 201 2 1 := ⟨RX1, TX1, 3, "FolderRounds$Station", rfl, by decide, by rw [h]; exact gW_c1 84 rfl rfl, gws_2, Or.inl rfl⟩
theorem fl_F_138 (M : gM) (h : M.2.2.1 = "FolderRounds") : gFl M 138 4 0 := ⟨RX3, TX3, 4, "FolderRounds$Version", rfl, by decide, by rw [h]; exact gW_c3 60 rfl rfl, gws_4, Or.inl rfl⟩
theorem fl_R_7 (M : gM) (h : M.2.2.1 = "FolderRoundsModel") : gFl M 7 6 2 := ⟨RX5, TX5, 12, "FolderRoundsModel", rfl, by decide, by rw [h]; exact gW_c4 235 rfl rfl, gws_6, Or.inl rfl⟩
theorem fl_R_13 (M : gM) (h : M.2.2.1 = "FolderRoundsModel") : gFl M 13 6 3 := ⟨RX5, TX5, 12, "FolderRoundsModel", rfl, by decide, by rw [h]; exact gW_c4 236 rfl rfl, gws_6, Or.inl rfl⟩
theorem fl_R_16 (M : gM) (h : M.2.2.1 = "FolderRoundsModel") : gFl M 16 6 4 := ⟨RX5, TX5, 12, "FolderRoundsModel", rfl, by decide, by rw [h]; exact gW_c4 237 rfl rfl, gws_6, Or.inl rfl⟩
theorem fl_R_19 (M : gM) (h : M.2.2.1 = "FolderRoundsModel") : gFl M 19 6 5 := ⟨RX5, TX5, 12, "FolderRoundsModel", rfl, by decide, by rw [h]; exact gW_c4 238 rfl rfl, gws_6, Or.inl rfl⟩
theorem fl_R_22 (M : gM) (h : M.2.2.1 = "FolderRoundsModel") : gFl M 22 6 6 := ⟨RX5, TX5, 12, "FolderRoundsModel", rfl, by decide, by rw [h]; exact gW_c4 239 rfl rfl, gws_6, Or.inl rfl⟩
theorem fl_R_25 (M : gM) (h : M.2.2.1 = "FolderRoundsModel") : gFl M 25 6 7 := ⟨RX5, TX5, 12, "FolderRoundsModel", rfl, by decide, by rw [h]; exact gW_c5 0 rfl rfl, gws_6, Or.inl rfl⟩
theorem fl_R_28 (M : gM) (h : M.2.2.1 = "FolderRoundsModel") : gFl M 28 6 8 := ⟨RX5, TX5, 12, "FolderRoundsModel", rfl, by decide, by rw [h]; exact gW_c5 1 rfl rfl, gws_6, Or.inl rfl⟩
theorem fl_R_31 (M : gM) (h : M.2.2.1 = "FolderRoundsModel") : gFl M 31 6 9 := ⟨RX5, TX5, 12, "FolderRoundsModel", rfl, by decide, by rw [h]; exact gW_c5 2 rfl rfl, gws_6, Or.inl rfl⟩
theorem fl_R_34 (M : gM) (h : M.2.2.1 = "FolderRoundsModel") : gFl M 34 6 10 := ⟨RX5, TX5, 12, "FolderRoundsModel", rfl, by decide, by rw [h]; exact gW_c5 3 rfl rfl, gws_6, Or.inl rfl⟩
theorem fl_R_37 (M : gM) (h : M.2.2.1 = "FolderRoundsModel") : gFl M 37 6 0 := ⟨RX5, TX5, 12, "FolderRoundsModel", rfl, by decide, by rw [h]; exact gW_c4 233 rfl rfl, gws_6, Or.inl rfl⟩
theorem fl_R_63 (M : gM) (h : M.2.2.1 = "FolderRoundsModel") : gFl M 63 6 1 := ⟨RX5, TX5, 12, "FolderRoundsModel", rfl, by decide, by rw [h]; exact gW_c4 234 rfl rfl, gws_6, Or.inl rfl⟩
theorem fl_R_97 (M : gM) (h : M.2.2.1 = "FolderRoundsModel") : gFl M 97 6 11 := ⟨RX5, TX5, 12, "FolderRoundsModel", rfl, by decide, by rw [h]; exact gW_c5 4 rfl rfl, gws_6, Or.inl rfl⟩
theorem gw_aI : Cond.arrayClass .int ∈ gW := gW_c1 81 rfl rfl
theorem gw_aL : Cond.arrayClass .long ∈ gW := gW_c5 192 rfl rfl
