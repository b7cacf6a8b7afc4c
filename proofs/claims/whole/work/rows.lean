section
-- ===== PART A: goes FIRST, ahead of the names: the tables' words, and 'selects' of the private methods out of them =====
/-- a private method of a class that the tables say can be made, by its rows of tables_1 -/
def lw_okq (q : MethodName × Nat) : Prop := (q.1.cls ≠ "java/lang/invoke/MethodHandle" ∧ q.1.cls ≠ "java/lang/invoke/VarHandle") ∧ Cond.instantiable q.1.cls q.2 ∈ tables_1 ∧ Cond.privateMethod q.1 ∈ tables_1 ∧ Cond.instanceMethod q.1 ∈ tables_1
theorem lw_p0 : lw_okq (⟨"FolderRounds", "stationAt", "(I)LFolderRounds$Station;"⟩, 4) := ⟨⟨by decide +kernel, by decide +kernel⟩, List.mem_of_getElem? (i := 31) (by decide +kernel), List.mem_of_getElem? (i := 144) (by decide +kernel), List.mem_of_getElem? (i := 145) (by decide +kernel)⟩
theorem lw_p1 : lw_okq (⟨"java/lang/Throwable", "fillInStackTrace", "(I)Ljava/lang/Throwable;"⟩, 6) := ⟨⟨by decide +kernel, by decide +kernel⟩, List.mem_of_getElem? (i := 190) (by decide +kernel), List.mem_of_getElem? (i := 188) (by decide +kernel), List.mem_of_getElem? (i := 189) (by decide +kernel)⟩
theorem lw_p2 : lw_okq (⟨"java/util/ArrayList", "fastRemove", "([Ljava/lang/Object;I)V"⟩, 3) := ⟨⟨by decide +kernel, by decide +kernel⟩, List.mem_of_getElem? (i := 46) (by decide +kernel), List.mem_of_getElem? (i := 604) (by decide +kernel), List.mem_of_getElem? (i := 605) (by decide +kernel)⟩
theorem lw_p3 : lw_okq (⟨"java/util/ArrayList", "rangeCheckForAdd", "(I)V"⟩, 3) := ⟨⟨by decide +kernel, by decide +kernel⟩, List.mem_of_getElem? (i := 46) (by decide +kernel), List.mem_of_getElem? (i := 624) (by decide +kernel), List.mem_of_getElem? (i := 625) (by decide +kernel)⟩
theorem lw_p4 : lw_okq (⟨"java/util/ArrayList", "outOfBoundsMsg", "(I)Ljava/lang/String;"⟩, 3) := ⟨⟨by decide +kernel, by decide +kernel⟩, List.mem_of_getElem? (i := 46) (by decide +kernel), List.mem_of_getElem? (i := 637) (by decide +kernel), List.mem_of_getElem? (i := 638) (by decide +kernel)⟩
theorem lw_p5 : lw_okq (⟨"java/util/ArrayList", "grow", "()[Ljava/lang/Object;"⟩, 3) := ⟨⟨by decide +kernel, by decide +kernel⟩, List.mem_of_getElem? (i := 46) (by decide +kernel), List.mem_of_getElem? (i := 654) (by decide +kernel), List.mem_of_getElem? (i := 655) (by decide +kernel)⟩
theorem lw_p6 : lw_okq (⟨"java/util/ArrayList", "grow", "(I)[Ljava/lang/Object;"⟩, 3) := ⟨⟨by decide +kernel, by decide +kernel⟩, List.mem_of_getElem? (i := 46) (by decide +kernel), List.mem_of_getElem? (i := 658) (by decide +kernel), List.mem_of_getElem? (i := 659) (by decide +kernel)⟩
theorem lw_p7 : lw_okq (⟨"FolderRounds", "siblingAt", "(III)LFolderRounds$Version;"⟩, 4) := ⟨⟨by decide +kernel, by decide +kernel⟩, List.mem_of_getElem? (i := 31) (by decide +kernel), List.mem_of_getElem? (i := 726) (by decide +kernel), List.mem_of_getElem? (i := 727) (by decide +kernel)⟩
theorem lw_p8 : lw_okq (⟨"FolderRounds", "cartridgeAt", "(I)LFolderRounds$Cartridge;"⟩, 4) := ⟨⟨by decide +kernel, by decide +kernel⟩, List.mem_of_getElem? (i := 31) (by decide +kernel), List.mem_of_getElem? (i := 756) (by decide +kernel), List.mem_of_getElem? (i := 757) (by decide +kernel)⟩
theorem lw_p9 : lw_okq (⟨"FolderRounds", "goThrough", "(LFolderRounds$Cartridge;LFolderRounds$Station;II)I"⟩, 4) := ⟨⟨by decide +kernel, by decide +kernel⟩, List.mem_of_getElem? (i := 31) (by decide +kernel), List.mem_of_getElem? (i := 761) (by decide +kernel), List.mem_of_getElem? (i := 762) (by decide +kernel)⟩
theorem lw_p10 : lw_okq (⟨"FolderRounds", "unload", "(LFolderRounds$Cartridge;LFolderRounds$Station;I)I"⟩, 4) := ⟨⟨by decide +kernel, by decide +kernel⟩, List.mem_of_getElem? (i := 31) (by decide +kernel), List.mem_of_getElem? (i := 765) (by decide +kernel), List.mem_of_getElem? (i := 766) (by decide +kernel)⟩
theorem lw_p11 : lw_okq (⟨"FolderRounds", "load", "(LFolderRounds$Cartridge;LFolderRounds$Station;II)I"⟩, 4) := ⟨⟨by decide +kernel, by decide +kernel⟩, List.mem_of_getElem? (i := 31) (by decide +kernel), List.mem_of_getElem? (i := 807) (by decide +kernel), List.mem_of_getElem? (i := 808) (by decide +kernel)⟩
theorem lw_p12 : lw_okq (⟨"FolderRounds", "chooseWhatToLoad", "(LFolderRounds$Station;I)V"⟩, 4) := ⟨⟨by decide +kernel, by decide +kernel⟩, List.mem_of_getElem? (i := 31) (by decide +kernel), List.mem_of_getElem? (i := 811) (by decide +kernel), List.mem_of_getElem? (i := 812) (by decide +kernel)⟩
theorem lw_p13 : lw_okq (⟨"FolderRounds", "addBySum", "(LFolderRounds$Version;)V"⟩, 4) := ⟨⟨by decide +kernel, by decide +kernel⟩, List.mem_of_getElem? (i := 31) (by decide +kernel), List.mem_of_getElem? (i := 824) (by decide +kernel), List.mem_of_getElem? (i := 825) (by decide +kernel)⟩
theorem lw_p14 : lw_okq (⟨"java/util/ArrayList", "add", "(Ljava/lang/Object;[Ljava/lang/Object;I)V"⟩, 3) := ⟨⟨by decide +kernel, by decide +kernel⟩, List.mem_of_getElem? (i := 46) (by decide +kernel), List.mem_of_getElem? (i := 850) (by decide +kernel), List.mem_of_getElem? (i := 851) (by decide +kernel)⟩
theorem lw_p15 : lw_okq (⟨"FolderRoundsModel", "make", "(IIII)I"⟩, 12) := ⟨⟨by decide +kernel, by decide +kernel⟩, List.mem_of_getElem? (i := 948) (by decide +kernel), List.mem_of_getElem? (i := 1005) (by decide +kernel), List.mem_of_getElem? (i := 1006) (by decide +kernel)⟩
def lw_privs_1 : List (MethodName × Nat) := [(⟨"FolderRounds", "stationAt", "(I)LFolderRounds$Station;"⟩, 4), (⟨"java/lang/Throwable", "fillInStackTrace", "(I)Ljava/lang/Throwable;"⟩, 6), (⟨"java/util/ArrayList", "fastRemove", "([Ljava/lang/Object;I)V"⟩, 3), (⟨"java/util/ArrayList", "rangeCheckForAdd", "(I)V"⟩, 3), (⟨"java/util/ArrayList", "outOfBoundsMsg", "(I)Ljava/lang/String;"⟩, 3), (⟨"java/util/ArrayList", "grow", "()[Ljava/lang/Object;"⟩, 3), (⟨"java/util/ArrayList", "grow", "(I)[Ljava/lang/Object;"⟩, 3), (⟨"FolderRounds", "siblingAt", "(III)LFolderRounds$Version;"⟩, 4), (⟨"FolderRounds", "cartridgeAt", "(I)LFolderRounds$Cartridge;"⟩, 4), (⟨"FolderRounds", "goThrough", "(LFolderRounds$Cartridge;LFolderRounds$Station;II)I"⟩, 4), (⟨"FolderRounds", "unload", "(LFolderRounds$Cartridge;LFolderRounds$Station;I)I"⟩, 4), (⟨"FolderRounds", "load", "(LFolderRounds$Cartridge;LFolderRounds$Station;II)I"⟩, 4), (⟨"FolderRounds", "chooseWhatToLoad", "(LFolderRounds$Station;I)V"⟩, 4), (⟨"FolderRounds", "addBySum", "(LFolderRounds$Version;)V"⟩, 4), (⟨"java/util/ArrayList", "add", "(Ljava/lang/Object;[Ljava/lang/Object;I)V"⟩, 3), (⟨"FolderRoundsModel", "make", "(IIII)I"⟩, 12)]
theorem lw_r1 : ∀ q ∈ lw_privs_1, lw_okq q := List.forall_mem_cons.mpr ⟨lw_p0, List.forall_mem_cons.mpr ⟨lw_p1, List.forall_mem_cons.mpr ⟨lw_p2, List.forall_mem_cons.mpr ⟨lw_p3, List.forall_mem_cons.mpr ⟨lw_p4, List.forall_mem_cons.mpr ⟨lw_p5, List.forall_mem_cons.mpr ⟨lw_p6, List.forall_mem_cons.mpr ⟨lw_p7, List.forall_mem_cons.mpr ⟨lw_p8, List.forall_mem_cons.mpr ⟨lw_p9, List.forall_mem_cons.mpr ⟨lw_p10, List.forall_mem_cons.mpr ⟨lw_p11, List.forall_mem_cons.mpr ⟨lw_p12, List.forall_mem_cons.mpr ⟨lw_p13, List.forall_mem_cons.mpr ⟨lw_p14, List.forall_mem_cons.mpr ⟨lw_p15, fun _ h => absurd h List.not_mem_nil⟩⟩⟩⟩⟩⟩⟩⟩⟩⟩⟩⟩⟩⟩⟩⟩
theorem lw_p16 : lw_okq (⟨"FolderRoundsModel", "hasRoom", "(II)Z"⟩, 12) := ⟨⟨by decide +kernel, by decide +kernel⟩, List.mem_of_getElem? (i := 948) (by decide +kernel), List.mem_of_getElem? (i := 1012) (by decide +kernel), List.mem_of_getElem? (i := 1013) (by decide +kernel)⟩
theorem lw_p17 : lw_okq (⟨"FolderRoundsModel", "allBytes", "(I)I"⟩, 12) := ⟨⟨by decide +kernel, by decide +kernel⟩, List.mem_of_getElem? (i := 948) (by decide +kernel), List.mem_of_getElem? (i := 1016) (by decide +kernel), List.mem_of_getElem? (i := 1017) (by decide +kernel)⟩
theorem lw_p18 : lw_okq (⟨"FolderRoundsModel", "bytesOf", "(I)I"⟩, 12) := ⟨⟨by decide +kernel, by decide +kernel⟩, List.mem_of_getElem? (i := 948) (by decide +kernel), List.mem_of_getElem? (i := 1020) (by decide +kernel), List.mem_of_getElem? (i := 1021) (by decide +kernel)⟩
theorem lw_p19 : lw_okq (⟨"FolderRoundsModel", "standing", "(III)I"⟩, 12) := ⟨⟨by decide +kernel, by decide +kernel⟩, List.mem_of_getElem? (i := 948) (by decide +kernel), List.mem_of_getElem? (i := 1024) (by decide +kernel), List.mem_of_getElem? (i := 1025) (by decide +kernel)⟩
theorem lw_p20 : lw_okq (⟨"FolderRoundsModel", "covers", "(II)Z"⟩, 12) := ⟨⟨by decide +kernel, by decide +kernel⟩, List.mem_of_getElem? (i := 948) (by decide +kernel), List.mem_of_getElem? (i := 1028) (by decide +kernel), List.mem_of_getElem? (i := 1029) (by decide +kernel)⟩
theorem lw_p21 : lw_okq (⟨"FolderRoundsModel", "counterOf", "(II)I"⟩, 12) := ⟨⟨by decide +kernel, by decide +kernel⟩, List.mem_of_getElem? (i := 948) (by decide +kernel), List.mem_of_getElem? (i := 1032) (by decide +kernel), List.mem_of_getElem? (i := 1033) (by decide +kernel)⟩
theorem lw_p22 : lw_okq (⟨"FolderRoundsModel", "comeToStand", "(II)V"⟩, 12) := ⟨⟨by decide +kernel, by decide +kernel⟩, List.mem_of_getElem? (i := 948) (by decide +kernel), List.mem_of_getElem? (i := 1036) (by decide +kernel), List.mem_of_getElem? (i := 1037) (by decide +kernel)⟩
theorem lw_p23 : lw_okq (⟨"FolderRoundsModel", "count", "(IIZ)I"⟩, 12) := ⟨⟨by decide +kernel, by decide +kernel⟩, List.mem_of_getElem? (i := 948) (by decide +kernel), List.mem_of_getElem? (i := 1048) (by decide +kernel), List.mem_of_getElem? (i := 1049) (by decide +kernel)⟩
theorem lw_p24 : lw_okq (⟨"FolderRoundsModel", "sibling", "(III)I"⟩, 12) := ⟨⟨by decide +kernel, by decide +kernel⟩, List.mem_of_getElem? (i := 948) (by decide +kernel), List.mem_of_getElem? (i := 1056) (by decide +kernel), List.mem_of_getElem? (i := 1057) (by decide +kernel)⟩
theorem lw_p25 : lw_okq (⟨"FolderRoundsModel", "compare", "(II)I"⟩, 12) := ⟨⟨by decide +kernel, by decide +kernel⟩, List.mem_of_getElem? (i := 948) (by decide +kernel), List.mem_of_getElem? (i := 1060) (by decide +kernel), List.mem_of_getElem? (i := 1061) (by decide +kernel)⟩
theorem lw_p26 : lw_okq (⟨"FolderRoundsModel", "visitUpTo", "(IIII)I"⟩, 12) := ⟨⟨by decide +kernel, by decide +kernel⟩, List.mem_of_getElem? (i := 948) (by decide +kernel), List.mem_of_getElem? (i := 1073) (by decide +kernel), List.mem_of_getElem? (i := 1074) (by decide +kernel)⟩
theorem lw_p27 : lw_okq (⟨"FolderRoundsModel", "unload", "(III)I"⟩, 12) := ⟨⟨by decide +kernel, by decide +kernel⟩, List.mem_of_getElem? (i := 948) (by decide +kernel), List.mem_of_getElem? (i := 1077) (by decide +kernel), List.mem_of_getElem? (i := 1078) (by decide +kernel)⟩
theorem lw_p28 : lw_okq (⟨"FolderRoundsModel", "isCovered", "(II)Z"⟩, 12) := ⟨⟨by decide +kernel, by decide +kernel⟩, List.mem_of_getElem? (i := 948) (by decide +kernel), List.mem_of_getElem? (i := 1081) (by decide +kernel), List.mem_of_getElem? (i := 1082) (by decide +kernel)⟩
theorem lw_p29 : lw_okq (⟨"FolderRoundsModel", "learn", "(II)V"⟩, 12) := ⟨⟨by decide +kernel, by decide +kernel⟩, List.mem_of_getElem? (i := 948) (by decide +kernel), List.mem_of_getElem? (i := 1085) (by decide +kernel), List.mem_of_getElem? (i := 1086) (by decide +kernel)⟩
theorem lw_p30 : lw_okq (⟨"FolderRoundsModel", "dropMarks", "(I)V"⟩, 12) := ⟨⟨by decide +kernel, by decide +kernel⟩, List.mem_of_getElem? (i := 948) (by decide +kernel), List.mem_of_getElem? (i := 1089) (by decide +kernel), List.mem_of_getElem? (i := 1090) (by decide +kernel)⟩
theorem lw_p31 : lw_okq (⟨"FolderRoundsModel", "nextToLoad", "(III)I"⟩, 12) := ⟨⟨by decide +kernel, by decide +kernel⟩, List.mem_of_getElem? (i := 948) (by decide +kernel), List.mem_of_getElem? (i := 1093) (by decide +kernel), List.mem_of_getElem? (i := 1094) (by decide +kernel)⟩
def lw_privs_2 : List (MethodName × Nat) := [(⟨"FolderRoundsModel", "hasRoom", "(II)Z"⟩, 12), (⟨"FolderRoundsModel", "allBytes", "(I)I"⟩, 12), (⟨"FolderRoundsModel", "bytesOf", "(I)I"⟩, 12), (⟨"FolderRoundsModel", "standing", "(III)I"⟩, 12), (⟨"FolderRoundsModel", "covers", "(II)Z"⟩, 12), (⟨"FolderRoundsModel", "counterOf", "(II)I"⟩, 12), (⟨"FolderRoundsModel", "comeToStand", "(II)V"⟩, 12), (⟨"FolderRoundsModel", "count", "(IIZ)I"⟩, 12), (⟨"FolderRoundsModel", "sibling", "(III)I"⟩, 12), (⟨"FolderRoundsModel", "compare", "(II)I"⟩, 12), (⟨"FolderRoundsModel", "visitUpTo", "(IIII)I"⟩, 12), (⟨"FolderRoundsModel", "unload", "(III)I"⟩, 12), (⟨"FolderRoundsModel", "isCovered", "(II)Z"⟩, 12), (⟨"FolderRoundsModel", "learn", "(II)V"⟩, 12), (⟨"FolderRoundsModel", "dropMarks", "(I)V"⟩, 12), (⟨"FolderRoundsModel", "nextToLoad", "(III)I"⟩, 12)]
theorem lw_r2 : ∀ q ∈ lw_privs_2, lw_okq q := List.forall_mem_cons.mpr ⟨lw_p16, List.forall_mem_cons.mpr ⟨lw_p17, List.forall_mem_cons.mpr ⟨lw_p18, List.forall_mem_cons.mpr ⟨lw_p19, List.forall_mem_cons.mpr ⟨lw_p20, List.forall_mem_cons.mpr ⟨lw_p21, List.forall_mem_cons.mpr ⟨lw_p22, List.forall_mem_cons.mpr ⟨lw_p23, List.forall_mem_cons.mpr ⟨lw_p24, List.forall_mem_cons.mpr ⟨lw_p25, List.forall_mem_cons.mpr ⟨lw_p26, List.forall_mem_cons.mpr ⟨lw_p27, List.forall_mem_cons.mpr ⟨lw_p28, List.forall_mem_cons.mpr ⟨lw_p29, List.forall_mem_cons.mpr ⟨lw_p30, List.forall_mem_cons.mpr ⟨lw_p31, fun _ h => absurd h List.not_mem_nil⟩⟩⟩⟩⟩⟩⟩⟩⟩⟩⟩⟩⟩⟩⟩⟩
theorem lw_p32 : lw_okq (⟨"FolderRoundsModel", "isLacked", "(III)Z"⟩, 12) := ⟨⟨by decide +kernel, by decide +kernel⟩, List.mem_of_getElem? (i := 948) (by decide +kernel), List.mem_of_getElem? (i := 1097) (by decide +kernel), List.mem_of_getElem? (i := 1098) (by decide +kernel)⟩
theorem lw_p33 : lw_okq (⟨"FolderRoundsModel", "isSooner", "(II)Z"⟩, 12) := ⟨⟨by decide +kernel, by decide +kernel⟩, List.mem_of_getElem? (i := 948) (by decide +kernel), List.mem_of_getElem? (i := 1101) (by decide +kernel), List.mem_of_getElem? (i := 1102) (by decide +kernel)⟩
theorem lw_p34 : lw_okq (⟨"FolderRoundsModel", "sumOf", "(I)I"⟩, 12) := ⟨⟨by decide +kernel, by decide +kernel⟩, List.mem_of_getElem? (i := 948) (by decide +kernel), List.mem_of_getElem? (i := 1105) (by decide +kernel), List.mem_of_getElem? (i := 1106) (by decide +kernel)⟩
theorem lw_p35 : lw_okq (⟨"FolderRoundsModel", "roomOf", "(I)I"⟩, 12) := ⟨⟨by decide +kernel, by decide +kernel⟩, List.mem_of_getElem? (i := 948) (by decide +kernel), List.mem_of_getElem? (i := 1109) (by decide +kernel), List.mem_of_getElem? (i := 1110) (by decide +kernel)⟩
def lw_privs_3 : List (MethodName × Nat) := [(⟨"FolderRoundsModel", "isLacked", "(III)Z"⟩, 12), (⟨"FolderRoundsModel", "isSooner", "(II)Z"⟩, 12), (⟨"FolderRoundsModel", "sumOf", "(I)I"⟩, 12), (⟨"FolderRoundsModel", "roomOf", "(I)I"⟩, 12)]
theorem lw_r3 : ∀ q ∈ lw_privs_3, lw_okq q := List.forall_mem_cons.mpr ⟨lw_p32, List.forall_mem_cons.mpr ⟨lw_p33, List.forall_mem_cons.mpr ⟨lw_p34, List.forall_mem_cons.mpr ⟨lw_p35, fun _ h => absurd h List.not_mem_nil⟩⟩⟩⟩
def lw_privs : List (MethodName × Nat) := lw_privs_1 ++ (lw_privs_2 ++ (lw_privs_3))
def lw_tbl : List Cond := k2_sels lw_privs ++ tables_1
theorem lw_privs_ok : ∀ q ∈ lw_privs, lw_okq q := by
  show ∀ q ∈ lw_privs_1 ++ (lw_privs_2 ++ (lw_privs_3)), lw_okq q
  exact List.forall_mem_append.mpr ⟨lw_r1, List.forall_mem_append.mpr ⟨lw_r2, lw_r3⟩⟩
end
section
/-! ===== BEGIN words of one list among another's, by their places ===== -/
theorem goodIn_r {big : List Cond} (ws : List Cond) (ps : List Nat) (hp : ws = ps.filterMap (fun i => big[i]?)) (h : ws.all goodWord = true) : GoodIn big ws := by
  intro w hw
  have h1 := List.all_eq_true.mp h w hw
  rw [hp] at hw
  obtain ⟨i, -, hi⟩ := List.mem_filterMap.mp hw
  have hm : w ∈ big := by first | exact List.mem_of_getElem? hi | exact List.getElem?_mem hi
  exact ⟨hm, good_of_word h1⟩
theorem goodIn_app {big a b : List Cond} (ha : GoodIn big a) (hb : GoodIn big b) : GoodIn big (a ++ b) := fun w h => (List.mem_append.mp h).elim (ha w) (hb w)
theorem goodIn_ca {big a b : List Cond} {c : Cond} (ha : GoodIn big (c :: a)) (hb : GoodIn big b) : GoodIn big (c :: (a ++ b)) := fun w h => (List.mem_cons.mp h).elim (fun e => ha w (List.mem_cons.mpr (Or.inl e))) (fun h => (List.mem_append.mp h).elim (fun h => ha w (List.mem_cons.mpr (Or.inr h))) (hb w))
theorem goodIn_sub {big ws : List Cond} (hm : ∀ w ∈ ws, w ∈ big) (h : ws.all goodWord = true) : GoodIn big ws := fun w hw => ⟨hm w hw, good_of_word (List.all_eq_true.mp h w hw)⟩
/-! ===== END ===== -/

/-! ===== BEGIN exceptions that leave a method, and their catching by the caller (launches without stack traces) ===== -/
section VXA
/-! The laws vx_back, vx_callV, vx_callS, vx_callSW, vx_throw0, vx_throwS follow proofs of the library, with one case more: JvmDerived/Free/Laws.lean (Back.of_free), Shelf42/LK1.lean (callV, callS), Shelf/KitTraced.lean (throwNew0V, throwNewS). -/
/-- where a method has thrown q: the class by its name, the cell, what was written, the world -/
def vx_T (XC : String → State → State → Prop) (st : State) (q : Addr) (t : State) (mc ms : Nat) (free : Addr → Prop) : Prop :=
  ∃ (E : String) (ce : Cell) (L : List Loc), XC E st t ∧ t.heap[q]? = some ce ∧ ce.vm = .none ∧ st.vm.findClass E = some ce.cls ∧ st.WarmedH t.vm ∧ st.sameButNew ({ t with vm := st.vm } : State) L mc ms ∧ ∀ z ∈ L, free z.base
def vx_Q (Qc : Array Value → State → Outcome → State → Prop) (XC : String → State → State → Prop) (mc ms : Nat) (free : Addr → Prop) : Array Value → State → Outcome → State → Prop := fun a st o t =>
  (Qc a st o t ∧ ∃ L, FrameEnd st o t L mc ms ∧ ∀ q ∈ L, free q.base) ∨ ∃ q, o = .threw q ∧ vx_T XC st q t mc ms free
/-- a callee that returns or throws -/
def vx_Met (l : Launch) (y : MethodName) (ws : List Cond) (rm : Room) (Pc : Array Value → State → Prop) (Qc : Array Value → State → Outcome → State → Prop) (XC : String → State → State → Prop) (mc ms : Nat) (free : Addr → Prop) : Prop :=
  MetFree l y (headSpec ws rm) Pc (fun _ _ _ _ _ => True) (vx_Q Qc XC mc ms free)
def vx_Post (XC : String → State → State → Prop) (mc ms : Nat) (free : Addr → Prop) : Pt → Array Value → Addr → Pt → Prop := fun A a q B =>
  ∃ (g : JFrame) (mk : MethodId) (t : State) (L : List Loc) (E : String) (ce : Cell), B.U.heap = t.heap ∧ B.U.vm = t.vm ∧ XC E (A.U.calling g mk a) t ∧ t.heap[q]? = some ce ∧ ce.vm = .none ∧ A.U.vm.findClass E = some ce.cls ∧ B.locs = A.locs ++ L ∧ (∀ z ∈ L, free z.base) ∧ B.cells = A.cells + mc ∧ B.slots = A.slots + ms
def vx_Back (l : Launch) (R : Room) (p : Program) (e : Env) (below : List Frame) (s : State) (sargs : Array Value) (y : MethodName) (len W9 : Nat)
    (Pre : Pt → Array Value → Prop) (Post : Pt → Array Value → Option Value → Pt → Prop) (PostX : Pt → Array Value → Addr → Pt → Prop) : Prop :=
  ∀ (m : MethodId) (meth : Method) (c : Code) (A : Pt) (g : JFrame) (ig : Instr) (mk : MethodId) (a : Array Value),
    Stand p l e R s m sargs below meth c A.U A.locs A.cells A.slots → g.method = m → g.locals.size = c.maxLocals → decode c.code g.pc = .ok (ig, len) →
    2 * g.monitorRoom + (g.stack.map fun v => v.category).sum ≤ W9 → A.U.methodNamed? y = some mk → Pre A a →
    (∃ (v : Option Value) (B : Pt), Stand p l e R s m sargs below meth c B.U B.locs B.cells B.slots ∧ Post A a v B ∧
      Steps p.tables e below (doInvoke e (A.U.setTop g) [] mk a).1 (B.U.setTop { g with pc := g.pc + len, stack := v.toList ++ g.stack })) ∨
    (∃ (q : Addr) (B : Pt), Stand p l e R s m sargs below meth c B.U B.locs B.cells B.slots ∧ PostX A a q B ∧
      Steps p.tables e below (doInvoke e (A.U.setTop g) [] mk a).1 ((B.U.setTop g).pushFrame (.throwing q)))
section Payer
variable {l : Launch} {R : Room} {p : Program} {e : Env} {below : List Frame} {s : State} {sargs : Array Value} {y : MethodName} {len W9 : Nat}
theorem vx_back {ws : List Cond} {rm : Room} {Pc : Array Value → State → Prop} {Qc : Array Value → State → Outcome → State → Prop} {XC : String → State → State → Prop} {mc ms : Nat} {free : Addr → Prop} {bytes : ByteArray} {maxL : Nat} {ret : Option FieldType}
    (hM : vx_Met l y ws rm Pc Qc XC mc ms free) (hblind : FrameBlind Pc) (hrc : rm.cells = mc) (hrs : rm.slots = ms)
    (hframes : rm.frames + 1 ≤ R.frames) (hlocals : W9 + (maxL + 11) + rm.locals ≤ R.locals)
    (hws : ∀ w ∈ ws, ∀ a' U, s.WarmedH U.vm → w.before a' U = true) (hcode : Cond.code y bytes maxL ret ∈ ws) (hinit : ∀ a' U, s.WarmedH U.vm → (Cond.initialized y.cls).before a' U = true) :
    vx_Back l R p e below s sargs y len W9 (PreOf R mc ms Pc) (PostOf Qc mc ms free) (vx_Post XC mc ms free) := by
  intro m meth c A g ig mk a X hg hsize hdg hW hn hp
  have h1 : (headSpec ws rm).pre.before a A.U = true := atoms_intro fun w hw => hws w hw _ _ X.warmed
  have h2 : (Cond.code y bytes maxL ret).before a A.U = true := hws _ hcode _ _ X.warmed
  have h3 : (Cond.initialized y.cls).before a A.U = true := hinit _ _ X.warmed
  have h4 : A.cells + (headSpec ws rm).room.cells ≤ R.cells := by rw [show (headSpec ws rm).room.cells = mc from hrc]; exact hp.1
  have h5 : A.slots + (headSpec ws rm).room.slots ≤ R.slots := by rw [show (headSpec ws rm).room.slots = ms from hrs]; exact hp.2.1
  have hPc : Pc a (A.U.calling g mk a) := hblind _ _ _ _ hp.2.2
  obtain ⟨U, Ls, c0, s0⟩ := A
  dsimp only [Pt.U, Pt.locs, Pt.cells, Pt.slots] at h1 h2 h3 h4 h5 X hn hPc ⊢
  obtain ⟨methY, cY, hmY, hcY, -, hlY, -, -, -, -⟩ := Cond.code_spec hn h2
  obtain ⟨kY, hkY, -⟩ := className_of_methodNamed hn
  have hinitY : kY.init = .initialized := Cond.initialized_spec (findClass_of_methodNamed hn) hkY h3
  have h : At U g.method c below := by rw [hg]; exact X.here
  have hlocals9 : W9 + (maxL + 11) + (headSpec ws rm).room.locals ≤ R.locals := hlocals
  have happ : (headSpec ws rm).appliesLoose y e.platform (U.calling g mk a) = true :=
    Spec.appliesLoose_calling (g := g) h hdg hn hkY hinitY
      (X.room_calling (g := g) (R' := (headSpec ws rm).room) hsize hmY hcY hframes (by rw [hlY]; omega) h4 h5) h1
  obtain ⟨mid, hmid⟩ := h.above
  have hfr : (U.setTop g).frames = (.java g :: mid) ++ below := by rw [State.frames_setTop' g h.top, hmid]; rfl
  obtain ⟨o, s₂, hsteps, -, hend, hq⟩ := Steps.callFree hM p X.admits X.cas X.clock (acts := []) hfr happ hPc trivial
  have hq' : vx_Q Qc XC mc ms free a (U.calling g mk a) o s₂ := hq
  rw [State.frames_setTop' g h.top] at hend
  obtain ⟨g₀, hg0⟩ := Option.isSome_iff_exists.mp h.top
  obtain ⟨r, hr⟩ := State.topJava?_eq_some.mp hg0
  have hr' : (({ U with heap := s₂.heap, slotsUsed := s₂.slotsUsed } : State).setVm s₂.vm).frames = .java g₀ :: r := hr
  rcases hq' with ⟨hqc, L, hfe, hL⟩ | ⟨q, rfl, E, ce, L, hx, hce, hcv, hcl, hW₂, hsm, hL⟩
  · obtain ⟨⟨v, rfl⟩, hW₂, e2, q2, q3, q4, q5, q6⟩ := id hfe
    have e3 : s₂ = ({ (U.calling g mk a).setFrames s₂.frames with heap := s₂.heap, slotsUsed := s₂.slotsUsed } : State).setVm s₂.vm := by
      have : s₂ = ({ s₂ with vm := (U.calling g mk a).vm } : State).setVm s₂.vm := rfl
      rw [e2] at this
      exact this
    obtain ⟨c₂, i₂, len₂, hc₂, hd₂, hf₂⟩ := hend
    have hW' : U.WarmedH s₂.vm := hW₂
    have hcc : c₂ = c := by
      have h1 : s₂.code? g.method = U.code? g.method := by
        rw [State.code?_eq, State.code?_eq, hW'.alike.method?]
      exact Option.some.inj (hc₂.symm.trans (h1.trans h.code))
    subst hcc
    have hlen : len₂ = len := by rw [hdg] at hd₂; cases hd₂; rfl
    subst hlen
    have hs₂ : s₂ = (({ U with heap := s₂.heap, slotsUsed := s₂.slotsUsed } : State).setVm s₂.vm).setTop { g with pc := g.pc + len₂, stack := v.toList ++ g.stack } := by
      refine e3.trans ?_
      rw [hf₂, State.calling_eq h.top, State.setFrames_setFrames, State.setTop_of_frames _ hr', hr]
      rfl
    have hsame : U.sameButNew ({ U with heap := s₂.heap, slotsUsed := s₂.slotsUsed } : State) L mc ms := by
      refine ⟨?_, q2, q3, q4, q5, q6⟩
      obtain ⟨t, ht, -⟩ := State.frames_cons hr
      show ({ U with heap := s₂.heap, slotsUsed := s₂.slotsUsed } : State) = { U.setFrames U.frames with heap := s₂.heap, slotsUsed := s₂.slotsUsed }
      rw [State.setFrames_self ht]
    subst hg
    refine Or.inl ⟨v, ⟨(({ U with heap := s₂.heap, slotsUsed := s₂.slotsUsed } : State).setVm s₂.vm), Ls ++ L, c0 + mc, s0 + ms⟩,
      ⟨X.admits, X.cas, X.clock, X.frames, X.room, X.hears, X.method, X.code, (X.here.setHeapUsed s₂.heap s₂.slotsUsed).setVm hW'.alike, X.tail, State.WarmedH.trans X.warmed hW', X.limits, X.bytes, X.same.trans (hsame.setVm s.vm)⟩,
      ⟨g, mk, s₂, L, rfl, rfl, hqc, rfl, hL, rfl, rfl⟩, ?_⟩
    show Steps p.tables e below _ ((({ U with heap := s₂.heap, slotsUsed := s₂.slotsUsed } : State).setVm s₂.vm).setTop { g with pc := g.pc + len₂, stack := v.toList ++ g.stack })
    rw [← hs₂]
    exact hsteps
  · obtain ⟨e2, q2, q3, q4, q5, q6⟩ := id hsm
    have e3 : s₂ = ({ (U.calling g mk a).setFrames s₂.frames with heap := s₂.heap, slotsUsed := s₂.slotsUsed } : State).setVm s₂.vm := by
      have : s₂ = ({ s₂ with vm := (U.calling g mk a).vm } : State).setVm s₂.vm := rfl
      rw [e2] at this
      exact this
    have hf₂ : s₂.frames = .throwing q :: .java g :: U.frames.tail := hend
    have hW' : U.WarmedH s₂.vm := hW₂
    have hs₂ : s₂ = ((({ U with heap := s₂.heap, slotsUsed := s₂.slotsUsed } : State).setVm s₂.vm).setTop g).pushFrame (.throwing q) := by
      refine e3.trans ?_
      rw [hf₂, State.calling_eq h.top, State.setFrames_setFrames, State.pushFrame, State.frames_setTop _ hr', State.setTop_of_frames _ hr', State.setFrames_setFrames, hr]
      rfl
    have hsame : U.sameButNew ({ U with heap := s₂.heap, slotsUsed := s₂.slotsUsed } : State) L mc ms := by
      refine ⟨?_, q2, q3, q4, q5, q6⟩
      obtain ⟨t, ht, -⟩ := State.frames_cons hr
      show ({ U with heap := s₂.heap, slotsUsed := s₂.slotsUsed } : State) = { U.setFrames U.frames with heap := s₂.heap, slotsUsed := s₂.slotsUsed }
      rw [State.setFrames_self ht]
    subst hg
    refine Or.inr ⟨q, ⟨(({ U with heap := s₂.heap, slotsUsed := s₂.slotsUsed } : State).setVm s₂.vm), Ls ++ L, c0 + mc, s0 + ms⟩,
      ⟨X.admits, X.cas, X.clock, X.frames, X.room, X.hears, X.method, X.code, (X.here.setHeapUsed s₂.heap s₂.slotsUsed).setVm hW'.alike, X.tail, State.WarmedH.trans X.warmed hW', X.limits, X.bytes, X.same.trans (hsame.setVm s.vm)⟩,
      ⟨g, mk, s₂, L, E, ce, rfl, rfl, hx, hce, hcv, hcl, rfl, hL, rfl, rfl⟩, ?_⟩
    show Steps p.tables e below _ (((({ U with heap := s₂.heap, slotsUsed := s₂.slotsUsed } : State).setVm s₂.vm).setTop g).pushFrame (.throwing q))
    rw [← hs₂]
    exact hsteps
end Payer
section Calls
variable {p : Program} {l : Launch} {e : Env} {R : Room} {s : State} {m : MethodId} {args : Array Value} {below : List Frame} {meth : Method} {c : Code} {T : State} {locs : List Loc} {cells slots : Nat}
theorem vx_callV (X : Stand p l e R s m args below meth c T locs cells slots) (hexec : p.tables.exec = Jvm.exec) {own C : String} {index : Nat} {y : MethodName} {bytes : ByteArray} {maxL : Nat} {ret : Option FieldType}
    (hown : s.vm.findClass own = some m.cls) (hlink : (Cond.methodLink own index y).before args s = true) (hinst : (Cond.instanceMethod y).before args s = true) (hsel : (Cond.selects C y y).before args s = true)
    (hcode : (Cond.code y bytes maxL ret).before args s = true) (hy : y.cls ≠ "java/lang/invoke/MethodHandle" ∧ y.cls ≠ "java/lang/invoke/VarHandle")
    {W9 : Nat} {Pre : Pt → Array Value → Prop} {Post : Pt → Array Value → Option Value → Pt → Prop} {PostX : Pt → Array Value → Addr → Pt → Prop} (hK : vx_Back l R p e below s args y 3 W9 Pre Post PostX)
    {b : Addr} {cellB : Cell} (hcell : T.heap[b]? = some cellB) (hobj : cellB.vm.isStatics = false) (hcls : s.vm.findClass C = some cellB.cls)
    {g : JFrame} (hg : g.method = m) (hsize : g.locals.size = c.maxLocals) {argsL rest : List Value} (hlen : ∀ sig, parseMethodDescriptor y.desc = some sig → argsL.length = sig.parameters.length)
    (hstack : g.stack = argsL.reverse ++ .ref b :: rest) (hW : 2 * g.monitorRoom + (rest.map fun v => v.category).sum ≤ W9) (hdg : decode c.code g.pc = .ok (.invokevirtual index, 3))
    (hpre : ∀ vm₁, s.WarmedH vm₁ → Pre ⟨T.setVm vm₁, locs, cells, slots⟩ (Value.ref b :: argsL).toArray) :
    (∃ (v : Option Value) (vm₁ : Vm) (B : Pt), s.WarmedH vm₁ ∧ Stand p l e R s m args below meth c B.U B.locs B.cells B.slots ∧ Post ⟨T.setVm vm₁, locs, cells, slots⟩ (Value.ref b :: argsL).toArray v B ∧
      ∀ target, Steps p.tables e below (B.U.setTop { g with pc := g.pc + 3, stack := v.toList ++ rest }) target → Steps p.tables e below (T.setTop g) target) ∨
    (∃ (q : Addr) (vm₁ : Vm) (B : Pt), s.WarmedH vm₁ ∧ Stand p l e R s m args below meth c B.U B.locs B.cells B.slots ∧ PostX ⟨T.setVm vm₁, locs, cells, slots⟩ (Value.ref b :: argsL).toArray q B ∧
      Steps p.tables e below (T.setTop g) ((B.U.setTop { g with stack := rest }).pushFrame (.throwing q))) := by
  obtain ⟨mk, methM, hnamed, hmethM, hstM, habM⟩ := Cond.instanceMethod_spec hinst
  obtain ⟨methM', cM, hmethM', -, -, -, -, -, -, hsigM⟩ := Cond.code_spec hnamed hcode
  cases hmethM.symm.trans hmethM'
  obtain ⟨c2, r2, m2, q1, q2, q3, q4, kP, hkP, hkPi⟩ := Cond.selects_spec hsel
  cases hcls.symm.trans q1
  cases (State.methodFound?_of_named hnamed hy).symm.trans q2
  cases hnamed.symm.trans q3
  have hselP : selectMethod e.platform s.vm cellB.cls mk = .method mk := by rw [Launch.admits_selectMethod X.admits]; exact q4
  obtain ⟨vm₁, X₁, hstep₁⟩ := X.invokevirtual hexec hown hlink hnamed hmethM hstM hkP hkPi hy (a := b) (cell := cellB) hcell
    (fun z h => by rw [h] at hobj; cases hobj) hselP hmethM habM hkP hkPi (g := g) hg (argsL := argsL) (rest := rest) (hlen _ hsigM) hstack hdg
  rcases hK m meth c ⟨T.setVm vm₁, locs, cells, slots⟩ { g with stack := rest } (.invokevirtual index) mk (Value.ref b :: argsL).toArray X₁ hg hsize hdg hW (X₁.named hnamed) (hpre vm₁ X₁.warmed) with ⟨v, B, X', hpost, hsteps⟩ | ⟨q, B, X', hpost, hsteps⟩
  · exact Or.inl ⟨v, vm₁, B, X₁.warmed, X', hpost, fun target h => hstep₁ _ fun acts => by rw [doInvoke_state]; exact hsteps.trans h⟩
  · exact Or.inr ⟨q, vm₁, B, X₁.warmed, X', hpost, hstep₁ _ fun acts => by rw [doInvoke_state]; exact hsteps⟩
theorem vx_callS (X : Stand p l e R s m args below meth c T locs cells slots) (hexec : p.tables.exec = Jvm.exec) {own : String} {index : Nat} {y : MethodName} {bytes : ByteArray} {maxL : Nat} {ret : Option FieldType}
    (hown : s.vm.findClass own = some m.cls) (hlink : (Cond.methodLink own index y).before args s = true) (hstat : (Cond.static y).before args s = true) (hinit : (Cond.initialized y.cls).before args s = true)
    (hcode : (Cond.code y bytes maxL ret).before args s = true) (hy : y.cls ≠ "java/lang/invoke/MethodHandle" ∧ y.cls ≠ "java/lang/invoke/VarHandle")
    {W9 : Nat} {Pre : Pt → Array Value → Prop} {Post : Pt → Array Value → Option Value → Pt → Prop} {PostX : Pt → Array Value → Addr → Pt → Prop} (hK : vx_Back l R p e below s args y 3 W9 Pre Post PostX)
    {g : JFrame} (hg : g.method = m) (hsize : g.locals.size = c.maxLocals) {argsL rest : List Value} (hlen : ∀ sig, parseMethodDescriptor y.desc = some sig → argsL.length = sig.parameters.length)
    (hstack : g.stack = argsL.reverse ++ rest) (hW : 2 * g.monitorRoom + (rest.map fun v => v.category).sum ≤ W9) (hdg : decode c.code g.pc = .ok (.invokestatic index, 3))
    (hpre : ∀ vm₁, s.WarmedH vm₁ → Pre ⟨T.setVm vm₁, locs, cells, slots⟩ argsL.toArray) :
    (∃ (v : Option Value) (vm₁ : Vm) (B : Pt), s.WarmedH vm₁ ∧ Stand p l e R s m args below meth c B.U B.locs B.cells B.slots ∧ Post ⟨T.setVm vm₁, locs, cells, slots⟩ argsL.toArray v B ∧
      ∀ target, Steps p.tables e below (B.U.setTop { g with pc := g.pc + 3, stack := v.toList ++ rest }) target → Steps p.tables e below (T.setTop g) target) ∨
    (∃ (q : Addr) (vm₁ : Vm) (B : Pt), s.WarmedH vm₁ ∧ Stand p l e R s m args below meth c B.U B.locs B.cells B.slots ∧ PostX ⟨T.setVm vm₁, locs, cells, slots⟩ argsL.toArray q B ∧
      Steps p.tables e below (T.setTop g) ((B.U.setTop { g with stack := rest }).pushFrame (.throwing q))) := by
  obtain ⟨mk, hnamed⟩ := Cond.code_named hcode
  obtain ⟨methM, cM, hmethM, -, -, -, -, -, -, hsigM⟩ := Cond.code_spec hnamed hcode
  have hstatic : methM.isStatic = true := Cond.static_spec hnamed hmethM hstat
  obtain ⟨kP, hkP, -⟩ := className_of_methodNamed hnamed
  have hinitP : kP.init = .initialized := Cond.initialized_spec (findClass_of_methodNamed hnamed) hkP hinit
  obtain ⟨vm₁, X₁, hstep₁⟩ := X.invokestatic hexec hown hlink hnamed hmethM hstatic hkP hinitP hy (g := g) hg (argsL := argsL) (rest := rest) (hlen _ hsigM) hstack hdg
  rcases hK m meth c ⟨T.setVm vm₁, locs, cells, slots⟩ { g with stack := rest } (.invokestatic index) mk argsL.toArray X₁ hg hsize hdg hW (X₁.named hnamed) (hpre vm₁ X₁.warmed) with ⟨v, B, X', hpost, hsteps⟩ | ⟨q, B, X', hpost, hsteps⟩
  · exact Or.inl ⟨v, vm₁, B, X₁.warmed, X', hpost, fun target h => hstep₁ _ fun acts => by rw [doInvoke_state]; exact hsteps.trans h⟩
  · exact Or.inr ⟨q, vm₁, B, X₁.warmed, X', hpost, hstep₁ _ fun acts => by rw [doInvoke_state]; exact hsteps⟩
end Calls
theorem vx_cls {s : State} {T : State} {vm₁ : Vm} {E : String} {k : ClassId} (hW : s.WarmedH vm₁) (h : (T.setVm vm₁).vm.findClass E = some k) : s.vm.findClass E = some k := by
  have h1 : vm₁.findClass E = some k := h
  rw [hW.alike.findClass] at h1
  exact h1
/-- the method's frame g, with q thrown over it -/
def vx_W (p : Program) (l : Launch) (e : Env) (R : Room) (s : State) (m : MethodId) (args : Array Value) (below : List Frame) (meth : Method) (c : Code) (H : Heap) (locs : List Loc) (cells slots : Nat) (Q : State → Prop) (g : JFrame) (q : Addr) : Prop :=
  ∀ T : State, T.heap = H → Stand p l e R s m args below meth c T locs cells slots → ∃ t, Steps p.tables e below ((T.setTop g).pushFrame (.throwing q)) t ∧ Q t
def vx_Run (p : Program) (l : Launch) (e : Env) (R : Room) (s : State) (m : MethodId) (args : Array Value) (below : List Frame) (meth : Method) (c : Code) (H : Heap) (locs : List Loc) (cells slots mc ms : Nat) (g : JFrame) (rest : List Value) (Qa : State → Outcome → State → Prop) (XC : String → State → State → Prop) (free : Addr → Prop) : Prop :=
  ∀ T : State, T.heap = H → Stand p l e R s m args below meth c T locs cells slots →
    (∃ (v : Option Value) (st₀ t T' : State) (L : List Loc), st₀.heap = H ∧ Stand p l e R s m args below meth c T' (locs ++ L) (cells + mc) (slots + ms) ∧ (∀ q ∈ L, free q.base) ∧ T'.heap = t.heap ∧ T'.vm = t.vm ∧ Qa st₀ (.returned v) t ∧
      Goes p e below T g T' { g with pc := g.pc + 3, stack := v.toList ++ rest }) ∨
    (∃ (q : Addr) (st₀ t T' : State) (L : List Loc) (E : String) (ce : Cell), st₀.heap = H ∧ Stand p l e R s m args below meth c T' (locs ++ L) (cells + mc) (slots + ms) ∧ (∀ z ∈ L, free z.base) ∧ T'.heap = t.heap ∧ T'.vm = t.vm ∧ XC E st₀ t ∧ t.heap[q]? = some ce ∧ ce.vm = .none ∧ s.vm.findClass E = some ce.cls ∧
      Steps p.tables e below (T.setTop g) ((T'.setTop { g with stack := rest }).pushFrame (.throwing q)))
def vx_X {S : Type} (px : S → Prop) (B : String → S → State → Prop) (A : Nat → Prop) : String → State → State → Prop := fun E st t => ∃ u : S, px u ∧ B E u t ∧ va_F A st t
section Runs
variable {p : Program} {l : Launch} {e : Env} {R : Room} {s : State} {m : MethodId} {args : Array Value} {below : List Frame} {meth : Method} {c : Code} {H : Heap} {locs : List Loc} {cells slots : Nat}
variable {y : MethodName} {bytes cc : ByteArray} {maxL nL mc ms n index : Nat} {ret : Option FieldType} {ws : List Cond} {rm : Room} {Pc : Array Value → State → Prop} {Qc : Array Value → State → Outcome → State → Prop} {XC : String → State → State → Prop} {free : Addr → Prop} {Ts : List Cond} {own C : String} {b : Addr} {As rest : List Value} {g : JFrame}
theorem vx_callBack (cb : CallB R s args own index y bytes maxL ret ws rm mc ms n) (hM : vx_Met l y ws rm Pc Qc XC mc ms free) (hbl : FrameBlind Pc) : vx_Back l R p e below s args y 3 8 (PreOf R mc ms Pc) (PostOf Qc mc ms free) (vx_Post XC mc ms free) := by
  obtain ⟨hrc, hrs, hfr, hlo, hws, hcw, -, hini, -⟩ := cb
  exact vx_back (bytes := bytes) (maxL := maxL) (ret := ret) hM hbl hrc hrs hfr hlo hws hcw (fun a' U hW => word_at hW (Or.inl (by first | rfl | simp [Cond.onTables, Cond.keeps, Cond.steady])) hini)
theorem vx_runV (S : CallFix p m c cc nL s args Ts own) (hM : vx_Met l y ws rm Pc Qc XC mc ms free) (cw : CallW R s args own C index y bytes maxL ret ws rm mc ms n) (hp : PreV s H C b Pc As)
    (hg : g.method = m) (hn : As.length = n) (hsize : g.locals.size = nL) (hstack : g.stack = As.reverse ++ .ref b :: rest) (hW : 2 * g.monitorRoom + (rest.map fun v => v.category).sum ≤ 8) (hdg : decode cc g.pc = .ok (.invokevirtual index, 3)) (hf : cells + mc ≤ R.cells ∧ slots + ms ≤ R.slots) :
    vx_Run p l e R s m args below meth c H locs cells slots mc ms g rest (Qc (Value.ref b :: As).toArray) XC free := by
  have hK : vx_Back l R p e below s args y 3 8 (PreOf R mc ms Pc) (PostOf Qc mc ms free) (vx_Post XC mc ms free) := vx_callBack cw.1 hM hp.1
  obtain ⟨⟨-, -, -, -, -, -, hcode, -, hy, hlen, hl⟩, hin, hse⟩ := cw
  obtain ⟨hx, hb, hml, ho, -⟩ := S
  obtain ⟨-, ⟨cellB, hcB, hoB, hclB⟩, hPc⟩ := hp
  intro T hT X
  rcases vx_callV X hx (C := C) (bytes := bytes) (maxL := maxL) (ret := ret) ho hl hin hse hcode hy hK (by rw [hT]; exact hcB) hoB hclB hg (hsize.trans hml.symm) (argsL := As) (rest := rest) (fun sig h => hn.trans (hlen sig h)) hstack hW (by rw [hb]; exact hdg)
    (fun vm₁ hW₁ => ⟨hf.1, hf.2, hPc (T.setVm vm₁) hT hW₁⟩) with ⟨v, vm₁, ⟨U', l2, c2, s2⟩, hW₁, X', ⟨g', mk, t, L, e1, e2, hq, h1, hL, h2, h3⟩, st⟩ | ⟨q, vm₁, ⟨U', l2, c2, s2⟩, hW₁, X', ⟨g', mk, t, L, E, ce, e1, e2, hq, hce, hcv, hcl, h1, hL, h2, h3⟩, st⟩
  · dsimp only [Pt.U, Pt.locs, Pt.cells, Pt.slots] at X' e1 e2 h1 h2 h3 st
    subst h1; subst h2; subst h3
    exact Or.inl ⟨v, (T.setVm vm₁).calling g' mk (Value.ref b :: As).toArray, t, U', L, hT, X', hL, e1, e2, hq, st⟩
  · dsimp only [Pt.U, Pt.locs, Pt.cells, Pt.slots] at X' e1 e2 h1 h2 h3 st hcl
    subst h1; subst h2; subst h3
    exact Or.inr ⟨q, (T.setVm vm₁).calling g' mk (Value.ref b :: As).toArray, t, U', L, E, ce, hT, X', hL, e1, e2, hq, hce, hcv, vx_cls hW₁ hcl, st⟩
theorem vx_runS (S : CallFix p m c cc nL s args Ts own) (hM : vx_Met l y ws rm Pc Qc XC mc ms free) (cw : CallB R s args own index y bytes maxL ret ws rm mc ms n ∧ (Cond.static y).before args s = true) (hp : PreS s H Pc As)
    (hg : g.method = m) (hn : As.length = n) (hsize : g.locals.size = nL) (hstack : g.stack = As.reverse ++ rest) (hW : 2 * g.monitorRoom + (rest.map fun v => v.category).sum ≤ 8) (hdg : decode cc g.pc = .ok (.invokestatic index, 3)) (hf : cells + mc ≤ R.cells ∧ slots + ms ≤ R.slots) :
    vx_Run p l e R s m args below meth c H locs cells slots mc ms g rest (Qc As.toArray) XC free := by
  have hK : vx_Back l R p e below s args y 3 8 (PreOf R mc ms Pc) (PostOf Qc mc ms free) (vx_Post XC mc ms free) := vx_callBack cw.1 hM hp.1
  obtain ⟨⟨-, -, -, -, -, -, hcode, hini, hy, hlen, hl⟩, hstt⟩ := cw
  obtain ⟨hx, hb, hml, ho, -⟩ := S
  intro T hT X
  rcases vx_callS X hx (bytes := bytes) (maxL := maxL) (ret := ret) ho hl hstt hini hcode hy hK hg (hsize.trans hml.symm) (argsL := As) (rest := rest) (fun sig h => hn.trans (hlen sig h)) hstack hW (by rw [hb]; exact hdg)
    (fun vm₁ hW₁ => ⟨hf.1, hf.2, hp.2 (T.setVm vm₁) hT hW₁⟩) with ⟨v, vm₁, ⟨U', l2, c2, s2⟩, hW₁, X', ⟨g', mk, t, L, e1, e2, hq, h1, hL, h2, h3⟩, st⟩ | ⟨q, vm₁, ⟨U', l2, c2, s2⟩, hW₁, X', ⟨g', mk, t, L, E, ce, e1, e2, hq, hce, hcv, hcl, h1, hL, h2, h3⟩, st⟩
  · dsimp only [Pt.U, Pt.locs, Pt.cells, Pt.slots] at X' e1 e2 h1 h2 h3 st
    subst h1; subst h2; subst h3
    exact Or.inl ⟨v, (T.setVm vm₁).calling g' mk As.toArray, t, U', L, hT, X', hL, e1, e2, hq, st⟩
  · dsimp only [Pt.U, Pt.locs, Pt.cells, Pt.slots] at X' e1 e2 h1 h2 h3 st hcl
    subst h1; subst h2; subst h3
    exact Or.inr ⟨q, (T.setVm vm₁).calling g' mk As.toArray, t, U', L, E, ce, hT, X', hL, e1, e2, hq, hce, hcv, vx_cls hW₁ hcl, st⟩
end Runs
section Rows
variable {p : Program} {l : Launch} {e : Env} {R : Room} {s : State} {m : MethodId} {args : Array Value} {below : List Frame} {meth : Method} {c : Code} {H : Heap} {locs : List Loc} {cells slots : Nat} {Q : State → Prop}
variable {mc ms : Nat} {free : Addr → Prop} {A0 A1 : Nat → Prop} {H0 : Heap} {a : Array Value} {pc : Nat} {ls : Array Slot} {st0 rest : List Value}
theorem vx_keep {st₀ t T' : State} {L : List Loc} (h0 : st₀.heap = H) (e1 : T'.heap = t.heap) (hS : va_S A0 H0 H locs) (hA : ∀ q, q < H.size → A1 q → A0 q) (hf : ∀ q, free q → A0 q) (hL : ∀ q ∈ L, free q.base) (hF : va_F A1 st₀ t) :
    H.size ≤ T'.heap.size ∧ (∀ q : Nat, q < H.size → ¬ A1 q → T'.heap[q]? = H[q]?) ∧ va_S A0 H0 T'.heap (locs ++ L) := by
  obtain ⟨hz, hk⟩ := hF
  rw [h0] at hz hk
  exact ⟨by rw [e1]; exact hz, fun q h1 h2 => by rw [e1]; exact hk q h1 h2,
    ⟨Nat.le_trans hS.1 (by rw [e1]; exact hz), fun q h1 h2 => by rw [e1, hk q (Nat.lt_of_lt_of_le h1 hS.1) (fun z => h2 (hA q (Nat.lt_of_lt_of_le h1 hS.1) z))]; exact hS.2.1 q h1 h2, fun q hq => by
      rcases List.mem_append.mp hq with h | h
      · exact hS.2.2 q h
      · exact hf _ (hL q h)⟩⟩
theorem vx_calli {S SX : Type} {post : Int32 → S → Prop} {px : SX → Prop} {B : S → State → Prop} {BX : String → SX → State → Prop} {AX : Nat → Prop} (hr : vx_Run p l e R s m args below meth c H locs cells slots mc ms (F0 m pc ls st0) rest (va_Qi post B A1 a) (vx_X px BX AX) free) (hS : va_S A0 H0 H locs) (hA : ∀ q, q < H.size → A1 q → A0 q) (hf : ∀ q, free q → A0 q) (hAX : ∀ q, q < H.size → AX q → A0 q)
    (kx : ∀ (E : String) (ce : Cell) (q9 : Addr) (u : SX) (t : State) (H1 : Heap) (locs1 : List Loc), t.heap = H1 → s.vm.Alike t.vm → px u → BX E u t → H.size ≤ H1.size → (∀ q : Nat, q < H.size → ¬ AX q → H1[q]? = H[q]?) → va_S A0 H0 H1 locs1 → H1[q9]? = some ce → ce.vm = .none → s.vm.findClass E = some ce.cls → vx_W p l e R s m args below meth c H1 locs1 (cells + mc) (slots + ms) Q (F0 m pc ls rest) q9)
    (kk : ∀ (r : Int32) (u : S) (t : State) (H1 : Heap) (locs1 : List Loc), t.heap = H1 → s.vm.Alike t.vm → post r u → B u t → H.size ≤ H1.size → (∀ q : Nat, q < H.size → ¬ A1 q → H1[q]? = H[q]?) → va_S A0 H0 H1 locs1 → W p l e R s m args below meth c H1 locs1 (cells + mc) (slots + ms) Q (F0 m (pc + 3) ls (.int r :: rest))) : W p l e R s m args below meth c H locs cells slots Q (F0 m pc ls st0) := by
  intro T hT X
  rcases hr T hT X with ⟨v, st₀, t, T', L, h0, X', hL, e1, e2, ⟨⟨r, u, hv, hp, hb⟩, hF⟩, st⟩ | ⟨q, st₀, t, T', L, E, ce, h0, X', hL, e1, e2, ⟨u, hp, hb, hF⟩, hce, hcv, hcl, st⟩
  · cases hv
    obtain ⟨k1, k2, k3⟩ := vx_keep h0 e1 hS hA hf hL hF
    obtain ⟨t2, a1, b1⟩ := kk r u t T'.heap (locs ++ L) e1.symm (by rw [← e2]; exact X'.warmed.alike) hp hb k1 k2 k3 T' rfl X'
    exact ⟨t2, st t2 a1, b1⟩
  · obtain ⟨k1, k2, k3⟩ := vx_keep h0 e1 hS hAX hf hL hF
    obtain ⟨t2, a1, b1⟩ := kx E ce q u t T'.heap (locs ++ L) e1.symm (by rw [← e2]; exact X'.warmed.alike) hp hb k1 k2 k3 (by rw [e1]; exact hce) hcv hcl T' rfl X'
    exact ⟨t2, st.trans a1, b1⟩
theorem vx_calll {S SX : Type} {post : Int64 → S → Prop} {px : SX → Prop} {B : S → State → Prop} {BX : String → SX → State → Prop} {AX : Nat → Prop} (hr : vx_Run p l e R s m args below meth c H locs cells slots mc ms (F0 m pc ls st0) rest (va_Ql post B A1 a) (vx_X px BX AX) free) (hS : va_S A0 H0 H locs) (hA : ∀ q, q < H.size → A1 q → A0 q) (hf : ∀ q, free q → A0 q) (hAX : ∀ q, q < H.size → AX q → A0 q)
    (kx : ∀ (E : String) (ce : Cell) (q9 : Addr) (u : SX) (t : State) (H1 : Heap) (locs1 : List Loc), t.heap = H1 → s.vm.Alike t.vm → px u → BX E u t → H.size ≤ H1.size → (∀ q : Nat, q < H.size → ¬ AX q → H1[q]? = H[q]?) → va_S A0 H0 H1 locs1 → H1[q9]? = some ce → ce.vm = .none → s.vm.findClass E = some ce.cls → vx_W p l e R s m args below meth c H1 locs1 (cells + mc) (slots + ms) Q (F0 m pc ls rest) q9)
    (kk : ∀ (r : Int64) (u : S) (t : State) (H1 : Heap) (locs1 : List Loc), t.heap = H1 → s.vm.Alike t.vm → post r u → B u t → H.size ≤ H1.size → (∀ q : Nat, q < H.size → ¬ A1 q → H1[q]? = H[q]?) → va_S A0 H0 H1 locs1 → W p l e R s m args below meth c H1 locs1 (cells + mc) (slots + ms) Q (F0 m (pc + 3) ls (.long r :: rest))) : W p l e R s m args below meth c H locs cells slots Q (F0 m pc ls st0) := by
  intro T hT X
  rcases hr T hT X with ⟨v, st₀, t, T', L, h0, X', hL, e1, e2, ⟨⟨r, u, hv, hp, hb⟩, hF⟩, st⟩ | ⟨q, st₀, t, T', L, E, ce, h0, X', hL, e1, e2, ⟨u, hp, hb, hF⟩, hce, hcv, hcl, st⟩
  · cases hv
    obtain ⟨k1, k2, k3⟩ := vx_keep h0 e1 hS hA hf hL hF
    obtain ⟨t2, a1, b1⟩ := kk r u t T'.heap (locs ++ L) e1.symm (by rw [← e2]; exact X'.warmed.alike) hp hb k1 k2 k3 T' rfl X'
    exact ⟨t2, st t2 a1, b1⟩
  · obtain ⟨k1, k2, k3⟩ := vx_keep h0 e1 hS hAX hf hL hF
    obtain ⟨t2, a1, b1⟩ := kx E ce q u t T'.heap (locs ++ L) e1.symm (by rw [← e2]; exact X'.warmed.alike) hp hb k1 k2 k3 (by rw [e1]; exact hce) hcv hcl T' rfl X'
    exact ⟨t2, st.trans a1, b1⟩
theorem vx_callf {S SX : Type} {post : UInt32 → S → Prop} {px : SX → Prop} {B : S → State → Prop} {BX : String → SX → State → Prop} {AX : Nat → Prop} (hr : vx_Run p l e R s m args below meth c H locs cells slots mc ms (F0 m pc ls st0) rest (va_Qf post B A1 a) (vx_X px BX AX) free) (hS : va_S A0 H0 H locs) (hA : ∀ q, q < H.size → A1 q → A0 q) (hf : ∀ q, free q → A0 q) (hAX : ∀ q, q < H.size → AX q → A0 q)
    (kx : ∀ (E : String) (ce : Cell) (q9 : Addr) (u : SX) (t : State) (H1 : Heap) (locs1 : List Loc), t.heap = H1 → s.vm.Alike t.vm → px u → BX E u t → H.size ≤ H1.size → (∀ q : Nat, q < H.size → ¬ AX q → H1[q]? = H[q]?) → va_S A0 H0 H1 locs1 → H1[q9]? = some ce → ce.vm = .none → s.vm.findClass E = some ce.cls → vx_W p l e R s m args below meth c H1 locs1 (cells + mc) (slots + ms) Q (F0 m pc ls rest) q9)
    (kk : ∀ (r : UInt32) (u : S) (t : State) (H1 : Heap) (locs1 : List Loc), t.heap = H1 → s.vm.Alike t.vm → post r u → B u t → H.size ≤ H1.size → (∀ q : Nat, q < H.size → ¬ A1 q → H1[q]? = H[q]?) → va_S A0 H0 H1 locs1 → W p l e R s m args below meth c H1 locs1 (cells + mc) (slots + ms) Q (F0 m (pc + 3) ls (.float r :: rest))) : W p l e R s m args below meth c H locs cells slots Q (F0 m pc ls st0) := by
  intro T hT X
  rcases hr T hT X with ⟨v, st₀, t, T', L, h0, X', hL, e1, e2, ⟨⟨r, u, hv, hp, hb⟩, hF⟩, st⟩ | ⟨q, st₀, t, T', L, E, ce, h0, X', hL, e1, e2, ⟨u, hp, hb, hF⟩, hce, hcv, hcl, st⟩
  · cases hv
    obtain ⟨k1, k2, k3⟩ := vx_keep h0 e1 hS hA hf hL hF
    obtain ⟨t2, a1, b1⟩ := kk r u t T'.heap (locs ++ L) e1.symm (by rw [← e2]; exact X'.warmed.alike) hp hb k1 k2 k3 T' rfl X'
    exact ⟨t2, st t2 a1, b1⟩
  · obtain ⟨k1, k2, k3⟩ := vx_keep h0 e1 hS hAX hf hL hF
    obtain ⟨t2, a1, b1⟩ := kx E ce q u t T'.heap (locs ++ L) e1.symm (by rw [← e2]; exact X'.warmed.alike) hp hb k1 k2 k3 (by rw [e1]; exact hce) hcv hcl T' rfl X'
    exact ⟨t2, st.trans a1, b1⟩
theorem vx_calld {S SX : Type} {post : UInt64 → S → Prop} {px : SX → Prop} {B : S → State → Prop} {BX : String → SX → State → Prop} {AX : Nat → Prop} (hr : vx_Run p l e R s m args below meth c H locs cells slots mc ms (F0 m pc ls st0) rest (va_Qd post B A1 a) (vx_X px BX AX) free) (hS : va_S A0 H0 H locs) (hA : ∀ q, q < H.size → A1 q → A0 q) (hf : ∀ q, free q → A0 q) (hAX : ∀ q, q < H.size → AX q → A0 q)
    (kx : ∀ (E : String) (ce : Cell) (q9 : Addr) (u : SX) (t : State) (H1 : Heap) (locs1 : List Loc), t.heap = H1 → s.vm.Alike t.vm → px u → BX E u t → H.size ≤ H1.size → (∀ q : Nat, q < H.size → ¬ AX q → H1[q]? = H[q]?) → va_S A0 H0 H1 locs1 → H1[q9]? = some ce → ce.vm = .none → s.vm.findClass E = some ce.cls → vx_W p l e R s m args below meth c H1 locs1 (cells + mc) (slots + ms) Q (F0 m pc ls rest) q9)
    (kk : ∀ (r : UInt64) (u : S) (t : State) (H1 : Heap) (locs1 : List Loc), t.heap = H1 → s.vm.Alike t.vm → post r u → B u t → H.size ≤ H1.size → (∀ q : Nat, q < H.size → ¬ A1 q → H1[q]? = H[q]?) → va_S A0 H0 H1 locs1 → W p l e R s m args below meth c H1 locs1 (cells + mc) (slots + ms) Q (F0 m (pc + 3) ls (.double r :: rest))) : W p l e R s m args below meth c H locs cells slots Q (F0 m pc ls st0) := by
  intro T hT X
  rcases hr T hT X with ⟨v, st₀, t, T', L, h0, X', hL, e1, e2, ⟨⟨r, u, hv, hp, hb⟩, hF⟩, st⟩ | ⟨q, st₀, t, T', L, E, ce, h0, X', hL, e1, e2, ⟨u, hp, hb, hF⟩, hce, hcv, hcl, st⟩
  · cases hv
    obtain ⟨k1, k2, k3⟩ := vx_keep h0 e1 hS hA hf hL hF
    obtain ⟨t2, a1, b1⟩ := kk r u t T'.heap (locs ++ L) e1.symm (by rw [← e2]; exact X'.warmed.alike) hp hb k1 k2 k3 T' rfl X'
    exact ⟨t2, st t2 a1, b1⟩
  · obtain ⟨k1, k2, k3⟩ := vx_keep h0 e1 hS hAX hf hL hF
    obtain ⟨t2, a1, b1⟩ := kx E ce q u t T'.heap (locs ++ L) e1.symm (by rw [← e2]; exact X'.warmed.alike) hp hb k1 k2 k3 (by rw [e1]; exact hce) hcv hcl T' rfl X'
    exact ⟨t2, st.trans a1, b1⟩
theorem vx_callv {S SX : Type} {post : S → Prop} {px : SX → Prop} {B : S → State → Prop} {BX : String → SX → State → Prop} {AX : Nat → Prop} (hr : vx_Run p l e R s m args below meth c H locs cells slots mc ms (F0 m pc ls st0) rest (va_Qv post B A1 a) (vx_X px BX AX) free) (hS : va_S A0 H0 H locs) (hA : ∀ q, q < H.size → A1 q → A0 q) (hf : ∀ q, free q → A0 q) (hAX : ∀ q, q < H.size → AX q → A0 q)
    (kx : ∀ (E : String) (ce : Cell) (q9 : Addr) (u : SX) (t : State) (H1 : Heap) (locs1 : List Loc), t.heap = H1 → s.vm.Alike t.vm → px u → BX E u t → H.size ≤ H1.size → (∀ q : Nat, q < H.size → ¬ AX q → H1[q]? = H[q]?) → va_S A0 H0 H1 locs1 → H1[q9]? = some ce → ce.vm = .none → s.vm.findClass E = some ce.cls → vx_W p l e R s m args below meth c H1 locs1 (cells + mc) (slots + ms) Q (F0 m pc ls rest) q9)
    (kk : ∀ (u : S) (t : State) (H1 : Heap) (locs1 : List Loc), t.heap = H1 → s.vm.Alike t.vm → post u → B u t → H.size ≤ H1.size → (∀ q : Nat, q < H.size → ¬ A1 q → H1[q]? = H[q]?) → va_S A0 H0 H1 locs1 → W p l e R s m args below meth c H1 locs1 (cells + mc) (slots + ms) Q (F0 m (pc + 3) ls (rest))) : W p l e R s m args below meth c H locs cells slots Q (F0 m pc ls st0) := by
  intro T hT X
  rcases hr T hT X with ⟨v, st₀, t, T', L, h0, X', hL, e1, e2, ⟨⟨u, hv, hp, hb⟩, hF⟩, st⟩ | ⟨q, st₀, t, T', L, E, ce, h0, X', hL, e1, e2, ⟨u, hp, hb, hF⟩, hce, hcv, hcl, st⟩
  · cases hv
    obtain ⟨k1, k2, k3⟩ := vx_keep h0 e1 hS hA hf hL hF
    obtain ⟨t2, a1, b1⟩ := kk u t T'.heap (locs ++ L) e1.symm (by rw [← e2]; exact X'.warmed.alike) hp hb k1 k2 k3 T' rfl X'
    exact ⟨t2, st t2 a1, b1⟩
  · obtain ⟨k1, k2, k3⟩ := vx_keep h0 e1 hS hAX hf hL hF
    obtain ⟨t2, a1, b1⟩ := kx E ce q u t T'.heap (locs ++ L) e1.symm (by rw [← e2]; exact X'.warmed.alike) hp hb k1 k2 k3 (by rw [e1]; exact hce) hcv hcl T' rfl X'
    exact ⟨t2, st.trans a1, b1⟩
/-- caught by the row x of this method's table; the rows ahead don't take it -/
theorem vx_catch {own name : String} {E : String} {ce : Cell} {q : Addr} (hown : s.vm.findClass own = some m.cls) (pre : List ExceptionTableEntry) (x : ExceptionTableEntry) (suf : List ExceptionTableEntry) (hsplit : c.exceptionTable.toList = pre ++ x :: suf)
    (hpass : ∀ z ∈ pre, covers z pc = false ∨ (z.catchType ≠ 0 ∧ ∃ nm : String, (Cond.classLink own z.catchType nm).before args s = true ∧ va_Nc E nm s)) (hx : covers x pc = true) (h0 : x.catchType ≠ 0)
    (hlink : (Cond.classLink own x.catchType name).before args s = true) (hcast : (Cond.castable E name).before args s = true) (hcell : H[q]? = some ce) (hv : ce.vm = .none) (hcl : s.vm.findClass E = some ce.cls)
    (kk : W p l e R s m args below meth c H locs cells slots Q (F0 m x.handlerPc ls [.ref q])) : vx_W p l e R s m args below meth c H locs cells slots Q (F0 m pc ls rest) q := by
  intro T hT X
  have hpl : e.platform.magicAccessors = ({} : Platform).magicAccessors := by rw [X.admits.platform]
  obtain ⟨c3, c4, hc3, hc4, hasg⟩ := Cond.castable_spec hcast
  cases Option.some.inj (hc3.symm.trans hcl)
  obtain ⟨c5, hc5, hcl5⟩ := Cond.classLink_spec hown hlink e.platform hpl
  cases Option.some.inj (hc4.symm.trans hc5)
  obtain ⟨vm', X', st⟩ := Jvm.Stand.thenCaughtThrough X q (g := F0 m pc ls rest) rfl (Steps.refl _) (by rw [hT]; exact hcell) (by rw [hv]; rfl) (by obtain ⟨k9, h9, -⟩ := Vm.findClass_spec hcl; exact ⟨k9, h9⟩) pre x suf hsplit
    (fun z hz => by
      rcases hpass z hz with h | ⟨hz0, nm, hl1, hn1⟩
      · exact Or.inl h
      · obtain ⟨c6, hc6, hcl6⟩ := Cond.classLink_spec hown hl1 e.platform hpl
        obtain ⟨a8, b8, h1, h2, h3⟩ := hn1
        cases Option.some.inj (h1.symm.trans hcl)
        cases Option.some.inj (h2.symm.trans hc6)
        exact Or.inr ⟨hz0, _, hcl6, h3⟩) hx (Or.inr ⟨h0, c4, hcl5, hasg⟩)
  obtain ⟨t, a1, b1⟩ := kk (T.setVm vm') hT X'
  exact ⟨t, st.trans a1, b1⟩
end Rows
section Ends
variable {p : Program} {l : Launch} {e : Env} {R : Room} {s : State} {m : MethodId} {args : Array Value} {below : List Frame} {meth : Method} {c : Code} {H : Heap} {locs : List Loc} {cells slots : Nat} {Q : State → Prop}
variable {mc ms : Nat} {free : Addr → Prop} {A0 A1 : Nat → Prop} {H0 : Heap} {a : Array Value} {ls : Array Slot} {st0 rest : List Value}
variable {Qc : Array Value → State → Outcome → State → Prop} {XC : String → State → State → Prop}
/-- what a body that may throw owes at its end -/
def vx_MQ (below : List Frame) (Qc : Array Value → State → Outcome → State → Prop) (XC : String → State → State → Prop) (a : Array Value) (s : State) (mc ms : Nat) (free : Addr → Prop) : State → Prop := fun t =>
  ∃ o, t.status = .running ∧ Ended t below o ∧ vx_Q Qc XC mc ms free a s o t
theorem vx_ret {g : JFrame} {mc ms : Nat} (k : W p l e R s m args below meth c H locs cells slots (MQ below Qc args s mc ms free) g) : W p l e R s m args below meth c H locs cells slots (vx_MQ below Qc XC args s mc ms free) g := by
  intro T hT X
  obtain ⟨t, a1, o, b1, b2, b3, b4⟩ := k T hT X
  exact ⟨t, a1, o, b1, b2, Or.inl ⟨b3, b4⟩⟩
/-- not caught here: it goes on to the caller -/
theorem vx_widen {g : JFrame} {q : Addr} {k n : Nat} (h1 : cells ≤ k) (h2 : slots ≤ n) (kk : vx_W p l e R s m args below meth c H locs k n Q g q) : vx_W p l e R s m args below meth c H locs cells slots Q g q := fun T hT X => kk T hT (stand_widen X h1 h2)
theorem vx_out {pc : Nat} {E : String} {ce : Cell} {q : Addr} {mc ms : Nat} (hout : ∀ x ∈ c.exceptionTable.toList, covers x pc = false) (hlocks : meth.locks = false) (hcell : H[q]? = some ce) (hv : ce.vm = .none) (hcl : s.vm.findClass E = some ce.cls)
    (hx : ∀ t : State, t.heap = H → s.vm.Alike t.vm → XC E s t) (hf : ∀ z ∈ locs, free z.base) (hc : cells ≤ mc) (hs : slots ≤ ms) :
    vx_W p l e R s m args below meth c H locs cells slots (vx_MQ below Qc XC args s mc ms free) (F0 m pc ls rest) q := by
  intro T hT X
  obtain ⟨st1, hrun, hend, hW, hsm⟩ := X.leaveThrown q (g := F0 m pc ls rest) rfl rfl rfl hout hlocks
  have hcell9 : (T.setFrames (.throwing q :: below)).heap[q]? = some ce := by
    show T.heap[q]? = some ce
    rw [hT]; exact hcell
  exact ⟨_, st1, .threw q, hrun, hend, Or.inr ⟨q, rfl, E, ce, locs, hx _ hT hW.alike, hcell9, hv, hcl, hW, hsm.mono hc hs, hf⟩⟩
theorem vx_frame {U : State} {k n : Nat} (h : s.sameButNew ({ U with vm := s.vm } : State) locs k n) : s.heap.size ≤ U.heap.size ∧ ∀ q : Nat, q < s.heap.size → (∀ z ∈ locs, z.base ≠ q) → U.heap[q]? = s.heap[q]? := by
  obtain ⟨-, h2, -, -, -, h6⟩ := h
  refine ⟨h2, fun q hq hz => ?_⟩
  obtain ⟨c9, e1, e2, e3, e4⟩ := h6 q _ (Array.getElem?_eq_getElem hq)
  have hs : c9.slots = (s.heap[q]).slots := Array.ext_getElem? fun i => e4 i fun hm => hz _ hm rfl
  have h9 : c9 = s.heap[q] := by
    rw [hs] at e2
    exact e2
  have e5 : U.heap[q]? = some c9 := e1
  rw [e5, h9, Array.getElem?_eq_getElem hq]
/-- the words of a throw but the four that speak of the heap -/
def vx_no (w : Cond) : Bool := decide (w ≠ .isRef (.static Bundle.tN "UNASSIGNED_STACK" Bundle.steD)) && decide (w ≠ .isRef (.static Bundle.tN "SUPPRESSED_SENTINEL" Bundle.listD)) && decide (w ≠ .laysStatic Bundle.tN "UNASSIGNED_STACK" Bundle.steD) && decide (w ≠ .laysStatic Bundle.tN "SUPPRESSED_SENTINEL" Bundle.listD)
def vx_at0 (own : String) (ic : Nat) (X : String) (names : List String) : List Cond := (Bundle.ownAtoms0 own ic X names).filter vx_no
def vx_atS (own : String) (ic : Nat) (X : String) (names : List String) : List Cond := (Bundle.ownAtoms own ic X names).filter vx_no
/-- a word that the tables alone decide, or a good one -/
def vx_ot (w : Cond) : Bool := w.onTables || goodWord w
theorem vx_ot_at {args a' : Array Value} {s U : State} {w : Cond} (hW : s.WarmedH U.vm) (hvm : s.vm = U.vm) (hg : vx_ot w = true) (h : w.before args s = true) : w.before a' U = true := by
  simp only [vx_ot, Bool.or_eq_true] at hg
  rcases hg with hg | hg
  · exact va_tabs hg hvm h
  · exact word_at hW (good_of_word hg) h
/-- a list's words: the good ones out of the method's own list, the others by premises of their own -/
theorem vx_hat {args : Array Value} {s : State} {L B : List Cond} (h1 : ∀ w ∈ L.filter goodWord, w.before args s = true) (h2 : ∀ w ∈ L.filter (fun w => !goodWord w), w ∈ B) (h3 : ∀ w ∈ B, w.before args s = true) : ∀ w ∈ L, w.before args s = true := by
  intro w hw
  by_cases g : goodWord w = true
  · exact h1 w (List.mem_filter.mpr ⟨hw, g⟩)
  · refine h3 w (h2 w (List.mem_filter.mpr ⟨hw, ?_⟩))
    show (!goodWord w) = true
    cases hgw : goodWord w
    · rfl
    · exact absurd hgw g
theorem vx_c {args : Array Value} {s : State} {w : Cond} {B : List Cond} (h : w.before args s = true) (t : ∀ w ∈ B, w.before args s = true) : ∀ w' ∈ w :: B, w'.before args s = true := fun w' h' => (List.mem_cons.mp h').elim (fun e => by rw [e]; exact h) (t w')
theorem vx_n {args : Array Value} {s : State} : ∀ w ∈ ([] : List Cond), w.before args s = true := fun _ h => nomatch h
theorem vx_own {args : Array Value} {s : State} {L : List Cond} (h1 : ∀ w ∈ L.filter vx_no, w.before args s = true)
    (hU : (Cond.isRef (.static Bundle.tN "UNASSIGNED_STACK" Bundle.steD)).before args s = true) (hN : (Cond.isRef (.static Bundle.tN "SUPPRESSED_SENTINEL" Bundle.listD)).before args s = true)
    (lU : (Cond.laysStatic Bundle.tN "UNASSIGNED_STACK" Bundle.steD).before args s = true) (lN : (Cond.laysStatic Bundle.tN "SUPPRESSED_SENTINEL" Bundle.listD).before args s = true) : ∀ w ∈ L, w.before args s = true := by
  intro w hw
  by_cases e1 : w = .isRef (.static Bundle.tN "UNASSIGNED_STACK" Bundle.steD)
  · rw [e1]; exact hU
  · by_cases e2 : w = .isRef (.static Bundle.tN "SUPPRESSED_SENTINEL" Bundle.listD)
    · rw [e2]; exact hN
    · by_cases e3 : w = .laysStatic Bundle.tN "UNASSIGNED_STACK" Bundle.steD
      · rw [e3]; exact lU
      · by_cases e4 : w = .laysStatic Bundle.tN "SUPPRESSED_SENTINEL" Bundle.listD
        · rw [e4]; exact lN
        · exact h1 w (List.mem_filter.mpr ⟨hw, by unfold vx_no; rw [decide_eq_true e1, decide_eq_true e2, decide_eq_true e3, decide_eq_true e4]; rfl⟩)
/-- where a static field lies, its class's statics cell in H -/
def vx_L (C n d : String) (A : Nat → Prop) (U : State) (H : Heap) : Prop := ∃ (c : ClassId) (k : Class) (i : Nat) (f : Field) (a : Nat) (cell : Cell), U.vm.findClass C = some c ∧ U.fieldFound? C n d = some (c, k, i, f) ∧ f.isStatic = true ∧ k.statics = some a ∧ H[a]? = some cell ∧ cell.vm.isStatics = true ∧ cell.cls = c ∧ f.slot < cell.slots.size ∧ k.staticTypes[f.slot]? = some f.type ∧ ¬ A a
theorem vx_L.moved {C n d : String} {A : Nat → Prop} {u U : State} {H : Heap} (hvm : u.vm.Alike U.vm) (h : vx_L C n d A u H) : vx_L C n d A U H := by
  obtain ⟨c, k, i, f, a, cell, h1, h2, h3, h4, h5, h6, h7, h8, h9, h10⟩ := h
  obtain ⟨k', hi', he⟩ := State.fieldFound?_setVm hvm h2
  exact ⟨c, k', i, f, a, cell, by rw [hvm.findClass]; exact h1, hi', h3, by rw [he]; exact h4, h5, h6, h7, h8, by rw [he]; exact h9, h10⟩
theorem vx_L.kept {C n d : String} {A : Nat → Prop} {U : State} {H H1 : Heap} (h : vx_L C n d A U H) (hq : ∀ a : Nat, a < H.size → ¬ A a → H1[a]? = H[a]?) : vx_L C n d A U H1 := by
  obtain ⟨c, k, i, f, a, cell, h1, h2, h3, h4, h5, h6, h7, h8, h9, h10⟩ := h
  exact ⟨c, k, i, f, a, cell, h1, h2, h3, h4, by rw [hq a (Array.getElem?_eq_some_iff.mp h5).1 h10]; exact h5, h6, h7, h8, h9, h10⟩
theorem vx_L.narrow {C n d : String} {A B : Nat → Prop} {U : State} {H : Heap} (h : vx_L C n d A U H) (hAB : ∀ q, B q → A q) : vx_L C n d B U H := by
  obtain ⟨c, k, i, f, a, cell, h1, h2, h3, h4, h5, h6, h7, h8, h9, h10⟩ := h
  exact ⟨c, k, i, f, a, cell, h1, h2, h3, h4, h5, h6, h7, h8, h9, fun z => h10 (hAB _ z)⟩
theorem vx_L.word {C n d : String} {A : Nat → Prop} {s : State} {args : Array Value} (h : vx_L C n d A s s.heap) : (Cond.laysStatic C n d).before args s = true := by
  obtain ⟨c, k, i, f, a, cell, h1, h2, h3, h4, h5, h6, h7, h8, h9, -⟩ := h
  show (Cond.laysStatic C n d).holds args s none s [] = true
  exact Cond.laysStatic_of h1 h2 h3 h4 h5 h6 h7 h8 h9
/-- .. and what it holds: null or some reference -/
def vx_Zq (C n d : String) (A : Nat → Prop) (U : State) (H : Heap) : Prop := va_Zq C n d A U H ∧ vx_L C n d A U H
theorem vx_Zq.moved {C n d : String} {A : Nat → Prop} {u U : State} {H : Heap} (hvm : u.vm.Alike U.vm) (h : vx_Zq C n d A u H) : vx_Zq C n d A U H := ⟨va_Zq.moved hvm h.1, vx_L.moved hvm h.2⟩
theorem vx_Zq.kept {C n d : String} {A : Nat → Prop} {U : State} {H H1 : Heap} (h : vx_Zq C n d A U H) (hq : ∀ a : Nat, a < H.size → ¬ A a → H1[a]? = H[a]?) : vx_Zq C n d A U H1 := ⟨va_Zq.kept h.1 hq, vx_L.kept h.2 hq⟩
theorem vx_Zq.narrow {C n d : String} {A B : Nat → Prop} {U : State} {H : Heap} (h : vx_Zq C n d A U H) (hAB : ∀ q, B q → A q) : vx_Zq C n d B U H := ⟨va_Zq.narrow h.1 hAB, vx_L.narrow h.2 hAB⟩
theorem vx_Zqof {args : Array Value} {s : State} {C n d : String} {A : Nat → Prop} (hl : (Cond.laysStatic C n d).before args s = true) (hini : (Cond.initialized C).before args s = true) (h : (Cond.isRef (.static C n d)).before args s = true) (hA : ∀ a : Nat, a < s.heap.size → ¬ A a) : vx_Zq C n d A s s.heap := by
  refine ⟨va_Zqof hl hini h hA, ?_⟩
  obtain ⟨c, k, i, f, a, cell, h1, h2, h3, h4, h5, h6, h7, h8, h9⟩ := Cond.laysStatic_spec hl
  exact ⟨c, k, i, f, a, cell, h1, h2, h3, h4, h5, h6, h7, h8, h9, hA a (Array.getElem?_eq_some_iff.mp h5).1⟩
theorem vx_isRef {C n d : String} {v : Value} {A : Nat → Prop} {s : State} {args : Array Value} (h : va_Z C n d v A s s.heap) (hv : v.isRef = true) : (Cond.isRef (.static C n d)).before args s = true := by
  obtain ⟨cf, kf, fi, f, a, cell, h1, h2, h3, h4, h5, h6, h7, -⟩ := h
  have he : (Term.static C n d).eval args s none [] s = some v := by
    simp [Term.eval, State.fieldNamed?, h1, h2, h4, h5, h6, h7]
  simp only [Cond.before, Cond.holds, Cond.value, he]
  cases v <;> simp_all [Value.isRef]
theorem vx_isRefq {C n d : String} {A : Nat → Prop} {s : State} {args : Array Value} (h : va_Zq C n d A s s.heap) : (Cond.isRef (.static C n d)).before args s = true := by
  rcases h with h | ⟨t, h⟩
  · exact vx_isRef h rfl
  · exact vx_isRef h rfl
/-- the same frame, seen from here: as if the method were called anew in this heap -/
theorem vx_rebase {T : State} (X : Stand p l e R s m args below meth c T locs cells slots) {R' : Room} (hf : R'.frames ≤ R.frames) (hl : R'.locals ≤ R.locals) (hc : cells + R'.cells ≤ R.cells) (hs : slots + R'.slots ≤ R.slots) :
    Stand p l e R' ((T.setVm s.vm).setFrames (.invoking m args :: below)) m args below meth c T [] 0 0 := by
  have htop : (T.setVm s.vm).topJava?.isSome := X.here.top
  have hF : ((T.setVm s.vm).setFrames (.invoking m args :: below)).frames = .invoking m args :: below := State.frames_setFrames _ (State.cur_lt_of_top htop)
  obtain ⟨g₀, hg0⟩ := Option.isSome_iff_exists.mp htop
  obtain ⟨r, hr⟩ := State.topJava?_eq_some.mp hg0
  have hl9 : e.platform.stackLimits (T.setVm s.vm).me = e.platform.stackLimits s.me := X.limits
  have hb9 : (T.setVm s.vm).me.stackBytes = s.me.stackBytes := X.bytes
  refine ⟨X.admits, X.cas, X.clock, hF, ?_, X.hears, X.method, X.code, X.here, X.tail, X.warmed, ?_, ?_, ?_⟩
  · have h := X.room
    have hU : ((T.setVm s.vm).setFrames (.invoking m args :: below)).localsInUse = s.localsInUse := by
      rw [State.localsInUse_invoking hF (meth := meth) (c := c) X.method X.code, State.localsInUse_invoking X.frames X.method X.code]
    simp only [State.hasRoom, Bool.and_eq_true, decide_eq_true_eq] at h ⊢
    obtain ⟨⟨⟨⟨h1, h2, h3, h4, h5, h6⟩, h7⟩, h8⟩, h9⟩ := h
    rw [X.frames, List.length_cons] at h2 h3
    have q1 := X.heapSize
    have q2 := X.used
    simp only [hF, hU, List.length_cons, State.stackLimits_setFrames, State.stackBytes_setFrames, hl9, hb9]
    refine ⟨⟨⟨⟨by omega, by omega, by omega, by omega, by omega, h6⟩, ?_⟩, ?_⟩, X.book⟩
    · show T.heap.size + R'.cells ≤ e.platform.maxCells
      omega
    · show T.slotsUsed + R'.slots ≤ e.platform.maxSlots
      omega
  · rw [State.stackLimits_setFrames]; rfl
  · rw [State.stackBytes_setFrames]; rfl
  · refine ⟨?_, Nat.le_refl _, Nat.le_refl _, ?_, ?_, fun a c9 h9 => ⟨c9, h9, rfl, rfl, fun _ _ => rfl⟩⟩
    · obtain ⟨t, ht, -⟩ := State.frames_cons hr
      show T.setVm s.vm = { ((T.setVm s.vm).setFrames (.invoking m args :: below)).setFrames (T.setVm s.vm).frames with heap := T.heap, slotsUsed := T.slotsUsed }
      rw [State.setFrames_setFrames, State.setFrames_self ht]
      rfl
    · show T.slotsUsed = T.slotsUsed + ((T.heap.toList.drop T.heap.size).map (·.slots.size)).sum
      rw [List.drop_eq_nil_of_le (Nat.le_of_eq Array.length_toList)]
      rfl
    · show ((T.heap.toList.drop T.heap.size).map (·.slots.size)).sum ≤ 0
      rw [List.drop_eq_nil_of_le (Nat.le_of_eq Array.length_toList)]
      exact Nat.le_refl _
/-- 'throw new E()': new; dup; invokespecial; athrow -/
theorem vx_throw0 {cc : ByteArray} {pc : Nat} (hexec : p.tables.exec = Jvm.exec) (hb : c.code = cc) (hl : l.stackTraces = false) {own cls : String} {names : List String} {ik ic mc ms : Nat} {A : Nat → Prop}
    (hown : s.vm.findClass own = some m.cls) (hcls : Bundle.fit cls = true) (hnames : ∀ n ∈ names, Bundle.fit n = true)
    (hk : (Cond.classLink own ik cls).before args s = true) (hini : (Cond.initialized cls).before args s = true) (hat : ∀ w ∈ vx_at0 own ic cls names, w.before args s = true)
    (hgood : ∀ w ∈ Cond.classLink own ik cls :: Cond.initialized cls :: vx_at0 own ic cls names, vx_ot w = true)
    (hU : vx_Zq Bundle.tN "UNASSIGNED_STACK" Bundle.steD A s s.heap) (hN : vx_Zq Bundle.tN "SUPPRESSED_SENTINEL" Bundle.listD A s s.heap) (hS : va_S A s.heap H locs) (hsize : ls.size = c.maxLocals)
    (d0 : decode cc pc = .ok (.new ik, 3)) (d3 : decode cc (pc + 3) = .ok (.dup, 1)) (d4 : decode cc (pc + 4) = .ok (.invokespecial ic, 3)) (d7 : decode cc (pc + 7) = .ok (.athrow, 1))
    (hout : ∀ x ∈ c.exceptionTable.toList, covers x (pc + 7) = false)
    (hRframes : names.length + 3 < R.frames) (hRlocals : (rest.map fun v => v.category).sum + (13 * (names.length + 1) + 42) ≤ R.locals) (hRcells : cells + 1 ≤ R.cells) (hRslots : slots + 6 ≤ R.slots) (hlocks : meth.locks = false)
    (hx : ∀ t : State, s.vm.Alike t.vm → H.size ≤ t.heap.size → (∀ q : Nat, q < H.size → t.heap[q]? = H[q]?) → XC cls s t)
    (hf : ∀ z ∈ locs, free z.base) (hc : cells + 1 ≤ mc) (hs : slots + 6 ≤ ms) :
    W p l e R s m args below meth c H locs cells slots (vx_MQ below Qc XC args s mc ms free) (F0 m pc ls rest) := by
  intro T hT X
  have htr : e.platform.stackTraces = false := (show e.platform.stackTraces = l.stackTraces by rw [X.admits.platform]).trans hl
  have Y := vx_rebase X (R' := { frames := R.frames, locals := R.locals, cells := 1, slots := 6 }) (Nat.le_refl _) (Nat.le_refl _) hRcells hRslots
  obtain ⟨s', hA⟩ : ∃ z, z = (T.setVm s.vm).setFrames (.invoking m args :: below) := ⟨_, rfl⟩
  rw [← hA] at Y
  have hvm : s'.vm = s.vm := by rw [hA]; rfl
  have hhp : s'.heap = H := by rw [hA]; exact hT
  have hW0 : s.WarmedH s'.vm := by rw [hvm]; exact State.WarmedH.refl s
  have hat' : ∀ w ∈ vx_at0 own ic cls names, w.before args s' = true := fun w hw => vx_ot_at hW0 hvm.symm (hgood w (List.mem_cons_of_mem _ (List.mem_cons_of_mem _ hw))) (hat w hw)
  have hk' : (Cond.classLink own ik cls).before args s' = true := vx_ot_at hW0 hvm.symm (hgood _ List.mem_cons_self) hk
  have hini' : (Cond.initialized cls).before args s' = true := vx_ot_at hW0 hvm.symm (hgood _ (List.mem_cons_of_mem _ List.mem_cons_self)) hini
  have hU' : vx_Zq Bundle.tN "UNASSIGNED_STACK" Bundle.steD A s' s'.heap := by rw [hhp]; exact vx_Zq.moved hW0.alike (hU.kept hS.2.1)
  have hN' : vx_Zq Bundle.tN "SUPPRESSED_SENTINEL" Bundle.listD A s' s'.heap := by rw [hhp]; exact vx_Zq.moved hW0.alike (hN.kept hS.2.1)
  have h : ∀ w ∈ Bundle.ownAtoms0 own ic cls names, w.before args s' = true := vx_own hat' (vx_isRefq hU'.1) (vx_isRefq hN'.1) hU'.2.word hN'.2.word
  have hown' : s'.vm.findClass own = some m.cls := by rw [hvm]; exact hown
  have hins : (Cond.instantiable cls 6).before args s' = true := h _ (by simp [Bundle.ownAtoms0])
  obtain ⟨vm₁, cX, kX, hfX, hkX, -, -, X₁, st1⟩ := Y.newCold hexec (own := own) (C := cls) (index := ik) (n := 6) hown' hk' hins hini'
    (g := F0 m pc ls rest) rfl (by rw [hb]; exact d0) (Nat.le_refl _) (Nat.le_refl _)
  generalize hT1 : (T.setVm vm₁).pushCell { cls := cX, slots := kX.instanceTypes.map defaultValue, vm := .none } = T1 at X₁ st1
  have hcat : (Value.ref T.heap.size).category = 1 := rfl
  have hcellA : T1.heap[T.heap.size]? = some (freshCell cX kX) := by rw [← hT1]; exact State.heap_pushCell_size _ _
  have d3' : decode c.code (pc + 3) = .ok (.dup, 1) := by rw [hb]; exact d3
  obtain ⟨U, hsteps, hrun, hend, hW, hsame, ce, hce, hO⟩ := X₁.ctorThrow0 hexec htr (own := own) (cls := cls) (names := names) (ic := ic) hown' hcls hnames h (fun x hx => nomatch hx) hfX hkX hcellA (by rw [hhp, hT]; exact Nat.le_refl _)
    (g := { method := m, pc := pc + 4, locals := ls, stack := .ref T.heap.size :: .ref T.heap.size :: rest, locked := none }) rfl hsize rfl rfl (rest := rest) rfl
    (by rw [hb]; exact d4) (by rw [hb]; exact d7) hout hRframes (by simp only [List.map_cons, List.sum_cons, hcat]; omega) hlocks
  obtain ⟨f1, f2⟩ := vx_frame hsame
  rw [hhp] at f1 f2
  have hWs : s.WarmedH U.vm := State.WarmedH.trans hW0 hW
  have hcl : s.vm.findClass cls = some ce.cls := by
    have h9 := hO.cls
    rw [hvm] at h9
    exact h9
  have hall : s.sameButNew ({ U with vm := s.vm } : State) locs mc ms := by
    subst hA
    obtain ⟨e1, e2⟩ := hsame
    rw [State.setFrames_setFrames] at e1
    have h2 : (T.setVm s.vm).sameButNew ({ U with vm := s.vm } : State) [] (0 + 1) (0 + 6) := ⟨e1, e2⟩
    have h3 := X.same.trans h2
    rw [List.append_nil] at h3
    exact h3.mono hc hs
  refine ⟨U, ?_, .threw T.heap.size, hrun, hend, Or.inr ⟨T.heap.size, rfl, cls, ce, locs, hx U hWs.alike f1 (fun q hq => f2 q hq (fun z hz => nomatch hz)), hce, hO.vm, hcl, hWs, hall, hf⟩⟩
  refine st1 _ ?_
  show Steps p.tables e below (T1.setTop { method := m, pc := pc + 3, locals := ls, stack := .ref T.heap.size :: rest, locked := none }) _
  jvm_step X₁.here [X₁.here.top, hexec, d3', Value.category]
  exact hsteps
/-- 'throw new E("text")': new; dup; ldc; invokespecial; athrow -/
theorem vx_throwS {cc : ByteArray} {pc : Nat} (hexec : p.tables.exec = Jvm.exec) (hb : c.code = cc) (hl : l.stackTraces = false) {own cls text : String} {names : List String} {ik is ic mc ms sa : Nat} {A : Nat → Prop}
    (hown : s.vm.findClass own = some m.cls) (hcls : Bundle.fit cls = true) (hnames : ∀ n ∈ names, Bundle.fit n = true)
    (hk : (Cond.classLink own ik cls).before args s = true) (hini : (Cond.initialized cls).before args s = true) (hstr : vk_R own is text sa s) (hat : ∀ w ∈ vx_atS own ic cls names, w.before args s = true)
    (hgood : ∀ w ∈ Cond.classLink own ik cls :: Cond.initialized cls :: vx_atS own ic cls names, vx_ot w = true)
    (hU : vx_Zq Bundle.tN "UNASSIGNED_STACK" Bundle.steD A s s.heap) (hN : vx_Zq Bundle.tN "SUPPRESSED_SENTINEL" Bundle.listD A s s.heap) (hS : va_S A s.heap H locs) (hsize : ls.size = c.maxLocals)
    (d0 : decode cc pc = .ok (.new ik, 3)) (d3 : decode cc (pc + 3) = .ok (.dup, 1)) (d4 : decode cc (pc + 4) = .ok (.ldc is, 2)) (d6 : decode cc (pc + 6) = .ok (.invokespecial ic, 3)) (d9 : decode cc (pc + 9) = .ok (.athrow, 1))
    (hout : ∀ x ∈ c.exceptionTable.toList, covers x (pc + 9) = false)
    (hRframes : names.length + 3 < R.frames) (hRlocals : (rest.map fun v => v.category).sum + (13 * (names.length + 1) + 43) ≤ R.locals) (hRcells : cells + 1 ≤ R.cells) (hRslots : slots + 6 ≤ R.slots) (hlocks : meth.locks = false)
    (hx : ∀ t : State, s.vm.Alike t.vm → H.size ≤ t.heap.size → (∀ q : Nat, q < H.size → t.heap[q]? = H[q]?) → XC cls s t)
    (hf : ∀ z ∈ locs, free z.base) (hc : cells + 1 ≤ mc) (hs : slots + 6 ≤ ms) :
    W p l e R s m args below meth c H locs cells slots (vx_MQ below Qc XC args s mc ms free) (F0 m pc ls rest) := by
  intro T hT X
  have htr : e.platform.stackTraces = false := (show e.platform.stackTraces = l.stackTraces by rw [X.admits.platform]).trans hl
  have Y := vx_rebase X (R' := { frames := R.frames, locals := R.locals, cells := 1, slots := 6 }) (Nat.le_refl _) (Nat.le_refl _) hRcells hRslots
  obtain ⟨s', hA⟩ : ∃ z, z = (T.setVm s.vm).setFrames (.invoking m args :: below) := ⟨_, rfl⟩
  rw [← hA] at Y
  have hvm : s'.vm = s.vm := by rw [hA]; rfl
  have hhp : s'.heap = H := by rw [hA]; exact hT
  have hW0 : s.WarmedH s'.vm := by rw [hvm]; exact State.WarmedH.refl s
  have hat' : ∀ w ∈ vx_atS own ic cls names, w.before args s' = true := fun w hw => vx_ot_at hW0 hvm.symm (hgood w (List.mem_cons_of_mem _ (List.mem_cons_of_mem _ hw))) (hat w hw)
  have hk' : (Cond.classLink own ik cls).before args s' = true := vx_ot_at hW0 hvm.symm (hgood _ List.mem_cons_self) hk
  have hini' : (Cond.initialized cls).before args s' = true := vx_ot_at hW0 hvm.symm (hgood _ (List.mem_cons_of_mem _ List.mem_cons_self)) hini
  have hU' : vx_Zq Bundle.tN "UNASSIGNED_STACK" Bundle.steD A s' s'.heap := by rw [hhp]; exact vx_Zq.moved hW0.alike (hU.kept hS.2.1)
  have hN' : vx_Zq Bundle.tN "SUPPRESSED_SENTINEL" Bundle.listD A s' s'.heap := by rw [hhp]; exact vx_Zq.moved hW0.alike (hN.kept hS.2.1)
  have h : ∀ w ∈ Bundle.ownAtoms own ic cls names, w.before args s' = true := vx_own hat' (vx_isRefq hU'.1) (vx_isRefq hN'.1) hU'.2.word hN'.2.word
  have hown' : s'.vm.findClass own = some m.cls := by rw [hvm]; exact hown
  have hins : (Cond.instantiable cls 6).before args s' = true := h _ (by simp [Bundle.ownAtoms])
  obtain ⟨vm₁, cX, kX, hfX, hkX, -, -, X₁, st1⟩ := Y.newCold hexec (own := own) (C := cls) (index := ik) (n := 6) hown' hk' hins hini'
    (g := F0 m pc ls rest) rfl (by rw [hb]; exact d0) (Nat.le_refl _) (Nat.le_refl _)
  generalize hT1 : (T.setVm vm₁).pushCell { cls := cX, slots := kX.instanceTypes.map defaultValue, vm := .none } = T1 at X₁ st1
  have hcat : (Value.ref T.heap.size).category = 1 := rfl
  have hcellA : T1.heap[T.heap.size]? = some (freshCell cX kX) := by rw [← hT1]; exact State.heap_pushCell_size _ _
  have d3' : decode c.code (pc + 3) = .ok (.dup, 1) := by rw [hb]; exact d3
  have d4' : decode c.code (pc + 4) = .ok (.ldc is, 2) := by rw [hb]; exact d4
  have hstr' : vk_R own is text sa s' := vk_R.warm hW0 hstr
  obtain ⟨U, hsteps, hrun, hend, hW, hsame, ce, hce, hO⟩ := X₁.ctorThrowS hexec htr (own := own) (cls := cls) (names := names) (ic := ic) hown' hcls hnames h (fun x hx => nomatch hx) hfX hkX hcellA (by rw [hhp, hT]; exact Nat.le_refl _) (msg := .ref sa) rfl
    (g := { method := m, pc := pc + 6, locals := ls, stack := .ref sa :: .ref T.heap.size :: .ref T.heap.size :: rest, locked := none }) rfl hsize rfl rfl (rest := rest) rfl
    (by rw [hb]; exact d6) (by rw [hb]; exact d9) hout hRframes (by simp only [List.map_cons, List.sum_cons, hcat]; omega) hlocks
  obtain ⟨f1, f2⟩ := vx_frame hsame
  rw [hhp] at f1 f2
  have hWs : s.WarmedH U.vm := State.WarmedH.trans hW0 hW
  have hcl : s.vm.findClass cls = some ce.cls := by
    have h9 := hO.cls
    rw [hvm] at h9
    exact h9
  have hall : s.sameButNew ({ U with vm := s.vm } : State) locs mc ms := by
    subst hA
    obtain ⟨e1, e2⟩ := hsame
    rw [State.setFrames_setFrames] at e1
    have h2 : (T.setVm s.vm).sameButNew ({ U with vm := s.vm } : State) [] (0 + 1) (0 + 6) := ⟨e1, e2⟩
    have h3 := X.same.trans h2
    rw [List.append_nil] at h3
    exact h3.mono hc hs
  refine ⟨U, ?_, .threw T.heap.size, hrun, hend, Or.inr ⟨T.heap.size, rfl, cls, ce, locs, hx U hWs.alike f1 (fun q hq => f2 q hq (fun z hz => nomatch hz)), hce, hO.vm, hcl, hWs, hall, hf⟩⟩
  refine st1 _ ?_
  show Steps p.tables e below (T1.setTop { method := m, pc := pc + 3, locals := ls, stack := .ref T.heap.size :: rest, locked := none }) _
  jvm_step X₁.here [X₁.here.top, hexec, d3', Value.category]
  exact X₁.ldcString hexec (own := own) (text := text) (index := is) (a := sa) hown' hstr'.1 hstr'.2
    (g := { method := m, pc := pc + 4, locals := ls, stack := .ref T.heap.size :: .ref T.heap.size :: rest, locked := none }) rfl d4' _ hsteps
/-- 'throw new E("text")', the text by a wide index -/
theorem vx_throwSW {cc : ByteArray} {pc : Nat} (hexec : p.tables.exec = Jvm.exec) (hb : c.code = cc) (hl : l.stackTraces = false) {own cls text : String} {names : List String} {ik is ic mc ms sa : Nat} {A : Nat → Prop}
    (hown : s.vm.findClass own = some m.cls) (hcls : Bundle.fit cls = true) (hnames : ∀ n ∈ names, Bundle.fit n = true)
    (hk : (Cond.classLink own ik cls).before args s = true) (hini : (Cond.initialized cls).before args s = true) (hstr : vk_R own is text sa s) (hat : ∀ w ∈ vx_atS own ic cls names, w.before args s = true)
    (hgood : ∀ w ∈ Cond.classLink own ik cls :: Cond.initialized cls :: vx_atS own ic cls names, vx_ot w = true)
    (hU : vx_Zq Bundle.tN "UNASSIGNED_STACK" Bundle.steD A s s.heap) (hN : vx_Zq Bundle.tN "SUPPRESSED_SENTINEL" Bundle.listD A s s.heap) (hS : va_S A s.heap H locs) (hsize : ls.size = c.maxLocals)
    (d0 : decode cc pc = .ok (.new ik, 3)) (d3 : decode cc (pc + 3) = .ok (.dup, 1)) (d4 : decode cc (pc + 4) = .ok (.ldc_w is, 3)) (d7 : decode cc (pc + 7) = .ok (.invokespecial ic, 3)) (d10 : decode cc (pc + 10) = .ok (.athrow, 1))
    (hout : ∀ x ∈ c.exceptionTable.toList, covers x (pc + 10) = false)
    (hRframes : names.length + 3 < R.frames) (hRlocals : (rest.map fun v => v.category).sum + (13 * (names.length + 1) + 43) ≤ R.locals) (hRcells : cells + 1 ≤ R.cells) (hRslots : slots + 6 ≤ R.slots) (hlocks : meth.locks = false)
    (hx : ∀ t : State, s.vm.Alike t.vm → H.size ≤ t.heap.size → (∀ q : Nat, q < H.size → t.heap[q]? = H[q]?) → XC cls s t)
    (hf : ∀ z ∈ locs, free z.base) (hc : cells + 1 ≤ mc) (hs : slots + 6 ≤ ms) :
    W p l e R s m args below meth c H locs cells slots (vx_MQ below Qc XC args s mc ms free) (F0 m pc ls rest) := by
  intro T hT X
  have htr : e.platform.stackTraces = false := (show e.platform.stackTraces = l.stackTraces by rw [X.admits.platform]).trans hl
  have Y := vx_rebase X (R' := { frames := R.frames, locals := R.locals, cells := 1, slots := 6 }) (Nat.le_refl _) (Nat.le_refl _) hRcells hRslots
  obtain ⟨s', hA⟩ : ∃ z, z = (T.setVm s.vm).setFrames (.invoking m args :: below) := ⟨_, rfl⟩
  rw [← hA] at Y
  have hvm : s'.vm = s.vm := by rw [hA]; rfl
  have hhp : s'.heap = H := by rw [hA]; exact hT
  have hW0 : s.WarmedH s'.vm := by rw [hvm]; exact State.WarmedH.refl s
  have hat' : ∀ w ∈ vx_atS own ic cls names, w.before args s' = true := fun w hw => vx_ot_at hW0 hvm.symm (hgood w (List.mem_cons_of_mem _ (List.mem_cons_of_mem _ hw))) (hat w hw)
  have hk' : (Cond.classLink own ik cls).before args s' = true := vx_ot_at hW0 hvm.symm (hgood _ List.mem_cons_self) hk
  have hini' : (Cond.initialized cls).before args s' = true := vx_ot_at hW0 hvm.symm (hgood _ (List.mem_cons_of_mem _ List.mem_cons_self)) hini
  have hU' : vx_Zq Bundle.tN "UNASSIGNED_STACK" Bundle.steD A s' s'.heap := by rw [hhp]; exact vx_Zq.moved hW0.alike (hU.kept hS.2.1)
  have hN' : vx_Zq Bundle.tN "SUPPRESSED_SENTINEL" Bundle.listD A s' s'.heap := by rw [hhp]; exact vx_Zq.moved hW0.alike (hN.kept hS.2.1)
  have h : ∀ w ∈ Bundle.ownAtoms own ic cls names, w.before args s' = true := vx_own hat' (vx_isRefq hU'.1) (vx_isRefq hN'.1) hU'.2.word hN'.2.word
  have hown' : s'.vm.findClass own = some m.cls := by rw [hvm]; exact hown
  have hins : (Cond.instantiable cls 6).before args s' = true := h _ (by simp [Bundle.ownAtoms])
  obtain ⟨vm₁, cX, kX, hfX, hkX, -, -, X₁, st1⟩ := Y.newCold hexec (own := own) (C := cls) (index := ik) (n := 6) hown' hk' hins hini'
    (g := F0 m pc ls rest) rfl (by rw [hb]; exact d0) (Nat.le_refl _) (Nat.le_refl _)
  generalize hT1 : (T.setVm vm₁).pushCell { cls := cX, slots := kX.instanceTypes.map defaultValue, vm := .none } = T1 at X₁ st1
  have hcat : (Value.ref T.heap.size).category = 1 := rfl
  have hcellA : T1.heap[T.heap.size]? = some (freshCell cX kX) := by rw [← hT1]; exact State.heap_pushCell_size _ _
  have d3' : decode c.code (pc + 3) = .ok (.dup, 1) := by rw [hb]; exact d3
  have d4' : decode c.code (pc + 4) = .ok (.ldc_w is, 3) := by rw [hb]; exact d4
  have hstr' : vk_R own is text sa s' := vk_R.warm hW0 hstr
  obtain ⟨U, hsteps, hrun, hend, hW, hsame, ce, hce, hO⟩ := X₁.ctorThrowS hexec htr (own := own) (cls := cls) (names := names) (ic := ic) hown' hcls hnames h (fun x hx => nomatch hx) hfX hkX hcellA (by rw [hhp, hT]; exact Nat.le_refl _) (msg := .ref sa) rfl
    (g := { method := m, pc := pc + 7, locals := ls, stack := .ref sa :: .ref T.heap.size :: .ref T.heap.size :: rest, locked := none }) rfl hsize rfl rfl (rest := rest) rfl
    (by rw [hb]; exact d7) (by rw [hb]; exact d10) hout hRframes (by simp only [List.map_cons, List.sum_cons, hcat]; omega) hlocks
  obtain ⟨f1, f2⟩ := vx_frame hsame
  rw [hhp] at f1 f2
  have hWs : s.WarmedH U.vm := State.WarmedH.trans hW0 hW
  have hcl : s.vm.findClass cls = some ce.cls := by
    have h9 := hO.cls
    rw [hvm] at h9
    exact h9
  have hall : s.sameButNew ({ U with vm := s.vm } : State) locs mc ms := by
    subst hA
    obtain ⟨e1, e2⟩ := hsame
    rw [State.setFrames_setFrames] at e1
    have h2 : (T.setVm s.vm).sameButNew ({ U with vm := s.vm } : State) [] (0 + 1) (0 + 6) := ⟨e1, e2⟩
    have h3 := X.same.trans h2
    rw [List.append_nil] at h3
    exact h3.mono hc hs
  refine ⟨U, ?_, .threw T.heap.size, hrun, hend, Or.inr ⟨T.heap.size, rfl, cls, ce, locs, hx U hWs.alike f1 (fun q hq => f2 q hq (fun z hz => nomatch hz)), hce, hO.vm, hcl, hWs, hall, hf⟩⟩
  refine st1 _ ?_
  show Steps p.tables e below (T1.setTop { method := m, pc := pc + 3, locals := ls, stack := .ref T.heap.size :: rest, locked := none }) _
  jvm_step X₁.here [X₁.here.top, hexec, d3', Value.category]
  exact X₁.ldcStringW hexec (own := own) (text := text) (index := is) (a := sa) hown' hstr'.1 hstr'.2
    (g := { method := m, pc := pc + 4, locals := ls, stack := .ref T.heap.size :: .ref T.heap.size :: rest, locked := none }) rfl d4' _ hsteps
end Ends
section Bodies
variable {l : Launch}
theorem vx_ofW {y : MethodName} {ws ws' : List Cond} {rm : Room} {Pc : Array Value → State → Prop} {Qc : Array Value → State → Outcome → State → Prop} {XC : String → State → State → Prop} {mc ms : Nat} {free : Addr → Prop} {cc : ByteArray} {maxL : Nat} {ret : Option FieldType}
    (hy : plainName y.cls = true) (hw : ws = Cond.code y cc maxL ret :: ws')
    (body : ∀ p e s m args below meth c s₁, BodyLoose p l y (headSpec ws rm) cc maxL ret e s m args below meth c s₁ → c.maxLocals = maxL → (∀ x ∈ c.exceptionTable.toList, False) → Pc args s →
      W p l e (headSpec ws rm).room s m args below meth c s.heap [] 0 0 (vx_MQ below Qc XC args s mc ms free) (entryFrame m args maxL)) : vx_Met l y ws rm Pc Qc XC mc ms free := by
  refine MetFree.of_bodyS (code := cc) (maxLocals := maxL) (ret := ret) hy ?_ ?_
  · intro args s m h hn
    obtain ⟨meth, c, h1, h2, h3, h4, h5, h6, -, -⟩ := Cond.code_spec hn (atoms_spec (ws := ws) h _ (by rw [hw]; exact List.mem_cons_self))
    exact ⟨meth, c, h1, h2, h3, h4, h5, h6⟩
  · intro p e s m args below meth c s₁ B hml hP _
    have hh0 : s₁.heap = s.heap := by rw [B.state]; rfl
    have ht : ∀ x ∈ c.exceptionTable.toList, False := by
      obtain ⟨meth9, c9, h1, h2, -, -, -, -, h7, -⟩ := Cond.code_spec B.named (atoms_spec (ws := ws) B.pre _ (by rw [hw]; exact List.mem_cons_self))
      cases Option.some.inj (h1.symm.trans B.method)
      cases Option.some.inj (h2.symm.trans (Stand.of_body B).code)
      intro x hx
      rw [Array.isEmpty_iff.mp h7] at hx
      cases hx
    obtain ⟨t, a1, o, b1, b2, b3⟩ := body p e s m args below meth c s₁ B hml ht hP s₁ hh0 (Stand.of_body B)
    exact ⟨t, o, a1, b1, b2, b3⟩
/-- the table of a body with handlers -/
theorem vx_table {p : Program} {x y : MethodName} {S : Spec} {cc bytes : ByteArray} {maxL maxL' : Nat} {ret ret' : Option FieldType} {e : Env} {s s₁ : State} {m : MethodId} {args : Array Value} {below : List Frame} {meth : Method} {c : Code} {hh : List (Nat × Nat × Nat × Nat)}
    (B : BodyLoose p l y S cc maxL ret e s m args below meth c s₁) (h : (Cond.codeWith y bytes maxL' ret' hh).before args s = true) : c.exceptionTable.toList = tableOf hh := by
  obtain ⟨m9, meth9, c9, hn9, h1, h2, -, -, h6, -⟩ := Cond.codeWith_spec h
  cases Option.some.inj (hn9.symm.trans B.named)
  cases Option.some.inj (h1.symm.trans B.method)
  cases Option.some.inj (h2.symm.trans (Stand.of_body B).code)
  rw [← h6, table_eq]
end Bodies
end VXA
/-! ===== END ===== -/
/-! ===== BEGIN a static call of a method with an exception table ===== -/
section VXS
variable {p : Program} {l : Launch} {e : Env} {R : Room} {s : State} {m : MethodId} {args : Array Value} {below : List Frame} {meth : Method} {c : Code} {T : State} {H : Heap} {locs : List Loc} {cells slots : Nat}
abbrev vx_CSW (R : Room) (s : State) (args : Array Value) (own : String) (index : Nat) (y : MethodName) (bytes : ByteArray) (maxL : Nat) (ret : Option FieldType) (hh : List (Nat × Nat × Nat × Nat)) (ws : List Cond) (rm : Room) (mc ms n : Nat) : Prop :=
  (rm.cells = mc ∧ rm.slots = ms ∧ rm.frames + 1 ≤ R.frames ∧ 8 + (maxL + 11) + rm.locals ≤ R.locals ∧ (∀ w ∈ ws, ∀ (a' : Array Value) (U : State), s.WarmedH U.vm → w.before a' U = true) ∧ Cond.codeWith y bytes maxL ret hh ∈ ws) ∧
  (Cond.codeWith y bytes maxL ret hh).before args s = true ∧ (Cond.initialized y.cls).before args s = true ∧ (y.cls ≠ "java/lang/invoke/MethodHandle" ∧ y.cls ≠ "java/lang/invoke/VarHandle") ∧
  (∀ sig, parseMethodDescriptor y.desc = some sig → n = sig.parameters.length) ∧ (Cond.methodLink own index y).before args s = true ∧ (Cond.static y).before args s = true
theorem vx_cwSW {own : String} {index maxL mc ms : Nat} {y : MethodName} {bytes : ByteArray} {ret : Option FieldType} {hh : List (Nat × Nat × Nat × Nat)} {Ts ws ws' : List Cond} {rm : Room} (n : Nat) (ht : ∀ w ∈ Ts, w.before args s = true) (hT : GoodIn Ts (va_wsS own index y ws)) (hw : ws = Cond.codeWith y bytes maxL ret hh :: ws') (hrc : rm.cells = mc) (hrs : rm.slots = ms)
    (hd : y.cls ≠ "java/lang/invoke/MethodHandle" ∧ y.cls ≠ "java/lang/invoke/VarHandle" ∧ (parseMethodDescriptor y.desc).map (fun d => d.parameters.length) = some n) (hR : rm.frames + 1 ≤ R.frames ∧ 8 + (maxL + 11) + rm.locals ≤ R.locals) :
    vx_CSW R s args own index y bytes maxL ret hh ws rm mc ms n := by
  have ok : ∀ w ∈ va_wsS own index y ws, w.before args s = true := fun w h => ht w (hT w h).1
  have hG : GoodIn Ts ws := fun w h => hT w (by unfold va_wsS; exact List.mem_append_right _ h)
  have hc : Cond.codeWith y bytes maxL ret hh ∈ ws := by rw [hw]; exact List.mem_cons_self
  refine ⟨⟨hrc, hrs, hR.1, hR.2, pay_in ht hG, hc⟩, ht _ (hG _ hc).1, ok _ (by simp [va_wsS]), ⟨hd.1, hd.2.1⟩, fun sig h => ?_, ok _ (by simp [va_wsS]), ok _ (by simp [va_wsS])⟩
  have h2 := hd.2.2
  rw [h] at h2
  exact (Option.some.inj h2).symm
theorem vx_callSW (X : Stand p l e R s m args below meth c T locs cells slots) (hexec : p.tables.exec = Jvm.exec) {own : String} {index : Nat} {y : MethodName} {bytes : ByteArray} {maxL : Nat} {ret : Option FieldType} {hh : List (Nat × Nat × Nat × Nat)}
    (hown : s.vm.findClass own = some m.cls) (hlink : (Cond.methodLink own index y).before args s = true) (hstat : (Cond.static y).before args s = true) (hinit : (Cond.initialized y.cls).before args s = true)
    (hcode : (Cond.codeWith y bytes maxL ret hh).before args s = true) (hy : y.cls ≠ "java/lang/invoke/MethodHandle" ∧ y.cls ≠ "java/lang/invoke/VarHandle")
    {W9 : Nat} {Pre : Pt → Array Value → Prop} {Post : Pt → Array Value → Option Value → Pt → Prop} (hK : Back l R p e below s args y 3 W9 Pre Post)
    {g : JFrame} (hg : g.method = m) (hsize : g.locals.size = c.maxLocals) {argsL rest : List Value} (hlen : ∀ sig, parseMethodDescriptor y.desc = some sig → argsL.length = sig.parameters.length)
    (hstack : g.stack = argsL.reverse ++ rest) (hW : 2 * g.monitorRoom + (rest.map fun v => v.category).sum ≤ W9) (hdg : decode c.code g.pc = .ok (.invokestatic index, 3))
    (hpre : ∀ vm₁, s.WarmedH vm₁ → Pre ⟨T.setVm vm₁, locs, cells, slots⟩ argsL.toArray) :
    ∃ (v : Option Value) (vm₁ : Vm) (B : Pt), s.WarmedH vm₁ ∧ Stand p l e R s m args below meth c B.U B.locs B.cells B.slots ∧ Post ⟨T.setVm vm₁, locs, cells, slots⟩ argsL.toArray v B ∧
      ∀ target, Steps p.tables e below (B.U.setTop { g with pc := g.pc + 3, stack := v.toList ++ rest }) target → Steps p.tables e below (T.setTop g) target := by
  obtain ⟨mk, methM, cM, hnamed, hmethM, -, -, -, -, -, -, hsigM⟩ := Cond.codeWith_spec hcode
  have hstatic : methM.isStatic = true := Cond.static_spec hnamed hmethM hstat
  obtain ⟨kP, hkP, -⟩ := className_of_methodNamed hnamed
  have hinitP : kP.init = .initialized := Cond.initialized_spec (findClass_of_methodNamed hnamed) hkP hinit
  obtain ⟨vm₁, X₁, hstep₁⟩ := X.invokestatic hexec hown hlink hnamed hmethM hstatic hkP hinitP hy (g := g) hg (argsL := argsL) (rest := rest) (hlen _ hsigM) hstack hdg
  obtain ⟨v, B, X', hpost, hsteps⟩ := hK m meth c ⟨T.setVm vm₁, locs, cells, slots⟩ { g with stack := rest } (.invokestatic index) mk argsL.toArray X₁ hg hsize hdg hW (X₁.named hnamed) (hpre vm₁ X₁.warmed)
  exact ⟨v, vm₁, B, X₁.warmed, X', hpost, fun target h => hstep₁ _ fun acts => by rw [doInvoke_state]; exact hsteps.trans h⟩
theorem vx_runSW {y : MethodName} {bytes cc : ByteArray} {maxL nL mc ms n index : Nat} {ret : Option FieldType} {hh : List (Nat × Nat × Nat × Nat)} {ws : List Cond} {rm : Room} {Pc : Array Value → State → Prop} {Qc : Array Value → State → Outcome → State → Prop} {free : Addr → Prop} {Ts : List Cond} {own : String} {As rest : List Value} {g : JFrame}
    (S : CallFix p m c cc nL s args Ts own) (hM : Met l y ws rm Pc Qc mc ms free) (cw : vx_CSW R s args own index y bytes maxL ret hh ws rm mc ms n) (hp : PreS s H Pc As)
    (hg : g.method = m) (hn : As.length = n) (hsize : g.locals.size = nL) (hstack : g.stack = As.reverse ++ rest) (hW : 2 * g.monitorRoom + (rest.map fun v => v.category).sum ≤ 8) (hdg : decode cc g.pc = .ok (.invokestatic index, 3)) (hf : cells + mc ≤ R.cells ∧ slots + ms ≤ R.slots) :
    va_Run p l e R s m args below meth c H locs cells slots mc ms g rest (Qc As.toArray) (free) := by
  obtain ⟨⟨hrc, hrs, hfr, hlo, hws, hcw⟩, hcode, hini, hy, hlen, hl, hstt⟩ := cw
  have hK : Back l R p e below s args y 3 8 (PreOf R mc ms Pc) (PostOf Qc mc ms free) := va_backW (hh := hh) (bytes := bytes) (maxL := maxL) (ret := ret) hM hp.1 hrc hrs hfr hlo hws hcw (fun a' U hW => word_at hW (Or.inl (by first | rfl | simp [Cond.onTables, Cond.keeps, Cond.steady])) hini)
  obtain ⟨hx, hb, hml, ho, -⟩ := S
  intro T hT X
  obtain ⟨v, vm₁, ⟨U', l2, c2, s2⟩, hW₁, X', ⟨g', mk, t, L, e1, e2, hq, h1, hL, h2, h3⟩, st⟩ := vx_callSW X hx (hh := hh) (bytes := bytes) (maxL := maxL) (ret := ret) ho hl hstt hini hcode hy hK hg (hsize.trans hml.symm) (argsL := As) (rest := rest) (fun sig h => hn.trans (hlen sig h)) hstack hW (by rw [hb]; exact hdg)
    (fun vm₁ hW₁ => ⟨hf.1, hf.2, hp.2 (T.setVm vm₁) hT hW₁⟩)
  dsimp only [Pt.U, Pt.locs, Pt.cells, Pt.slots] at X' e1 e2 h1 h2 h3 st
  subst h1; subst h2; subst h3
  exact ⟨v, (T.setVm vm₁).calling g' mk As.toArray, t, U', L, hT, X', hL, e1, e2, hq, st⟩
/-- not caught here, past rows that name other classes: it goes on to the caller -/
theorem vx_outP {p : Program} {l : Launch} {e : Env} {R : Room} {s : State} {m : MethodId} {args : Array Value} {below : List Frame} {meth : Method} {c : Code} {H : Heap} {locs : List Loc} {cells slots : Nat} {free : Addr → Prop} {ls : Array Slot} {rest : List Value} {Qc : Array Value → State → Outcome → State → Prop} {XC : String → State → State → Prop}
    {pc : Nat} {own E : String} {ce : Cell} {q : Addr} {mc ms : Nat} (hown : s.vm.findClass own = some m.cls) (hlocks : meth.locks = false)
    (hpass : ∀ z ∈ c.exceptionTable.toList, covers z pc = false ∨ (z.catchType ≠ 0 ∧ ∃ nm : String, (Cond.classLink own z.catchType nm).before args s = true ∧ va_Nc E nm s)) (hcell : H[q]? = some ce) (hv : ce.vm = .none) (hcl : s.vm.findClass E = some ce.cls)
    (hx : ∀ t : State, t.heap = H → s.vm.Alike t.vm → XC E s t) (hf : ∀ z ∈ locs, free z.base) (hc : cells ≤ mc) (hs : slots ≤ ms) :
    vx_W p l e R s m args below meth c H locs cells slots (vx_MQ below Qc XC args s mc ms free) (F0 m pc ls rest) q := by
  intro T hT X
  have hpl : e.platform.magicAccessors = ({} : Platform).magicAccessors := by rw [X.admits.platform]
  obtain ⟨vm', hW', X', st⟩ := Jvm.Stand.outThrough X hlocks q (g := F0 m pc ls rest) rfl rfl rfl (cell := ce) (by rw [hT]; exact hcell) (by rw [hv]; rfl)
    (by obtain ⟨k9, h9, -⟩ := Vm.findClass_spec hcl; exact ⟨k9, h9⟩) (fun z hz => by
      rcases hpass z hz with h | ⟨hz0, nm, hl1, hn1⟩
      · exact Or.inl h
      · obtain ⟨c6, hc6, hcl6⟩ := Cond.classLink_spec hown hl1 e.platform hpl
        obtain ⟨a8, b8, h1, h2, h3⟩ := hn1
        cases Option.some.inj (h1.symm.trans hcl)
        cases Option.some.inj (h2.symm.trans hc6)
        exact Or.inr ⟨hz0, _, hcl6, h3⟩)
  obtain ⟨g₀, hfr⟩ := X'.frames_eq
  have hcell9 : ((T.setVm vm').setFrames (.throwing q :: below)).heap[q]? = some ce := by
    show T.heap[q]? = some ce
    rw [hT]; exact hcell
  have hend : Ended ((T.setVm vm').setFrames (.throwing q :: below)) below (.threw q) := State.frames_setFrames _ (State.cur_lt_of_frames hfr)
  refine ⟨(T.setVm vm').setFrames (.throwing q :: below), ?_, .threw q, X'.here.running, hend, Or.inr ⟨q, rfl, E, ce, locs, hx _ hT (X'.ends _).1.alike, hcell9, hv, hcl, (X'.ends _).1, (X'.ends _).2.mono hc hs, hf⟩⟩
  rw [X.pushThrowing_eq]
  exact st
/-- a thing of a world lies in the heap -/
theorem vx_lt {D : va_G} {cl : List vw_C} {ws : va_W} {H1 : Heap} (h : va_P D cl ws H1) {k : Nat} {q : Nat × va_E} (hk : ws[k]? = some q) : q.1 < H1.size := (h k q hk).lt
end VXS
/-! ===== END ===== -/
/-! ===== BEGIN methods with a table of their own: called by a name, returning or throwing ===== -/
section VXH
/-! vx_backW, vx_callVX, vx_callSX, vx_callVW, vx_runVW, vx_runVX, vx_runSX, vx_ofWH follow the same proofs as their sisters above (Free/Laws.lean, Shelf42/LK1.lean); vx_outP calls Shelf42/NT130.lean (outThrough). -/
section
variable {l : Launch} {R : Room} {p : Program} {e : Env} {below : List Frame} {s : State} {sargs : Array Value} {y : MethodName} {len W9 : Nat}
theorem vx_backW {ws : List Cond} {rm : Room} {Pc : Array Value → State → Prop} {Qc : Array Value → State → Outcome → State → Prop} {XC : String → State → State → Prop} {mc ms : Nat} {free : Addr → Prop} {bytes : ByteArray} {maxL : Nat} {ret : Option FieldType} {hh : List (Nat × Nat × Nat × Nat)}
    (hM : vx_Met l y ws rm Pc Qc XC mc ms free) (hblind : FrameBlind Pc) (hrc : rm.cells = mc) (hrs : rm.slots = ms)
    (hframes : rm.frames + 1 ≤ R.frames) (hlocals : W9 + (maxL + 11) + rm.locals ≤ R.locals)
    (hws : ∀ w ∈ ws, ∀ a' U, s.WarmedH U.vm → w.before a' U = true) (hcode : Cond.codeWith y bytes maxL ret hh ∈ ws) (hinit : ∀ a' U, s.WarmedH U.vm → (Cond.initialized y.cls).before a' U = true) :
    vx_Back l R p e below s sargs y len W9 (PreOf R mc ms Pc) (PostOf Qc mc ms free) (vx_Post XC mc ms free) := by
  intro m meth c A g ig mk a X hg hsize hdg hW hn hp
  have h1 : (headSpec ws rm).pre.before a A.U = true := atoms_intro fun w hw => hws w hw _ _ X.warmed
  have h2 : (Cond.codeWith y bytes maxL ret hh).before a A.U = true := hws _ hcode _ _ X.warmed
  have h3 : (Cond.initialized y.cls).before a A.U = true := hinit _ _ X.warmed
  have h4 : A.cells + (headSpec ws rm).room.cells ≤ R.cells := by rw [show (headSpec ws rm).room.cells = mc from hrc]; exact hp.1
  have h5 : A.slots + (headSpec ws rm).room.slots ≤ R.slots := by rw [show (headSpec ws rm).room.slots = ms from hrs]; exact hp.2.1
  have hPc : Pc a (A.U.calling g mk a) := hblind _ _ _ _ hp.2.2
  obtain ⟨U, Ls, c0, s0⟩ := A
  dsimp only [Pt.U, Pt.locs, Pt.cells, Pt.slots] at h1 h2 h3 h4 h5 X hn hPc ⊢
  obtain ⟨m9, methY, cY, hn9, hmY, hcY, -, hlY, -⟩ := Cond.codeWith_spec h2
  cases Option.some.inj (hn9.symm.trans hn)
  obtain ⟨kY, hkY, -⟩ := className_of_methodNamed hn
  have hinitY : kY.init = .initialized := Cond.initialized_spec (findClass_of_methodNamed hn) hkY h3
  have h : At U g.method c below := by rw [hg]; exact X.here
  have hlocals9 : W9 + (maxL + 11) + (headSpec ws rm).room.locals ≤ R.locals := hlocals
  have happ : (headSpec ws rm).appliesLoose y e.platform (U.calling g mk a) = true :=
    Spec.appliesLoose_calling (g := g) h hdg hn hkY hinitY
      (X.room_calling (g := g) (R' := (headSpec ws rm).room) hsize hmY hcY hframes (by rw [hlY]; omega) h4 h5) h1
  obtain ⟨mid, hmid⟩ := h.above
  have hfr : (U.setTop g).frames = (.java g :: mid) ++ below := by rw [State.frames_setTop' g h.top, hmid]; rfl
  obtain ⟨o, s₂, hsteps, -, hend, hq⟩ := Steps.callFree hM p X.admits X.cas X.clock (acts := []) hfr happ hPc trivial
  have hq' : vx_Q Qc XC mc ms free a (U.calling g mk a) o s₂ := hq
  rw [State.frames_setTop' g h.top] at hend
  obtain ⟨g₀, hg0⟩ := Option.isSome_iff_exists.mp h.top
  obtain ⟨r, hr⟩ := State.topJava?_eq_some.mp hg0
  have hr' : (({ U with heap := s₂.heap, slotsUsed := s₂.slotsUsed } : State).setVm s₂.vm).frames = .java g₀ :: r := hr
  rcases hq' with ⟨hqc, L, hfe, hL⟩ | ⟨q, rfl, E, ce, L, hx, hce, hcv, hcl, hW₂, hsm, hL⟩
  · obtain ⟨⟨v, rfl⟩, hW₂, e2, q2, q3, q4, q5, q6⟩ := id hfe
    have e3 : s₂ = ({ (U.calling g mk a).setFrames s₂.frames with heap := s₂.heap, slotsUsed := s₂.slotsUsed } : State).setVm s₂.vm := by
      have : s₂ = ({ s₂ with vm := (U.calling g mk a).vm } : State).setVm s₂.vm := rfl
      rw [e2] at this
      exact this
    obtain ⟨c₂, i₂, len₂, hc₂, hd₂, hf₂⟩ := hend
    have hW' : U.WarmedH s₂.vm := hW₂
    have hcc : c₂ = c := by
      have h1 : s₂.code? g.method = U.code? g.method := by
        rw [State.code?_eq, State.code?_eq, hW'.alike.method?]
      exact Option.some.inj (hc₂.symm.trans (h1.trans h.code))
    subst hcc
    have hlen : len₂ = len := by rw [hdg] at hd₂; cases hd₂; rfl
    subst hlen
    have hs₂ : s₂ = (({ U with heap := s₂.heap, slotsUsed := s₂.slotsUsed } : State).setVm s₂.vm).setTop { g with pc := g.pc + len₂, stack := v.toList ++ g.stack } := by
      refine e3.trans ?_
      rw [hf₂, State.calling_eq h.top, State.setFrames_setFrames, State.setTop_of_frames _ hr', hr]
      rfl
    have hsame : U.sameButNew ({ U with heap := s₂.heap, slotsUsed := s₂.slotsUsed } : State) L mc ms := by
      refine ⟨?_, q2, q3, q4, q5, q6⟩
      obtain ⟨t, ht, -⟩ := State.frames_cons hr
      show ({ U with heap := s₂.heap, slotsUsed := s₂.slotsUsed } : State) = { U.setFrames U.frames with heap := s₂.heap, slotsUsed := s₂.slotsUsed }
      rw [State.setFrames_self ht]
    subst hg
    refine Or.inl ⟨v, ⟨(({ U with heap := s₂.heap, slotsUsed := s₂.slotsUsed } : State).setVm s₂.vm), Ls ++ L, c0 + mc, s0 + ms⟩,
      ⟨X.admits, X.cas, X.clock, X.frames, X.room, X.hears, X.method, X.code, (X.here.setHeapUsed s₂.heap s₂.slotsUsed).setVm hW'.alike, X.tail, State.WarmedH.trans X.warmed hW', X.limits, X.bytes, X.same.trans (hsame.setVm s.vm)⟩,
      ⟨g, mk, s₂, L, rfl, rfl, hqc, rfl, hL, rfl, rfl⟩, ?_⟩
    show Steps p.tables e below _ ((({ U with heap := s₂.heap, slotsUsed := s₂.slotsUsed } : State).setVm s₂.vm).setTop { g with pc := g.pc + len₂, stack := v.toList ++ g.stack })
    rw [← hs₂]
    exact hsteps
  · obtain ⟨e2, q2, q3, q4, q5, q6⟩ := id hsm
    have e3 : s₂ = ({ (U.calling g mk a).setFrames s₂.frames with heap := s₂.heap, slotsUsed := s₂.slotsUsed } : State).setVm s₂.vm := by
      have : s₂ = ({ s₂ with vm := (U.calling g mk a).vm } : State).setVm s₂.vm := rfl
      rw [e2] at this
      exact this
    have hf₂ : s₂.frames = .throwing q :: .java g :: U.frames.tail := hend
    have hW' : U.WarmedH s₂.vm := hW₂
    have hs₂ : s₂ = ((({ U with heap := s₂.heap, slotsUsed := s₂.slotsUsed } : State).setVm s₂.vm).setTop g).pushFrame (.throwing q) := by
      refine e3.trans ?_
      rw [hf₂, State.calling_eq h.top, State.setFrames_setFrames, State.pushFrame, State.frames_setTop _ hr', State.setTop_of_frames _ hr', State.setFrames_setFrames, hr]
      rfl
    have hsame : U.sameButNew ({ U with heap := s₂.heap, slotsUsed := s₂.slotsUsed } : State) L mc ms := by
      refine ⟨?_, q2, q3, q4, q5, q6⟩
      obtain ⟨t, ht, -⟩ := State.frames_cons hr
      show ({ U with heap := s₂.heap, slotsUsed := s₂.slotsUsed } : State) = { U.setFrames U.frames with heap := s₂.heap, slotsUsed := s₂.slotsUsed }
      rw [State.setFrames_self ht]
    subst hg
    refine Or.inr ⟨q, ⟨(({ U with heap := s₂.heap, slotsUsed := s₂.slotsUsed } : State).setVm s₂.vm), Ls ++ L, c0 + mc, s0 + ms⟩,
      ⟨X.admits, X.cas, X.clock, X.frames, X.room, X.hears, X.method, X.code, (X.here.setHeapUsed s₂.heap s₂.slotsUsed).setVm hW'.alike, X.tail, State.WarmedH.trans X.warmed hW', X.limits, X.bytes, X.same.trans (hsame.setVm s.vm)⟩,
      ⟨g, mk, s₂, L, E, ce, rfl, rfl, hx, hce, hcv, hcl, rfl, hL, rfl, rfl⟩, ?_⟩
    show Steps p.tables e below _ (((({ U with heap := s₂.heap, slotsUsed := s₂.slotsUsed } : State).setVm s₂.vm).setTop g).pushFrame (.throwing q))
    rw [← hs₂]
    exact hsteps
end
variable {p : Program} {l : Launch} {e : Env} {R : Room} {s : State} {m : MethodId} {args : Array Value} {below : List Frame} {meth : Method} {c : Code} {T : State} {H : Heap} {locs : List Loc} {cells slots : Nat}
theorem vx_callVX (X : Stand p l e R s m args below meth c T locs cells slots) (hexec : p.tables.exec = Jvm.exec) {own C : String} {index : Nat} {y : MethodName} {bytes : ByteArray} {maxL : Nat} {ret : Option FieldType} {hh : List (Nat × Nat × Nat × Nat)}
    (hown : s.vm.findClass own = some m.cls) (hlink : (Cond.methodLink own index y).before args s = true) (hinst : (Cond.instanceMethod y).before args s = true) (hsel : (Cond.selects C y y).before args s = true)
    (hcode : (Cond.codeWith y bytes maxL ret hh).before args s = true) (hy : y.cls ≠ "java/lang/invoke/MethodHandle" ∧ y.cls ≠ "java/lang/invoke/VarHandle")
    {W9 : Nat} {Pre : Pt → Array Value → Prop} {Post : Pt → Array Value → Option Value → Pt → Prop} {PostX : Pt → Array Value → Addr → Pt → Prop} (hK : vx_Back l R p e below s args y 3 W9 Pre Post PostX)
    {b : Addr} {cellB : Cell} (hcell : T.heap[b]? = some cellB) (hobj : cellB.vm.isStatics = false) (hcls : s.vm.findClass C = some cellB.cls)
    {g : JFrame} (hg : g.method = m) (hsize : g.locals.size = c.maxLocals) {argsL rest : List Value} (hlen : ∀ sig, parseMethodDescriptor y.desc = some sig → argsL.length = sig.parameters.length)
    (hstack : g.stack = argsL.reverse ++ .ref b :: rest) (hW : 2 * g.monitorRoom + (rest.map fun v => v.category).sum ≤ W9) (hdg : decode c.code g.pc = .ok (.invokevirtual index, 3))
    (hpre : ∀ vm₁, s.WarmedH vm₁ → Pre ⟨T.setVm vm₁, locs, cells, slots⟩ (Value.ref b :: argsL).toArray) :
    (∃ (v : Option Value) (vm₁ : Vm) (B : Pt), s.WarmedH vm₁ ∧ Stand p l e R s m args below meth c B.U B.locs B.cells B.slots ∧ Post ⟨T.setVm vm₁, locs, cells, slots⟩ (Value.ref b :: argsL).toArray v B ∧
      ∀ target, Steps p.tables e below (B.U.setTop { g with pc := g.pc + 3, stack := v.toList ++ rest }) target → Steps p.tables e below (T.setTop g) target) ∨
    (∃ (q : Addr) (vm₁ : Vm) (B : Pt), s.WarmedH vm₁ ∧ Stand p l e R s m args below meth c B.U B.locs B.cells B.slots ∧ PostX ⟨T.setVm vm₁, locs, cells, slots⟩ (Value.ref b :: argsL).toArray q B ∧
      Steps p.tables e below (T.setTop g) ((B.U.setTop { g with stack := rest }).pushFrame (.throwing q))) := by
  obtain ⟨mk, methM, hnamed, hmethM, hstM, habM⟩ := Cond.instanceMethod_spec hinst
  obtain ⟨m8, methM', cM, hn8, hmethM', -, -, -, -, -, -, hsigM⟩ := Cond.codeWith_spec hcode
  cases Option.some.inj (hn8.symm.trans hnamed)
  cases hmethM.symm.trans hmethM'
  obtain ⟨c2, r2, m2, q1, q2, q3, q4, kP, hkP, hkPi⟩ := Cond.selects_spec hsel
  cases hcls.symm.trans q1
  cases (State.methodFound?_of_named hnamed hy).symm.trans q2
  cases hnamed.symm.trans q3
  have hselP : selectMethod e.platform s.vm cellB.cls mk = .method mk := by rw [Launch.admits_selectMethod X.admits]; exact q4
  obtain ⟨vm₁, X₁, hstep₁⟩ := X.invokevirtual hexec hown hlink hnamed hmethM hstM hkP hkPi hy (a := b) (cell := cellB) hcell
    (fun z h => by rw [h] at hobj; cases hobj) hselP hmethM habM hkP hkPi (g := g) hg (argsL := argsL) (rest := rest) (hlen _ hsigM) hstack hdg
  rcases hK m meth c ⟨T.setVm vm₁, locs, cells, slots⟩ { g with stack := rest } (.invokevirtual index) mk (Value.ref b :: argsL).toArray X₁ hg hsize hdg hW (X₁.named hnamed) (hpre vm₁ X₁.warmed) with ⟨v, B, X', hpost, hsteps⟩ | ⟨q, B, X', hpost, hsteps⟩
  · exact Or.inl ⟨v, vm₁, B, X₁.warmed, X', hpost, fun target h => hstep₁ _ fun acts => by rw [doInvoke_state]; exact hsteps.trans h⟩
  · exact Or.inr ⟨q, vm₁, B, X₁.warmed, X', hpost, hstep₁ _ fun acts => by rw [doInvoke_state]; exact hsteps⟩
theorem vx_callSX (X : Stand p l e R s m args below meth c T locs cells slots) (hexec : p.tables.exec = Jvm.exec) {own : String} {index : Nat} {y : MethodName} {bytes : ByteArray} {maxL : Nat} {ret : Option FieldType} {hh : List (Nat × Nat × Nat × Nat)}
    (hown : s.vm.findClass own = some m.cls) (hlink : (Cond.methodLink own index y).before args s = true) (hstat : (Cond.static y).before args s = true) (hinit : (Cond.initialized y.cls).before args s = true)
    (hcode : (Cond.codeWith y bytes maxL ret hh).before args s = true) (hy : y.cls ≠ "java/lang/invoke/MethodHandle" ∧ y.cls ≠ "java/lang/invoke/VarHandle")
    {W9 : Nat} {Pre : Pt → Array Value → Prop} {Post : Pt → Array Value → Option Value → Pt → Prop} {PostX : Pt → Array Value → Addr → Pt → Prop} (hK : vx_Back l R p e below s args y 3 W9 Pre Post PostX)
    {g : JFrame} (hg : g.method = m) (hsize : g.locals.size = c.maxLocals) {argsL rest : List Value} (hlen : ∀ sig, parseMethodDescriptor y.desc = some sig → argsL.length = sig.parameters.length)
    (hstack : g.stack = argsL.reverse ++ rest) (hW : 2 * g.monitorRoom + (rest.map fun v => v.category).sum ≤ W9) (hdg : decode c.code g.pc = .ok (.invokestatic index, 3))
    (hpre : ∀ vm₁, s.WarmedH vm₁ → Pre ⟨T.setVm vm₁, locs, cells, slots⟩ argsL.toArray) :
    (∃ (v : Option Value) (vm₁ : Vm) (B : Pt), s.WarmedH vm₁ ∧ Stand p l e R s m args below meth c B.U B.locs B.cells B.slots ∧ Post ⟨T.setVm vm₁, locs, cells, slots⟩ argsL.toArray v B ∧
      ∀ target, Steps p.tables e below (B.U.setTop { g with pc := g.pc + 3, stack := v.toList ++ rest }) target → Steps p.tables e below (T.setTop g) target) ∨
    (∃ (q : Addr) (vm₁ : Vm) (B : Pt), s.WarmedH vm₁ ∧ Stand p l e R s m args below meth c B.U B.locs B.cells B.slots ∧ PostX ⟨T.setVm vm₁, locs, cells, slots⟩ argsL.toArray q B ∧
      Steps p.tables e below (T.setTop g) ((B.U.setTop { g with stack := rest }).pushFrame (.throwing q))) := by
  obtain ⟨mk, methM, cM, hnamed, hmethM, -, -, -, -, -, -, hsigM⟩ := Cond.codeWith_spec hcode
  have hstatic : methM.isStatic = true := Cond.static_spec hnamed hmethM hstat
  obtain ⟨kP, hkP, -⟩ := className_of_methodNamed hnamed
  have hinitP : kP.init = .initialized := Cond.initialized_spec (findClass_of_methodNamed hnamed) hkP hinit
  obtain ⟨vm₁, X₁, hstep₁⟩ := X.invokestatic hexec hown hlink hnamed hmethM hstatic hkP hinitP hy (g := g) hg (argsL := argsL) (rest := rest) (hlen _ hsigM) hstack hdg
  rcases hK m meth c ⟨T.setVm vm₁, locs, cells, slots⟩ { g with stack := rest } (.invokestatic index) mk argsL.toArray X₁ hg hsize hdg hW (X₁.named hnamed) (hpre vm₁ X₁.warmed) with ⟨v, B, X', hpost, hsteps⟩ | ⟨q, B, X', hpost, hsteps⟩
  · exact Or.inl ⟨v, vm₁, B, X₁.warmed, X', hpost, fun target h => hstep₁ _ fun acts => by rw [doInvoke_state]; exact hsteps.trans h⟩
  · exact Or.inr ⟨q, vm₁, B, X₁.warmed, X', hpost, hstep₁ _ fun acts => by rw [doInvoke_state]; exact hsteps⟩
theorem vx_callVW (X : Stand p l e R s m args below meth c T locs cells slots) (hexec : p.tables.exec = Jvm.exec) {own C : String} {index : Nat} {y : MethodName} {bytes : ByteArray} {maxL : Nat} {ret : Option FieldType} {hh : List (Nat × Nat × Nat × Nat)}
    (hown : s.vm.findClass own = some m.cls) (hlink : (Cond.methodLink own index y).before args s = true) (hinst : (Cond.instanceMethod y).before args s = true) (hsel : (Cond.selects C y y).before args s = true)
    (hcode : (Cond.codeWith y bytes maxL ret hh).before args s = true) (hy : y.cls ≠ "java/lang/invoke/MethodHandle" ∧ y.cls ≠ "java/lang/invoke/VarHandle")
    {W9 : Nat} {Pre : Pt → Array Value → Prop} {Post : Pt → Array Value → Option Value → Pt → Prop} (hK : Back l R p e below s args y 3 W9 Pre Post)
    {b : Addr} {cellB : Cell} (hcell : T.heap[b]? = some cellB) (hobj : cellB.vm.isStatics = false) (hcls : s.vm.findClass C = some cellB.cls)
    {g : JFrame} (hg : g.method = m) (hsize : g.locals.size = c.maxLocals) {argsL rest : List Value} (hlen : ∀ sig, parseMethodDescriptor y.desc = some sig → argsL.length = sig.parameters.length)
    (hstack : g.stack = argsL.reverse ++ .ref b :: rest) (hW : 2 * g.monitorRoom + (rest.map fun v => v.category).sum ≤ W9) (hdg : decode c.code g.pc = .ok (.invokevirtual index, 3))
    (hpre : ∀ vm₁, s.WarmedH vm₁ → Pre ⟨T.setVm vm₁, locs, cells, slots⟩ (Value.ref b :: argsL).toArray) :
    ∃ (v : Option Value) (vm₁ : Vm) (B : Pt), s.WarmedH vm₁ ∧ Stand p l e R s m args below meth c B.U B.locs B.cells B.slots ∧ Post ⟨T.setVm vm₁, locs, cells, slots⟩ (Value.ref b :: argsL).toArray v B ∧
      ∀ target, Steps p.tables e below (B.U.setTop { g with pc := g.pc + 3, stack := v.toList ++ rest }) target → Steps p.tables e below (T.setTop g) target := by
  obtain ⟨mk, methM, hnamed, hmethM, hstM, habM⟩ := Cond.instanceMethod_spec hinst
  obtain ⟨m8, methM', cM, hn8, hmethM', -, -, -, -, -, -, hsigM⟩ := Cond.codeWith_spec hcode
  cases Option.some.inj (hn8.symm.trans hnamed)
  cases hmethM.symm.trans hmethM'
  obtain ⟨c2, r2, m2, q1, q2, q3, q4, kP, hkP, hkPi⟩ := Cond.selects_spec hsel
  cases hcls.symm.trans q1
  cases (State.methodFound?_of_named hnamed hy).symm.trans q2
  cases hnamed.symm.trans q3
  have hselP : selectMethod e.platform s.vm cellB.cls mk = .method mk := by rw [Launch.admits_selectMethod X.admits]; exact q4
  obtain ⟨vm₁, X₁, hstep₁⟩ := X.invokevirtual hexec hown hlink hnamed hmethM hstM hkP hkPi hy (a := b) (cell := cellB) hcell
    (fun z h => by rw [h] at hobj; cases hobj) hselP hmethM habM hkP hkPi (g := g) hg (argsL := argsL) (rest := rest) (hlen _ hsigM) hstack hdg
  obtain ⟨v, B, X', hpost, hsteps⟩ := hK m meth c ⟨T.setVm vm₁, locs, cells, slots⟩ { g with stack := rest } (.invokevirtual index) mk (Value.ref b :: argsL).toArray X₁ hg hsize hdg hW (X₁.named hnamed) (hpre vm₁ X₁.warmed)
  exact ⟨v, vm₁, B, X₁.warmed, X', hpost, fun target h => hstep₁ _ fun acts => by rw [doInvoke_state]; exact hsteps.trans h⟩
abbrev vx_CVW (R : Room) (s : State) (args : Array Value) (own C : String) (index : Nat) (y : MethodName) (bytes : ByteArray) (maxL : Nat) (ret : Option FieldType) (hh : List (Nat × Nat × Nat × Nat)) (ws : List Cond) (rm : Room) (mc ms n : Nat) : Prop :=
  (rm.cells = mc ∧ rm.slots = ms ∧ rm.frames + 1 ≤ R.frames ∧ 8 + (maxL + 11) + rm.locals ≤ R.locals ∧ (∀ w ∈ ws, ∀ (a' : Array Value) (U : State), s.WarmedH U.vm → w.before a' U = true) ∧ Cond.codeWith y bytes maxL ret hh ∈ ws) ∧
  (Cond.codeWith y bytes maxL ret hh).before args s = true ∧ (Cond.initialized y.cls).before args s = true ∧ (y.cls ≠ "java/lang/invoke/MethodHandle" ∧ y.cls ≠ "java/lang/invoke/VarHandle") ∧
  (∀ sig, parseMethodDescriptor y.desc = some sig → n = sig.parameters.length) ∧ (Cond.methodLink own index y).before args s = true ∧ (Cond.instanceMethod y).before args s = true ∧ (Cond.selects C y y).before args s = true
theorem vx_cwVW {own C : String} {index maxL mc ms : Nat} {y : MethodName} {bytes : ByteArray} {ret : Option FieldType} {hh : List (Nat × Nat × Nat × Nat)} {Ts ws ws' : List Cond} {rm : Room} (n : Nat) (ht : ∀ w ∈ Ts, w.before args s = true) (hT : GoodIn Ts (wsV own index C y ws)) (hw : ws = Cond.codeWith y bytes maxL ret hh :: ws') (hrc : rm.cells = mc) (hrs : rm.slots = ms)
    (hd : y.cls = C ∧ y.cls ≠ "java/lang/invoke/MethodHandle" ∧ y.cls ≠ "java/lang/invoke/VarHandle" ∧ (parseMethodDescriptor y.desc).map (fun d => d.parameters.length) = some n) (hR : rm.frames + 1 ≤ R.frames ∧ 8 + (maxL + 11) + rm.locals ≤ R.locals) :
    vx_CVW R s args own C index y bytes maxL ret hh ws rm mc ms n := by
  obtain ⟨hC, hd⟩ := hd
  subst hC
  have ok : ∀ w ∈ wsV own index y.cls y ws, w.before args s = true := fun w h => ht w (hT w h).1
  have hG : GoodIn Ts ws := fun w h => hT w (by unfold wsV; exact List.mem_append_right _ h)
  have hc : Cond.codeWith y bytes maxL ret hh ∈ ws := by rw [hw]; exact List.mem_cons_self
  refine ⟨⟨hrc, hrs, hR.1, hR.2, pay_in ht hG, hc⟩, ht _ (hG _ hc).1, ok _ (by simp [wsV]), ⟨hd.1, hd.2.1⟩, fun sig h => ?_, ok _ (by simp [wsV]), ok _ (by simp [wsV]), ok _ (by simp [wsV])⟩
  have h2 := hd.2.2
  rw [h] at h2
  exact (Option.some.inj h2).symm
theorem vx_runVW {y : MethodName} {bytes cc : ByteArray} {maxL nL mc ms n index : Nat} {ret : Option FieldType} {hh : List (Nat × Nat × Nat × Nat)} {ws : List Cond} {rm : Room} {Pc : Array Value → State → Prop} {Qc : Array Value → State → Outcome → State → Prop} {free : Addr → Prop} {Ts : List Cond} {own C : String} {b : Addr} {As rest : List Value} {g : JFrame}
    (S : CallFix p m c cc nL s args Ts own) (hM : Met l y ws rm Pc Qc mc ms free) (cw : vx_CVW R s args own C index y bytes maxL ret hh ws rm mc ms n) (hp : PreV s H C b Pc As)
    (hg : g.method = m) (hn : As.length = n) (hsize : g.locals.size = nL) (hstack : g.stack = As.reverse ++ .ref b :: rest) (hW : 2 * g.monitorRoom + (rest.map fun v => v.category).sum ≤ 8) (hdg : decode cc g.pc = .ok (.invokevirtual index, 3)) (hf : cells + mc ≤ R.cells ∧ slots + ms ≤ R.slots) :
    va_Run p l e R s m args below meth c H locs cells slots mc ms g rest (Qc (Value.ref b :: As).toArray) free := by
  obtain ⟨⟨hrc, hrs, hfr, hlo, hws, hcw⟩, hcode, hini, hy, hlen, hl, hin, hse⟩ := cw
  have hK : Back l R p e below s args y 3 8 (PreOf R mc ms Pc) (PostOf Qc mc ms free) := va_backW (hh := hh) (bytes := bytes) (maxL := maxL) (ret := ret) hM hp.1 hrc hrs hfr hlo hws hcw (fun a' U hW => word_at hW (Or.inl (by first | rfl | simp [Cond.onTables, Cond.keeps, Cond.steady])) hini)
  obtain ⟨hx, hb, hml, ho, -⟩ := S
  obtain ⟨-, ⟨cellB, hcB, hoB, hclB⟩, hPc⟩ := hp
  intro T hT X
  obtain ⟨v, vm₁, ⟨U', l2, c2, s2⟩, hW₁, X', ⟨g', mk, t, L, e1, e2, hq, h1, hL, h2, h3⟩, st⟩ := vx_callVW X hx (C := C) (hh := hh) (bytes := bytes) (maxL := maxL) (ret := ret) ho hl hin hse hcode hy hK (by rw [hT]; exact hcB) hoB hclB hg (hsize.trans hml.symm) (argsL := As) (rest := rest) (fun sig h => hn.trans (hlen sig h)) hstack hW (by rw [hb]; exact hdg)
    (fun vm₁ hW₁ => ⟨hf.1, hf.2, hPc (T.setVm vm₁) hT hW₁⟩)
  dsimp only [Pt.U, Pt.locs, Pt.cells, Pt.slots] at X' e1 e2 h1 h2 h3 st
  subst h1; subst h2; subst h3
  exact ⟨v, (T.setVm vm₁).calling g' mk (Value.ref b :: As).toArray, t, U', L, hT, X', hL, e1, e2, hq, st⟩
section
variable {y : MethodName} {bytes cc : ByteArray} {maxL nL mc ms n index : Nat} {ret : Option FieldType} {ws : List Cond} {rm : Room} {Pc : Array Value → State → Prop} {Qc : Array Value → State → Outcome → State → Prop} {XC : String → State → State → Prop} {free : Addr → Prop} {Ts : List Cond} {own C : String} {b : Addr} {As rest : List Value} {g : JFrame}
theorem vx_runVX {hh : List (Nat × Nat × Nat × Nat)} (S : CallFix p m c cc nL s args Ts own) (hM : vx_Met l y ws rm Pc Qc XC mc ms free) (cw : vx_CVW R s args own C index y bytes maxL ret hh ws rm mc ms n) (hp : PreV s H C b Pc As)
    (hg : g.method = m) (hn : As.length = n) (hsize : g.locals.size = nL) (hstack : g.stack = As.reverse ++ .ref b :: rest) (hW : 2 * g.monitorRoom + (rest.map fun v => v.category).sum ≤ 8) (hdg : decode cc g.pc = .ok (.invokevirtual index, 3)) (hf : cells + mc ≤ R.cells ∧ slots + ms ≤ R.slots) :
    vx_Run p l e R s m args below meth c H locs cells slots mc ms g rest (Qc (Value.ref b :: As).toArray) XC free := by
  obtain ⟨⟨hrc, hrs, hfr, hlo, hws, hcw⟩, hcode, hini, hy, hlen, hl, hin, hse⟩ := cw
  have hK : vx_Back l R p e below s args y 3 8 (PreOf R mc ms Pc) (PostOf Qc mc ms free) (vx_Post XC mc ms free) := vx_backW (hh := hh) (bytes := bytes) (maxL := maxL) (ret := ret) hM hp.1 hrc hrs hfr hlo hws hcw (fun a' U hW => word_at hW (Or.inl (by first | rfl | simp [Cond.onTables, Cond.keeps, Cond.steady])) hini)
  obtain ⟨hx, hb, hml, ho, -⟩ := S
  obtain ⟨-, ⟨cellB, hcB, hoB, hclB⟩, hPc⟩ := hp
  intro T hT X
  rcases vx_callVX X hx (C := C) (hh := hh) (bytes := bytes) (maxL := maxL) (ret := ret) ho hl hin hse hcode hy hK (by rw [hT]; exact hcB) hoB hclB hg (hsize.trans hml.symm) (argsL := As) (rest := rest) (fun sig h => hn.trans (hlen sig h)) hstack hW (by rw [hb]; exact hdg)
    (fun vm₁ hW₁ => ⟨hf.1, hf.2, hPc (T.setVm vm₁) hT hW₁⟩) with ⟨v, vm₁, ⟨U', l2, c2, s2⟩, hW₁, X', ⟨g', mk, t, L, e1, e2, hq, h1, hL, h2, h3⟩, st⟩ | ⟨q, vm₁, ⟨U', l2, c2, s2⟩, hW₁, X', ⟨g', mk, t, L, E, ce, e1, e2, hq, hce, hcv, hcl, h1, hL, h2, h3⟩, st⟩
  · dsimp only [Pt.U, Pt.locs, Pt.cells, Pt.slots] at X' e1 e2 h1 h2 h3 st
    subst h1; subst h2; subst h3
    exact Or.inl ⟨v, (T.setVm vm₁).calling g' mk (Value.ref b :: As).toArray, t, U', L, hT, X', hL, e1, e2, hq, st⟩
  · dsimp only [Pt.U, Pt.locs, Pt.cells, Pt.slots] at X' e1 e2 h1 h2 h3 st hcl
    subst h1; subst h2; subst h3
    exact Or.inr ⟨q, (T.setVm vm₁).calling g' mk (Value.ref b :: As).toArray, t, U', L, E, ce, hT, X', hL, e1, e2, hq, hce, hcv, vx_cls hW₁ hcl, st⟩
theorem vx_runSX {hh : List (Nat × Nat × Nat × Nat)} (S : CallFix p m c cc nL s args Ts own) (hM : vx_Met l y ws rm Pc Qc XC mc ms free) (cw : vx_CSW R s args own index y bytes maxL ret hh ws rm mc ms n) (hp : PreS s H Pc As)
    (hg : g.method = m) (hn : As.length = n) (hsize : g.locals.size = nL) (hstack : g.stack = As.reverse ++ rest) (hW : 2 * g.monitorRoom + (rest.map fun v => v.category).sum ≤ 8) (hdg : decode cc g.pc = .ok (.invokestatic index, 3)) (hf : cells + mc ≤ R.cells ∧ slots + ms ≤ R.slots) :
    vx_Run p l e R s m args below meth c H locs cells slots mc ms g rest (Qc As.toArray) XC free := by
  obtain ⟨⟨hrc, hrs, hfr, hlo, hws, hcw⟩, hcode, hini, hy, hlen, hl, hstt⟩ := cw
  have hK : vx_Back l R p e below s args y 3 8 (PreOf R mc ms Pc) (PostOf Qc mc ms free) (vx_Post XC mc ms free) := vx_backW (hh := hh) (bytes := bytes) (maxL := maxL) (ret := ret) hM hp.1 hrc hrs hfr hlo hws hcw (fun a' U hW => word_at hW (Or.inl (by first | rfl | simp [Cond.onTables, Cond.keeps, Cond.steady])) hini)
  obtain ⟨hx, hb, hml, ho, -⟩ := S
  intro T hT X
  rcases vx_callSX X hx (hh := hh) (bytes := bytes) (maxL := maxL) (ret := ret) ho hl hstt hini hcode hy hK hg (hsize.trans hml.symm) (argsL := As) (rest := rest) (fun sig h => hn.trans (hlen sig h)) hstack hW (by rw [hb]; exact hdg)
    (fun vm₁ hW₁ => ⟨hf.1, hf.2, hp.2 (T.setVm vm₁) hT hW₁⟩) with ⟨v, vm₁, ⟨U', l2, c2, s2⟩, hW₁, X', ⟨g', mk, t, L, e1, e2, hq, h1, hL, h2, h3⟩, st⟩ | ⟨q, vm₁, ⟨U', l2, c2, s2⟩, hW₁, X', ⟨g', mk, t, L, E, ce, e1, e2, hq, hce, hcv, hcl, h1, hL, h2, h3⟩, st⟩
  · dsimp only [Pt.U, Pt.locs, Pt.cells, Pt.slots] at X' e1 e2 h1 h2 h3 st
    subst h1; subst h2; subst h3
    exact Or.inl ⟨v, (T.setVm vm₁).calling g' mk As.toArray, t, U', L, hT, X', hL, e1, e2, hq, st⟩
  · dsimp only [Pt.U, Pt.locs, Pt.cells, Pt.slots] at X' e1 e2 h1 h2 h3 st hcl
    subst h1; subst h2; subst h3
    exact Or.inr ⟨q, (T.setVm vm₁).calling g' mk As.toArray, t, U', L, E, ce, hT, X', hL, e1, e2, hq, hce, hcv, vx_cls hW₁ hcl, st⟩
end
end VXH
theorem vx_ofWH {l : Launch} {y : MethodName} {ws ws' : List Cond} {rm : Room} {Pc : Array Value → State → Prop} {Qc : Array Value → State → Outcome → State → Prop} {XC : String → State → State → Prop} {mc ms : Nat} {free : Addr → Prop} {cc : ByteArray} {maxL : Nat} {ret : Option FieldType} {hh : List (Nat × Nat × Nat × Nat)}
    (hy : plainName y.cls = true) (hw : ws = Cond.codeWith y cc maxL ret hh :: ws')
    (body : ∀ p e s m args below meth c s₁, BodyLoose p l y (headSpec ws rm) cc maxL ret e s m args below meth c s₁ → c.maxLocals = maxL → Pc args s →
      W p l e (headSpec ws rm).room s m args below meth c s.heap [] 0 0 (vx_MQ below Qc XC args s mc ms free) (entryFrame m args maxL)) : vx_Met l y ws rm Pc Qc XC mc ms free := by
  refine MetFree.of_bodyS (code := cc) (maxLocals := maxL) (ret := ret) hy ?_ ?_
  · intro args s m h hn
    obtain ⟨m9, meth, c, hn9, h1, h2, h3, h4, -, h5, h6, -⟩ := Cond.codeWith_spec (atoms_spec (ws := ws) h _ (by rw [hw]; exact List.mem_cons_self))
    cases hn.symm.trans hn9
    exact ⟨meth, c, h1, h2, h3, h4, h5, h6⟩
  · intro p e s m args below meth c s₁ B hml hP _
    have hh0 : s₁.heap = s.heap := by rw [B.state]; rfl
    obtain ⟨t, a1, o, b1, b2, b3⟩ := body p e s m args below meth c s₁ B hml hP s₁ hh0 (Stand.of_body B)
    exact ⟨t, o, a1, b1, b2, b3⟩
/-! ===== END ===== -/
end
section
def RJx4a65c : String := "java/util/ArrayList"
def TJx4a65c : u_T := fun k => match k with
  | 0 => ("java/util/AbstractList", "modCount", "I", false)
  | 1 => ("java/util/ArrayList", "elementData", "[Ljava/lang/Object;", false)
  | _ => ("java/util/ArrayList", "size", "I", false)
def tyJx4a65c : Nat → FieldType := fun k => match k with
  | 0 => .int
  | 1 => .array (.object "java/lang/Object")
  | _ => .int
abbrev wsJx4a65c0 : List Cond := u_ws RJx4a65c TJx4a65c 3
theorem nmJx4a65c : ∀ a, a < 3 → ∀ b, b < 3 → a ≠ b → (TJx4a65c a).2.1 ≠ (TJx4a65c b).2.1 := by decide +kernel
theorem tyJx4a65c_ok : ∀ k, k < 3 → parseFieldDescriptor (TJx4a65c k).2.2.1 = some (tyJx4a65c k) := by decide +kernel
def RX0 : String := "FolderRounds$Cartridge"
def TX0 : u_T := fun k => match k with
  | 0 => ("FolderRounds$Cartridge", "row", "Ljava/util/ArrayList;", true)
  | _ => ("FolderRounds$Cartridge", "table", "LFolderRounds$Table;", true)
def tyX0 : Nat → FieldType := fun k => match k with
  | 0 => .object "java/util/ArrayList"
  | _ => .object "FolderRounds$Table"
abbrev wsX00 : List Cond := u_ws RX0 TX0 2
theorem nmX0 : ∀ a, a < 2 → ∀ b, b < 2 → a ≠ b → (TX0 a).2.1 ≠ (TX0 b).2.1 := by decide +kernel
theorem tyX0_ok : ∀ k, k < 2 → parseFieldDescriptor (TX0 k).2.2.1 = some (tyX0 k) := by decide +kernel
def RX1 : String := "FolderRounds$Station"
def TX1 : u_T := fun k => match k with
  | 0 => ("FolderRounds$Station", "number", "I", true)
  | 1 => ("FolderRounds$Station", "standing", "Ljava/util/ArrayList;", true)
  | _ => ("FolderRounds$Station", "knows", "LFolderRounds$Table;", true)
def tyX1 : Nat → FieldType := fun k => match k with
  | 0 => .int
  | 1 => .object "java/util/ArrayList"
  | _ => .object "FolderRounds$Table"
abbrev wsX10 : List Cond := u_ws RX1 TX1 3
theorem nmX1 : ∀ a, a < 3 → ∀ b, b < 3 → a ≠ b → (TX1 a).2.1 ≠ (TX1 b).2.1 := by decide +kernel
theorem tyX1_ok : ∀ k, k < 3 → parseFieldDescriptor (TX1 k).2.2.1 = some (tyX1 k) := by decide +kernel
def RX2 : String := "FolderRounds$Table"
def TX2 : u_T := fun k => match k with
  | _ => ("FolderRounds$Table", "counters", "[I", true)
def tyX2 : Nat → FieldType := fun k => match k with
  | _ => .array .int
abbrev wsX20 : List Cond := u_ws RX2 TX2 1
theorem nmX2 : ∀ a, a < 1 → ∀ b, b < 1 → a ≠ b → (TX2 a).2.1 ≠ (TX2 b).2.1 := by decide +kernel
theorem tyX2_ok : ∀ k, k < 1 → parseFieldDescriptor (TX2 k).2.2.1 = some (tyX2 k) := by decide +kernel
def RX3 : String := "FolderRounds$Version"
def TX3 : u_T := fun k => match k with
  | 0 => ("FolderRounds$Version", "document", "I", true)
  | 1 => ("FolderRounds$Version", "length", "I", true)
  | 2 => ("FolderRounds$Version", "fill", "I", true)
  | _ => ("FolderRounds$Version", "vector", "[I", true)
def tyX3 : Nat → FieldType := fun k => match k with
  | 0 => .int
  | 1 => .int
  | 2 => .int
  | _ => .array .int
abbrev wsX30 : List Cond := u_ws RX3 TX3 4
theorem nmX3 : ∀ a, a < 4 → ∀ b, b < 4 → a ≠ b → (TX3 a).2.1 ≠ (TX3 b).2.1 := by decide +kernel
theorem tyX3_ok : ∀ k, k < 4 → parseFieldDescriptor (TX3 k).2.2.1 = some (tyX3 k) := by decide +kernel
def RX4 : String := "FolderRounds"
def TX4 : u_T := fun k => match k with
  | 0 => ("FolderRounds", "stations", "[LFolderRounds$Station;", true)
  | 1 => ("FolderRounds", "cartridges", "[LFolderRounds$Cartridge;", true)
  | 2 => ("FolderRounds", "toLoad", "Ljava/util/ArrayList;", true)
  | _ => ("FolderRounds", "leftOutSoFar", "I", false)
def tyX4 : Nat → FieldType := fun k => match k with
  | 0 => .array (.object "FolderRounds$Station")
  | 1 => .array (.object "FolderRounds$Cartridge")
  | 2 => .object "java/util/ArrayList"
  | _ => .int
abbrev wsX40 : List Cond := u_ws RX4 TX4 4
theorem nmX4 : ∀ a, a < 4 → ∀ b, b < 4 → a ≠ b → (TX4 a).2.1 ≠ (TX4 b).2.1 := by decide +kernel
theorem tyX4_ok : ∀ k, k < 4 → parseFieldDescriptor (TX4 k).2.2.1 = some (tyX4 k) := by decide +kernel
def RX5 : String := "FolderRoundsModel"
def TX5 : u_T := fun k => match k with
  | 0 => ("FolderRoundsModel", "thrown", "I", false)
  | 1 => ("FolderRoundsModel", "versions", "I", false)
  | 2 => ("FolderRoundsModel", "documentOf", "[I", true)
  | 3 => ("FolderRoundsModel", "makerOf", "[I", true)
  | 4 => ("FolderRoundsModel", "lengthOf", "[I", true)
  | 5 => ("FolderRoundsModel", "fillOf", "[I", true)
  | 6 => ("FolderRoundsModel", "vectorOf", "[I", true)
  | 7 => ("FolderRoundsModel", "stands", "[I", true)
  | 8 => ("FolderRoundsModel", "known", "[I", true)
  | 9 => ("FolderRoundsModel", "loaded", "[I", true)
  | 10 => ("FolderRoundsModel", "row", "[I", true)
  | _ => ("FolderRoundsModel", "leftOut", "I", false)
def tyX5 : Nat → FieldType := fun k => match k with
  | 0 => .int
  | 1 => .int
  | 2 => .array .int
  | 3 => .array .int
  | 4 => .array .int
  | 5 => .array .int
  | 6 => .array .int
  | 7 => .array .int
  | 8 => .array .int
  | 9 => .array .int
  | 10 => .array .int
  | _ => .int
abbrev wsX50 : List Cond := u_ws RX5 TX5 12
theorem nmX5 : ∀ a, a < 12 → ∀ b, b < 12 → a ≠ b → (TX5 a).2.1 ≠ (TX5 b).2.1 := by decide +kernel
theorem tyX5_ok : ∀ k, k < 12 → parseFieldDescriptor (TX5 k).2.2.1 = some (tyX5 k) := by decide +kernel
/-- the classes whose objects the abstract heap holds: 0 ArrayList, 1 Cartridge, 2 Station, 3 Table, 4 Version, 5 FolderRounds, 6 FolderRoundsModel -/
abbrev gCl : List vw_C := [(RJx4a65c, TJx4a65c, 3), (RX0, TX0, 2), (RX1, TX1, 3), (RX2, TX2, 1), (RX3, TX3, 4), (RX4, TX4, 4), (RX5, TX5, 12)]
/-- the words that keep -/
def gW : List Cond := lw_tbl.filter goodWord
theorem gW_good {w : Cond} (h : w ∈ gW) : (w.onTables && w.keeps) = true ∨ ∃ ty, w = .arrayClass ty := good_of_word (List.mem_filter.mp h).2
theorem gW_in {w : Cond} (i : Nat) (h : lw_tbl[i]? = some w) (hg : goodWord w = true) : w ∈ gW := List.mem_filter.mpr ⟨List.mem_of_getElem? h, hg⟩
/-- a list of words, each at its place -/
theorem gW_all (ws : List Cond) (ps : List Nat) (h : ws = ps.filterMap (fun i => lw_tbl[i]?)) (hg : ws.all goodWord = true) : ∀ w ∈ ws, w ∈ gW := by
  intro w hw
  have h1 := List.all_eq_true.mp hg w hw
  rw [h] at hw
  obtain ⟨i, -, hi⟩ := List.mem_filterMap.mp hw
  exact gW_in i hi h1
end
section
/-! ===== the abstract heap, the judgement GW, contracts SM ===== -/
abbrev gE : Type := (Nat × List Value) ⊕ ((Nat × (Nat → Int32)) ⊕ ((Nat × (Nat → Int64)) ⊕ (Nat × Nat × (Nat → Option Nat))))
abbrev gHp : Type := Nat → Option gE
abbrev gO (ci : Nat) (fs : List Value) : gE := .inl (ci, fs)
abbrev gI (n : Nat) (f : Nat → Int32) : gE := .inr (.inl (n, f))
abbrev gL (n : Nat) (f : Nat → Int64) : gE := .inr (.inr (.inl (n, f)))
abbrev gR (k n : Nat) (f : Nat → Option Nat) : gE := .inr (.inr (.inr (k, n, f)))
/-- the classes' numbers and slots, the array classes, the base, ArrayList's empty array, the mirror of Object[] -/
abbrev gG : Type := va_G × (Nat → ClassId) × Nat × Nat × Nat
def gCy (G : gG) : Nat → ClassId := G.2.1
def gBase (G : gG) : Nat := G.2.2.1
def gDce (G : gG) : Nat := G.2.2.2.1
def gMi (G : gG) : Nat := G.2.2.2.2
def gA (G : gG) : Nat → Prop := fun q => gBase G ≤ q
def gTys (G : gG) : List (ClassId × FieldType) := [(gCy G 0, .int), (gCy G 1, .long), (gCy G 2, .object "FolderRounds$Station"), (gCy G 3, .object "FolderRounds$Cartridge"), (gCy G 4, .object "java/lang/Object")]
def gv (G : gG) : gE → va_E
  | .inl o => .inr o
  | .inr (.inl x) => .inl (gCy G 0, x.1, .inl x.2)
  | .inr (.inr (.inl x)) => .inl (gCy G 1, x.1, .inr (.inl x.2))
  | .inr (.inr (.inr x)) => .inl (gCy G x.1, x.2.1, .inr (.inr (.inr (.inr x.2.2))))
def gRep (G : gG) (h : gHp) (H : Heap) : Prop := ∀ (a : Nat) (e : gE), h a = some e → gA G a ∧ va_at G.1 gCl (a, gv G e) H
def gUp (h : gHp) (a : Nat) (e : gE) : gHp := fun b => if b = a then some e else h b
theorem gUp_self (h : gHp) (a : Nat) (e : gE) : gUp h a e a = some e := by simp [gUp]
theorem gUp_ne (h : gHp) {a b : Nat} (e : gE) (hb : b ≠ a) : gUp h a e b = h b := by simp [gUp, hb]
theorem gRep.lt {G : gG} {h : gHp} {H : Heap} (hR : gRep G h H) {a : Nat} {e : gE} (ha : h a = some e) : a < H.size := (hR a e ha).2.lt
theorem gRep.put {G : gG} {h : gHp} {H H1 : Heap} {a : Nat} {e : gE} (hR : gRep G h H) (hA : gA G a) (he : va_at G.1 gCl (a, gv G e) H1) (ho : ∀ q : Nat, q ≠ a → H1[q]? = H[q]?) : gRep G (gUp h a e) H1 := by
  intro b x hb
  by_cases hq : b = a
  · subst hq
    rw [gUp_self] at hb
    cases hb
    exact ⟨hA, he⟩
  · rw [gUp_ne _ _ hq] at hb
    exact ⟨(hR b x hb).1, (hR b x hb).2.kept (ho b hq)⟩
theorem gRep.push {G : gG} {h : gHp} {H H1 : Heap} {e : gE} (hR : gRep G h H) (hA : gA G H.size) (he : va_at G.1 gCl (H.size, gv G e) H1) (ho : ∀ q : Nat, q < H.size → H1[q]? = H[q]?) : gRep G (gUp h H.size e) H1 := by
  intro b x hb
  by_cases hq : b = H.size
  · subst hq
    rw [gUp_self] at hb
    cases hb
    exact ⟨hA, he⟩
  · rw [gUp_ne _ _ hq] at hb
    exact ⟨(hR b x hb).1, (hR b x hb).2.kept (ho b (hR.lt hb))⟩
theorem gRep.grow {G : gG} {h : gHp} {H H1 : Heap} (hR : gRep G h H) (ho : ∀ q : Nat, q < H.size → H1[q]? = H[q]?) : gRep G h H1 :=
  fun b x hb => ⟨(hR b x hb).1, (hR b x hb).2.kept (ho b (hR.lt hb))⟩
/-- words that aren't kept by warming of themselves -/
def gNwl : List Cond := [.castable "FolderRounds$Version" "java/lang/Object", .castable "java/util/NoSuchElementException" "java/util/NoSuchElementException", .castable "java/lang/IllegalArgumentException" "java/lang/IllegalArgumentException", .castable "java/lang/UnsupportedOperationException" "java/lang/UnsupportedOperationException", .castable "java/lang/IndexOutOfBoundsException" "java/lang/IndexOutOfBoundsException", .declares ⟨"java/lang/RuntimeException", "<init>", "()V"⟩, .declares ⟨"java/lang/Exception", "<init>", "()V"⟩, .declares ⟨"java/lang/Throwable", "<init>", "()V"⟩]
def gNc : List (String × String) := [("java/lang/IllegalArgumentException", "java/util/NoSuchElementException"), ("java/lang/UnsupportedOperationException", "java/util/NoSuchElementException"), ("java/lang/UnsupportedOperationException", "java/lang/IllegalArgumentException"), ("java/lang/IndexOutOfBoundsException", "java/util/NoSuchElementException")]
def gK (G : gG) (U : State) : Prop := va_K G.1 gCl (gTys G) U ∧ (∀ c ∈ gNwl, va_Nw c U) ∧ (∀ q ∈ gNc, va_Nc q.1 q.2 U) ∧ va_Dc U ∧ (va_AO "FolderRounds$Station" U ∧ va_AO "FolderRounds$Cartridge" U ∧ va_AO "java/lang/Object" U) ∧ va_Mi "[Ljava/lang/Object;" (gMi G) U
def gS (G : gG) (U : State) (H : Heap) : Prop := va_Z "java/util/ArrayList" "DEFAULTCAPACITY_EMPTY_ELEMENTDATA" "[Ljava/lang/Object;" (.ref (gDce G)) (gA G) U H ∧ (∃ f : Nat → Value, va_T (.object "java/lang/Object") (gDce G) 0 f (gA G) U H) ∧ vx_Zq Bundle.tN "UNASSIGNED_STACK" Bundle.steD (gA G) U H ∧ vx_Zq Bundle.tN "SUPPRESSED_SENTINEL" Bundle.listD (gA G) U H
theorem gNw_castable {C T : String} {u U : State} (hvm : u.vm.Alike U.vm) (h : va_Nw (.castable C T) u) : va_Nw (.castable C T) U := va_tabs rfl (rfl : (u.setVm U.vm).vm = U.vm) (by rw [Cond.castable_setVm hvm]; exact h)
theorem gNw_declares {x : MethodName} {u U : State} (hvm : u.vm.Alike U.vm) (h : va_Nw (.declares x) u) : va_Nw (.declares x) U := va_tabs rfl (rfl : (u.setVm U.vm).vm = U.vm) (by rw [Cond.declares_setVm hvm]; exact h)
theorem gNwl_kind : ∀ c ∈ gNwl, (∃ a b, c = .castable a b) ∨ ∃ x, c = .declares x := by
  intro c hc
  simp only [gNwl, List.mem_cons, List.not_mem_nil, or_false] at hc
  rcases hc with rfl | rfl | rfl | rfl | rfl | rfl | rfl | rfl
  all_goals first | exact Or.inl ⟨_, _, rfl⟩ | exact Or.inr ⟨_, rfl⟩
theorem gNwl_moved {u U : State} (hvm : u.vm.Alike U.vm) {c : Cond} (hc : c ∈ gNwl) (h : va_Nw c u) : va_Nw c U := by
  rcases gNwl_kind c hc with ⟨a, b, rfl⟩ | ⟨x, rfl⟩
  · exact gNw_castable hvm h
  · exact gNw_declares hvm h
theorem gK.moved {G : gG} {u U : State} (hvm : u.vm.Alike U.vm) (h : gK G u) : gK G U := by
  obtain ⟨h1, h2, h3, h4, ⟨h5, h6, h7⟩, h8⟩ := h
  exact ⟨h1.moved hvm, fun q hq => gNwl_moved hvm hq (h2 q hq), fun q hq => (h3 q hq).moved hvm, h4.moved hvm, ⟨h5.moved hvm, h6.moved hvm, h7.moved hvm⟩, h8.moved hvm⟩
theorem gS.moved {G : gG} {u U : State} {H : Heap} (hvm : u.vm.Alike U.vm) (h : gS G u H) : gS G U H := by
  obtain ⟨h1, ⟨f, h2⟩, h3, h4⟩ := h
  exact ⟨h1.moved hvm, ⟨f, h2.moved hvm⟩, h3.moved hvm, h4.moved hvm⟩
theorem gS.kept {G : gG} {U : State} {H H1 : Heap} (h : gS G U H) (hq : ∀ a : Nat, a < H.size → ¬ gA G a → H1[a]? = H[a]?) : gS G U H1 := by
  obtain ⟨h1, ⟨f, h2⟩, h3, h4⟩ := h
  exact ⟨h1.kept hq, ⟨f, h2.kept hq⟩, h3.kept hq, h4.kept hq⟩
/-- locals, by place; every value takes one slot -/
def gLs (ls : Array Slot) (nL : Nat) (lv : List (Option Value)) : Prop := lv.length = nL ∧ ls.size = nL ∧ lv_wf ls ∧ ∀ (i : Nat) (v : Value), lv[i]? = some (some v) → ls[i]? = some (.val v) ∧ v.category = 1
def gAs (i : Nat) : List (Option Value) → List (Nat × Value)
  | [] => []
  | none :: r => gAs (i + 1) r
  | some v :: r => (i, v) :: gAs (i + 1) r
theorem gAs_mem : ∀ (lv : List (Option Value)) (i : Nat) (q : Nat × Value), q ∈ gAs i lv ↔ i ≤ q.1 ∧ lv[q.1 - i]? = some (some q.2)
  | [], i, q => by simp [gAs]
  | none :: r, i, q => by
    rw [gAs, gAs_mem r (i + 1) q]
    rcases Nat.lt_trichotomy q.1 i with h | h | h
    · constructor
      · rintro ⟨h1, -⟩; omega
      · rintro ⟨h1, -⟩; omega
    · subst h; simp; intro h1; omega
    · have e : q.1 - i = (q.1 - (i + 1)) + 1 := by omega
      rw [e, List.getElem?_cons_succ]
      constructor
      · rintro ⟨h1, h2⟩; exact ⟨by omega, h2⟩
      · rintro ⟨h1, h2⟩; exact ⟨by omega, h2⟩
  | some v :: r, i, q => by
    rw [gAs, List.mem_cons, gAs_mem r (i + 1) q]
    rcases Nat.lt_trichotomy q.1 i with h | h | h
    · constructor
      · rintro (rfl | ⟨h1, -⟩)
        · exact absurd h (Nat.lt_irrefl _)
        · omega
      · rintro ⟨h1, -⟩; omega
    · constructor
      · rintro (rfl | ⟨h1, -⟩)
        · simp
        · omega
      · rintro ⟨h1, h2⟩
        subst h
        simp at h2
        left
        rw [h2]
    · have e : q.1 - i = (q.1 - (i + 1)) + 1 := by omega
      rw [e, List.getElem?_cons_succ]
      constructor
      · rintro (rfl | ⟨h1, h2⟩)
        · exact absurd h (Nat.lt_irrefl _)
        · exact ⟨by omega, h2⟩
      · rintro ⟨h1, h2⟩; exact Or.inr ⟨by omega, h2⟩
theorem gLs.has {ls : Array Slot} {nL : Nat} {lv : List (Option Value)} (h : gLs ls nL lv) : lv_has ls nL (gAs 0 lv) := by
  refine ⟨h.2.1, h.2.2.1, fun q hq => ?_⟩
  have h1 := ((gAs_mem lv 0 q).mp hq).2
  exact (h.2.2.2 q.1 q.2 (by simpa using h1)).1
theorem gLs.stored {ls ls' : Array Slot} {nL : Nat} {lv : List (Option Value)} {i : Nat} {v : Value} (h : gLs ls nL lv) (hi : i < nL) (hc : v.category = 1) (h' : lv_has ls' nL ((i, v) :: (gAs 0 lv).filter (fun q => !(q.1 == i) && !(q.1 + 1 == i && q.2.category == 2)))) : gLs ls' nL (lv.set i (some v)) := by
  refine ⟨by rw [List.length_set]; exact h.1, h'.1, h'.2.1, fun j w hj => ?_⟩
  by_cases hji : j = i
  · subst hji
    rw [List.getElem?_set_self (by rw [h.1]; exact hi)] at hj
    cases hj
    exact ⟨h'.2.2 _ List.mem_cons_self, hc⟩
  · rw [List.getElem?_set_ne (Ne.symm hji)] at hj
    have hw := (h.2.2.2 j w hj).2
    refine ⟨h'.2.2 (j, w) (List.mem_cons_of_mem _ (List.mem_filter.mpr ⟨(gAs_mem lv 0 (j, w)).mpr ⟨Nat.zero_le _, by simpa using hj⟩, ?_⟩)), hw⟩
    simp [hji, hw]
/-- a method: its code, locals, class, name, handlers, result -/
abbrev gM : Type := ByteArray × Nat × String × String × List (Nat × Nat × Nat × Nat) × Option FieldType
def gFix (G : gG) (M : gM) (p : Program) (s : State) (m : MethodId) (args : Array Value) (meth : Method) (c : Code) : Prop :=
  p.tables.exec = Jvm.exec ∧ c.code = M.1 ∧ c.maxLocals = M.2.1 ∧ s.vm.findClass M.2.2.1 = some m.cls ∧ (∀ w ∈ gW, w.before args s = true) ∧ meth.name = M.2.2.2.1 ∧ c.exceptionTable.toList = tableOf M.2.2.2.2.1 ∧ meth.sig.returnType = M.2.2.2.2.2 ∧ meth.locks = false ∧ gK G s ∧ gS G s s.heap ∧ gBase G ≤ s.heap.size
def GW (G : gG) (l : Launch) (Z : State → Array Value → List Frame → State → Prop) (R : Room) (M : gM) (pc : Nat) (lv : List (Option Value)) (st : List Value) (h : gHp) (sz k w : Nat) : Prop :=
  ∀ (p : Program) (e : Env) (s : State) (m : MethodId) (args : Array Value) (below : List Frame) (meth : Method) (c : Code) (H : Heap) (locs : List Loc) (ls : Array Slot), gFix G M p s m args meth c → va_S (gA G) s.heap H locs → gRep G h H → H.size = sz → gLs ls M.2.1 lv →
    W p l e R s m args below meth c H locs k w (Z s args below) (F0 m pc ls st)
/-- the same, with an exception of class E thrown over the frame -/
def GX (G : gG) (l : Launch) (Z : State → Array Value → List Frame → State → Prop) (R : Room) (M : gM) (pc : Nat) (lv : List (Option Value)) (st : List Value) (h : gHp) (sz k w : Nat) (E : String) : Prop :=
  ∀ (p : Program) (e : Env) (s : State) (m : MethodId) (args : Array Value) (below : List Frame) (meth : Method) (c : Code) (H : Heap) (locs : List Loc) (ls : Array Slot) (q : Addr) (ce : Cell), gFix G M p s m args meth c → va_S (gA G) s.heap H locs → gRep G h H → H.size = sz → gLs ls M.2.1 lv →
    H[q]? = some ce → ce.vm = .none → s.vm.findClass E = some ce.cls → vx_W p l e R s m args below meth c H locs k w (Z s args below) (F0 m pc ls st) q
/-- what comes out of a method: an answer, or an exception by its class -/
abbrev gRs : Type := Option Value ⊕ String
def gQ (G : gG) (Q : gRs → gHp → Nat → Prop) : Array Value → State → Outcome → State → Prop := fun _ st o t => ∃ (v : Option Value) (h' : gHp), o = .returned v ∧ gRep G h' t.heap ∧ Q (.inl v) h' t.heap.size ∧ va_F (gA G) st t
def gX (G : gG) (Q : gRs → gHp → Nat → Prop) : String → State → State → Prop := fun E st t => ∃ h' : gHp, gRep G h' t.heap ∧ Q (.inr E) h' t.heap.size ∧ va_F (gA G) st t
def gZ (G : gG) (Q : gRs → gHp → Nat → Prop) (MC MS : Nat) : State → Array Value → List Frame → State → Prop := fun s args below => vx_MQ below (gQ G Q) (gX G Q) args s MC MS (gA G)
def gRoom (d MC MS : Nat) : Room := { frames := 16 * d, cells := MC, slots := MS, locals := 128 * d }
def gPc (G : gG) (av : List Value) (h : gHp) (sz : Nat) : Array Value → State → Prop := va_Pc av (fun U => gK G U ∧ gS G U U.heap ∧ gBase G ≤ U.heap.size ∧ gRep G h U.heap ∧ U.heap.size = sz)
/-- the word of a method's code -/
def gCode (y : MethodName) (M : gM) : Cond := if M.2.2.2.2.1 = [] then .code y M.1 M.2.1 M.2.2.2.2.2 else .codeWith y M.1 M.2.1 M.2.2.2.2.2 M.2.2.2.2.1
def gWs (y : MethodName) (M : gM) : List Cond := gCode y M :: gW
/-- the contract of method y at this world: it returns or throws with Q, makes at most mc cells of ms slots -/
def SM (G : gG) (l : Launch) (d : Nat) (y : MethodName) (M : gM) (av : List Value) (h : gHp) (sz mc ms : Nat) (Q : gRs → gHp → Nat → Prop) : Prop :=
  vx_Met l y (gWs y M) (gRoom d mc ms) (gPc G av h sz) (gQ G Q) (gX G Q) mc ms (gA G)
theorem gPc_blind {G : gG} {av : List Value} {h : gHp} {sz : Nat} : FrameBlind (gPc G av h sz) := by
  intro a U g mk q
  obtain ⟨q0, q1, q2, q3, q4, q5⟩ := q
  exact ⟨q0, q1.moved (u := U) (U := U.calling g mk a) (Vm.Alike.refl U.vm), q2.moved (u := U) (U := U.calling g mk a) (Vm.Alike.refl U.vm), q3, q4, q5⟩
theorem gPc_at {G : gG} {av : List Value} {h : gHp} {sz : Nat} {s : State} {H : Heap} {locs : List Loc} (hK : gK G s) (hZ : gS G s s.heap) (hb : gBase G ≤ s.heap.size) (hS : va_S (gA G) s.heap H locs) (hR : gRep G h H) (hz : H.size = sz) : ∀ U : State, U.heap = H → s.WarmedH U.vm → gPc G av h sz av.toArray U := by
  intro U hU hW
  refine ⟨rfl, hK.moved hW.alike, ?_, ?_, ?_, ?_⟩
  · rw [hU]; exact (hZ.kept hS.2.1).moved hW.alike
  · rw [hU]; exact Nat.le_trans hb hS.1
  · rw [hU]; exact hR
  · rw [hU]; exact hz
theorem gGood {y : MethodName} {M : gM} (hc : gCode y M ∈ gW) : GoodIn gW (gWs y M) := by
  intro w hw
  rcases List.mem_cons.mp hw with rfl | h
  · exact ⟨hc, gW_good hc⟩
  · exact ⟨h, gW_good h⟩
theorem vx_Met.toMet {l : Launch} {y : MethodName} {ws : List Cond} {rm : Room} {Pc : Array Value → State → Prop} {Qc : Array Value → State → Outcome → State → Prop} {XC : String → State → State → Prop} {mc ms : Nat} {free : Addr → Prop} (h : vx_Met l y ws rm Pc Qc XC mc ms free) (hX : ∀ E st t, ¬ XC E st t) : Met l y ws rm Pc Qc mc ms free := by
  intro p e h1 h2 h3 s m args below h4 h5 h6 h7
  obtain ⟨n, o, a1, a2, a3, a4⟩ := h p e h1 h2 h3 s m args below h4 h5 h6 h7
  refine ⟨n, o, a1, a2, a3, ?_⟩
  rcases a4 with a4 | ⟨q, -, E, ce, L, hx, -⟩
  · exact a4
  · exact absurd hx (hX _ _ _)
theorem SM.mono {G : gG} {l : Launch} {d : Nat} {y : MethodName} {M : gM} {av : List Value} {h : gHp} {sz mc ms : Nat} {Q Q' : gRs → gHp → Nat → Prop} (hM : SM G l d y M av h sz mc ms Q) (hQ : ∀ r h' sz', Q r h' sz' → Q' r h' sz') : SM G l d y M av h sz mc ms Q' := by
  intro p e h1 h2 h3 s m args below h4 h5 h6 h7
  obtain ⟨n, o, a1, a2, a3, a4⟩ := hM p e h1 h2 h3 s m args below h4 h5 h6 h7
  refine ⟨n, o, a1, a2, a3, ?_⟩
  rcases a4 with ⟨⟨v, h', b1, b2, b3, b4⟩, a5⟩ | ⟨q, b0, E, ce, L, ⟨h', b2, b3, b4⟩, b5⟩
  · exact Or.inl ⟨⟨v, h', b1, b2, hQ _ _ _ b3, b4⟩, a5⟩
  · exact Or.inr ⟨q, b0, E, ce, L, ⟨h', b2, hQ _ _ _ b3, b4⟩, b5⟩
end
section
/-! ===== a row an instruction, over GW ===== -/
def gD (M : gM) (pc : Nat) (i : Instr) (n pc' : Nat) : Prop := decode M.1 pc = .ok (i, n) ∧ pc + n = pc'
def gB (M : gM) (pc : Nat) (i : Instr) (off : Int) (pc' tgt : Nat) : Prop := decode M.1 pc = .ok (i, 3) ∧ pc + 3 = pc' ∧ (pc : Int) + off = (tgt : Int)
/-- a constant is pushed -/
def gN (M : gM) (pc : Nat) (v : Int32) (pc' : Nat) : Prop := (∃ n : Int, decode M.1 pc = .ok (.iconst n, 1) ∧ Int32.ofInt n = v ∧ pc + 1 = pc') ∨ (∃ n : Int, decode M.1 pc = .ok (.bipush n, 2) ∧ (Int8.ofInt n).toInt32 = v ∧ pc + 2 = pc') ∨ (∃ n : Int, decode M.1 pc = .ok (.sipush n, 3) ∧ (Int16.ofInt n).toInt32 = v ∧ pc + 3 = pc') ∨ (∃ i : Nat, decode M.1 pc = .ok (.ldc i, 2) ∧ Cond.constant M.2.2.1 i v ∈ gW ∧ pc + 2 = pc')
def gIl (M : gM) (pc i pc' : Nat) : Prop := (decode M.1 pc = .ok (.iload i, 2) ∧ pc + 2 = pc') ∨ (∃ k : Fin 4, decode M.1 pc = .ok (.iload_n k, 1) ∧ (k : Nat) = i ∧ pc + 1 = pc')
def gAl (M : gM) (pc i pc' : Nat) : Prop := (decode M.1 pc = .ok (.aload i, 2) ∧ pc + 2 = pc') ∨ (∃ k : Fin 4, decode M.1 pc = .ok (.aload_n k, 1) ∧ (k : Nat) = i ∧ pc + 1 = pc')
def gIs (M : gM) (pc i pc' : Nat) : Prop := (decode M.1 pc = .ok (.istore i, 2) ∧ pc + 2 = pc') ∨ (∃ k : Fin 4, decode M.1 pc = .ok (.istore_n k, 1) ∧ (k : Nat) = i ∧ pc + 1 = pc')
def gAst (M : gM) (pc i pc' : Nat) : Prop := (decode M.1 pc = .ok (.astore i, 2) ∧ pc + 2 = pc') ∨ (∃ k : Fin 4, decode M.1 pc = .ok (.astore_n k, 1) ∧ (k : Nat) = i ∧ pc + 1 = pc')
def gIc (M : gM) (pc i : Nat) (v : Int32) (pc' : Nat) : Prop := ∃ n : Int, decode M.1 pc = .ok (.iinc i n, 3) ∧ Int32.ofInt n = v ∧ pc + 3 = pc'
/-- the field of an instruction: number kf of class ci -/
def gFl (M : gM) (idx ci kf : Nat) : Prop := ∃ (C : String) (T : u_T) (N : Nat) (ref : String), gCl[ci]? = some (C, T, N) ∧ kf < N ∧ Cond.fieldLink M.2.2.1 idx ref (T kf).2.1 (T kf).2.2.1 ∈ gW ∧ (∀ w ∈ u_ws C T N, w ∈ gW) ∧ (ref = (T kf).1 ∨ Cond.sameField ref (T kf).1 (T kf).2.1 (T kf).2.2.1 ∈ gW)
def gGf (M : gM) (pc ci kf pc' : Nat) : Prop := ∃ idx : Nat, decode M.1 pc = .ok (.getfield idx, 3) ∧ pc + 3 = pc' ∧ gFl M idx ci kf
/-- .. that is written: its type and why it may be -/
def gPf (M : gM) (pc ci kf : Nat) (ty : FieldType) (pc' : Nat) : Prop := ∃ idx : Nat, decode M.1 pc = .ok (.putfield idx, 3) ∧ pc + 3 = pc' ∧ ∃ (C : String) (T : u_T) (N : Nat) (ref : String) (ty0 : Nat → FieldType), gCl[ci]? = some (C, T, N) ∧ kf < N ∧ Cond.fieldLink M.2.2.1 idx ref (T kf).2.1 (T kf).2.2.1 ∈ gW ∧ (∀ w ∈ u_ws C T N, w ∈ gW) ∧ (ref = (T kf).1 ∨ Cond.sameField ref (T kf).1 (T kf).2.1 (T kf).2.2.1 ∈ gW) ∧
  (∀ k, k < N → parseFieldDescriptor (T k).2.2.1 = some (ty0 k)) ∧ (∀ a, a < N → ∀ b, b < N → a ≠ b → (T a).2.1 ≠ (T b).2.1) ∧ parseFieldDescriptor (T kf).2.2.1 = some ty ∧ ((T kf).2.2.2 = false ∨ ((T kf).2.2.2 = true ∧ M.2.2.2.1 = "<init>" ∧ (T kf).1 = M.2.2.1))
section Rows
variable {G : gG} {l : Launch} {Z : State → Array Value → List Frame → State → Prop} {R : Room} {M : gM} {pc pc' : Nat} {lv : List (Option Value)} {st : List Value} {h : gHp} {sz k w : Nat}
theorem GW.wf (kk : (∀ a e, h a = some e → gBase G ≤ a ∧ a < sz) → GW G l Z R M pc lv st h sz k w) : GW G l Z R M pc lv st h sz k w := by
  intro p e s m args below meth c H locs ls F hS hR hz hl
  exact kk (fun a x hx => ⟨(hR a x hx).1, hz ▸ hR.lt hx⟩) p e s m args below meth c H locs ls F hS hR hz hl
theorem GW.base (kk : gBase G ≤ sz → GW G l Z R M pc lv st h sz k w) : GW G l Z R M pc lv st h sz k w := by
  intro p e s m args below meth c H locs ls F hS hR hz hl
  exact kk (hz ▸ Nat.le_trans F.2.2.2.2.2.2.2.2.2.2.2 hS.1) p e s m args below meth c H locs ls F hS hR hz hl
theorem GW.widen {k' w' : Nat} (h1 : k ≤ k') (h2 : w ≤ w') (kk : GW G l Z R M pc lv st h sz k' w') : GW G l Z R M pc lv st h sz k w := by
  intro p e s m args below meth c H locs ls F hS hR hz hl
  exact W.widen h1 h2 (kk p e s m args below meth c H locs ls F hS hR hz hl)
theorem GX.widen {E : String} {k' w' : Nat} (h1 : k ≤ k') (h2 : w ≤ w') (kk : GX G l Z R M pc lv st h sz k' w' E) : GX G l Z R M pc lv st h sz k w E := by
  intro p e s m args below meth c H locs ls q ce F hS hR hz hl h3 h4 h5
  exact vx_widen h1 h2 (kk p e s m args below meth c H locs ls q ce F hS hR hz hl h3 h4 h5)
/-- the world may be told otherwise -/
theorem GW.heap {h' : gHp} (he : ∀ a e, h' a = some e → h a = some e) (kk : GW G l Z R M pc lv st h' sz k w) : GW G l Z R M pc lv st h sz k w := by
  intro p e s m args below meth c H locs ls F hS hR hz hl
  exact kk p e s m args below meth c H locs ls F hS (fun a x hx => hR a x (he a x hx)) hz hl
theorem gw_push {v : Int32} (hd : gN M pc v pc') (kk : GW G l Z R M pc' lv (.int v :: st) h sz k w) : GW G l Z R M pc lv st h sz k w := by
  intro p e s m args below meth c H locs ls F hS hR hz hl
  have K := kk p e s m args below meth c H locs ls F hS hR hz hl
  rcases hd with ⟨n, h1, h2, rfl⟩ | ⟨n, h1, h2, rfl⟩ | ⟨n, h1, h2, rfl⟩ | ⟨i, h1, h2, rfl⟩
  · exact lv_iconst F.1 F.2.1 h1 h2 K
  · exact lv_bipush F.1 F.2.1 h1 h2 K
  · exact lv_sipush F.1 F.2.1 h1 h2 K
  · exact lv_ldc F.1 F.2.1 F.2.2.2.1 (F.2.2.2.2.1 _ h2) h1 K
theorem gw_iload {i : Nat} {x : Int32} (hd : gIl M pc i pc') (hv : lv[i]? = some (some (.int x))) (kk : GW G l Z R M pc' lv (.int x :: st) h sz k w) : GW G l Z R M pc lv st h sz k w := by
  intro p e s m args below meth c H locs ls F hS hR hz hl
  have K := kk p e s m args below meth c H locs ls F hS hR hz hl
  rcases hd with ⟨h1, rfl⟩ | ⟨n, h1, h2, rfl⟩
  · exact lv_iload F.1 F.2.1 h1 (hl.2.2.2 i _ hv).1 K
  · exact lv_iload_n F.1 F.2.1 h1 h2 (hl.2.2.2 i _ hv).1 K
theorem gw_aload {i : Nat} {x : Nat} (hd : gAl M pc i pc') (hv : lv[i]? = some (some (.ref x))) (kk : GW G l Z R M pc' lv (.ref x :: st) h sz k w) : GW G l Z R M pc lv st h sz k w := by
  intro p e s m args below meth c H locs ls F hS hR hz hl
  have K := kk p e s m args below meth c H locs ls F hS hR hz hl
  rcases hd with ⟨h1, rfl⟩ | ⟨n, h1, h2, rfl⟩
  · exact lv_aload F.1 F.2.1 h1 (hl.2.2.2 i _ hv).1 K
  · exact lv_aload_n F.1 F.2.1 h1 h2 (hl.2.2.2 i _ hv).1 K
theorem gw_aloadN {i : Nat} (hd : gAl M pc i pc') (hv : lv[i]? = some (some .null)) (kk : GW G l Z R M pc' lv (.null :: st) h sz k w) : GW G l Z R M pc lv st h sz k w := by
  intro p e s m args below meth c H locs ls F hS hR hz hl
  have K := kk p e s m args below meth c H locs ls F hS hR hz hl
  rcases hd with ⟨h1, rfl⟩ | ⟨n, h1, h2, rfl⟩
  · exact lv_aloadN F.1 F.2.1 h1 (hl.2.2.2 i _ hv).1 K
  · exact lv_aload_nN F.1 F.2.1 h1 h2 (hl.2.2.2 i _ hv).1 K
theorem gw_istore {i : Nat} {x : Int32} (hd : gIs M pc i pc') (hi : i < lv.length) (kk : GW G l Z R M pc' (lv.set i (some (.int x))) st h sz k w) : GW G l Z R M pc lv (.int x :: st) h sz k w := by
  intro p e s m args below meth c H locs ls F hS hR hz hl
  have hi' : i < M.2.1 := by rw [← hl.1]; exact hi
  have K := fun ls' (h' : lv_has ls' M.2.1 _) => kk p e s m args below meth c H locs ls' F hS hR hz (hl.stored hi' rfl h')
  rcases hd with ⟨h1, rfl⟩ | ⟨n, h1, h2, rfl⟩
  · exact lv_istore F.1 F.2.1 h1 hl.has hi' rfl K
  · exact lv_istore_n F.1 F.2.1 h1 h2 hl.has hi' rfl K
theorem gw_astore {i : Nat} {x : Nat} (hd : gAst M pc i pc') (hi : i < lv.length) (kk : GW G l Z R M pc' (lv.set i (some (.ref x))) st h sz k w) : GW G l Z R M pc lv (.ref x :: st) h sz k w := by
  intro p e s m args below meth c H locs ls F hS hR hz hl
  have hi' : i < M.2.1 := by rw [← hl.1]; exact hi
  have K := fun ls' (h' : lv_has ls' M.2.1 _) => kk p e s m args below meth c H locs ls' F hS hR hz (hl.stored hi' rfl h')
  rcases hd with ⟨h1, rfl⟩ | ⟨n, h1, h2, rfl⟩
  · exact lv_astore F.1 F.2.1 h1 hl.has hi' rfl K
  · exact lv_astore_n F.1 F.2.1 h1 h2 hl.has hi' rfl K
theorem gw_astoreN {i : Nat} (hd : gAst M pc i pc') (hi : i < lv.length) (kk : GW G l Z R M pc' (lv.set i (some .null)) st h sz k w) : GW G l Z R M pc lv (.null :: st) h sz k w := by
  intro p e s m args below meth c H locs ls F hS hR hz hl
  have hi' : i < M.2.1 := by rw [← hl.1]; exact hi
  have K := fun ls' (h' : lv_has ls' M.2.1 _) => kk p e s m args below meth c H locs ls' F hS hR hz (hl.stored hi' rfl h')
  rcases hd with ⟨h1, rfl⟩ | ⟨n, h1, h2, rfl⟩
  · exact lv_astoreN F.1 F.2.1 h1 hl.has hi' rfl K
  · exact lv_astore_nN F.1 F.2.1 h1 h2 hl.has hi' rfl K
theorem gw_iinc {i : Nat} {x v : Int32} (hd : gIc M pc i v pc') (hv : lv[i]? = some (some (.int x))) (kk : GW G l Z R M pc' (lv.set i (some (.int (x + v)))) st h sz k w) : GW G l Z R M pc lv st h sz k w := by
  intro p e s m args below meth c H locs ls F hS hR hz hl
  obtain ⟨n, h1, rfl, rfl⟩ := hd
  have hi : i < lv.length := (List.getElem?_eq_some_iff.mp hv).1
  have hi' : i < M.2.1 := by rw [← hl.1]; exact hi
  have K := fun ls' (h' : lv_has ls' M.2.1 _) => kk p e s m args below meth c H locs ls' F hS hR hz (hl.stored hi' rfl h')
  obtain ⟨j, hj⟩ := List.getElem?_of_mem ((gAs_mem lv 0 (i, .int x)).mpr ⟨Nat.zero_le _, by simpa using hv⟩)
  exact lv_iinc F.1 F.2.1 h1 hl.has hj rfl hi' rfl K
theorem gw_iadd {x y : Int32} (hd : gD M pc .iadd 1 pc')  (kk : GW G l Z R M pc' lv (.int (x + y) :: st) h sz k w) : GW G l Z R M pc lv (.int y :: .int x :: st) h sz k w := by
  obtain ⟨hd, rfl⟩ := hd
  intro p e s m args below meth c H locs ls F hS hR hz hl
  exact lv_iadd F.1 F.2.1 hd  (kk p e s m args below meth c H locs ls F hS hR hz hl)
theorem gw_isub {x y : Int32} (hd : gD M pc .isub 1 pc')  (kk : GW G l Z R M pc' lv (.int (x - y) :: st) h sz k w) : GW G l Z R M pc lv (.int y :: .int x :: st) h sz k w := by
  obtain ⟨hd, rfl⟩ := hd
  intro p e s m args below meth c H locs ls F hS hR hz hl
  exact lv_isub F.1 F.2.1 hd  (kk p e s m args below meth c H locs ls F hS hR hz hl)
theorem gw_imul {x y : Int32} (hd : gD M pc .imul 1 pc')  (kk : GW G l Z R M pc' lv (.int (x * y) :: st) h sz k w) : GW G l Z R M pc lv (.int y :: .int x :: st) h sz k w := by
  obtain ⟨hd, rfl⟩ := hd
  intro p e s m args below meth c H locs ls F hS hR hz hl
  exact lv_imul F.1 F.2.1 hd  (kk p e s m args below meth c H locs ls F hS hR hz hl)
theorem gw_iand {x y : Int32} (hd : gD M pc .iand 1 pc')  (kk : GW G l Z R M pc' lv (.int (x &&& y) :: st) h sz k w) : GW G l Z R M pc lv (.int y :: .int x :: st) h sz k w := by
  obtain ⟨hd, rfl⟩ := hd
  intro p e s m args below meth c H locs ls F hS hR hz hl
  exact lv_iand F.1 F.2.1 hd  (kk p e s m args below meth c H locs ls F hS hR hz hl)
theorem gw_ishr {x y : Int32} (hd : gD M pc .ishr 1 pc')  (kk : GW G l Z R M pc' lv (.int (x >>> (y &&& 31)) :: st) h sz k w) : GW G l Z R M pc lv (.int y :: .int x :: st) h sz k w := by
  obtain ⟨hd, rfl⟩ := hd
  intro p e s m args below meth c H locs ls F hS hR hz hl
  exact lv_ishr F.1 F.2.1 hd  (kk p e s m args below meth c H locs ls F hS hR hz hl)
theorem gw_idiv {x y : Int32} (hd : gD M pc .idiv 1 pc') (hne : ¬ y = 0) (kk : GW G l Z R M pc' lv (.int (x / y) :: st) h sz k w) : GW G l Z R M pc lv (.int y :: .int x :: st) h sz k w := by
  obtain ⟨hd, rfl⟩ := hd
  intro p e s m args below meth c H locs ls F hS hR hz hl
  exact lv_idiv F.1 F.2.1 hd hne (kk p e s m args below meth c H locs ls F hS hR hz hl)
theorem gw_irem {x y : Int32} (hd : gD M pc .irem 1 pc') (hne : ¬ y = 0) (kk : GW G l Z R M pc' lv (.int (x - x / y * y) :: st) h sz k w) : GW G l Z R M pc lv (.int y :: .int x :: st) h sz k w := by
  obtain ⟨hd, rfl⟩ := hd
  intro p e s m args below meth c H locs ls F hS hR hz hl
  exact lv_irem F.1 F.2.1 hd hne (kk p e s m args below meth c H locs ls F hS hR hz hl)
theorem gw_i2l {x : Int32} (hd : gD M pc .i2l 1 pc')  (kk : GW G l Z R M pc' lv (.long x.toInt64 :: st) h sz k w) : GW G l Z R M pc lv (.int x :: st) h sz k w := by
  obtain ⟨hd, rfl⟩ := hd
  intro p e s m args below meth c H locs ls F hS hR hz hl
  exact lv_i2l F.1 F.2.1 hd rfl (kk p e s m args below meth c H locs ls F hS hR hz hl)
theorem gw_dup {va : Value} (hd : gD M pc .dup 1 pc') (hva : va.category = 1) (kk : GW G l Z R M pc' lv (va :: va :: st) h sz k w) : GW G l Z R M pc lv (va :: st) h sz k w := by
  obtain ⟨hd, rfl⟩ := hd
  intro p e s m args below meth c H locs ls F hS hR hz hl
  exact lv_dup F.1 F.2.1 hd hva (kk p e s m args below meth c H locs ls F hS hR hz hl)
theorem gw_pop {va : Value} (hd : gD M pc .pop 1 pc') (hva : va.category = 1) (kk : GW G l Z R M pc' lv (st) h sz k w) : GW G l Z R M pc lv (va :: st) h sz k w := by
  obtain ⟨hd, rfl⟩ := hd
  intro p e s m args below meth c H locs ls F hS hR hz hl
  exact lv_pop F.1 F.2.1 hd hva (kk p e s m args below meth c H locs ls F hS hR hz hl)
theorem gw_dup_x1 {va vb : Value} (hd : gD M pc .dup_x1 1 pc') (hva : va.category = 1) (hvb : vb.category = 1) (kk : GW G l Z R M pc' lv (va :: vb :: va :: st) h sz k w) : GW G l Z R M pc lv (va :: vb :: st) h sz k w := by
  obtain ⟨hd, rfl⟩ := hd
  intro p e s m args below meth c H locs ls F hS hR hz hl
  exact lv_dup_x1 F.1 F.2.1 hd hva hvb (kk p e s m args below meth c H locs ls F hS hR hz hl)
theorem gw_dup2 {va vb : Value} (hd : gD M pc .dup2 1 pc') (hva : va.category = 1) (hvb : vb.category = 1) (kk : GW G l Z R M pc' lv (va :: vb :: va :: vb :: st) h sz k w) : GW G l Z R M pc lv (va :: vb :: st) h sz k w := by
  obtain ⟨hd, rfl⟩ := hd
  intro p e s m args below meth c H locs ls F hS hR hz hl
  exact lv_dup2_11 F.1 F.2.1 hd hva hvb (kk p e s m args below meth c H locs ls F hS hR hz hl)
theorem gw_null  (hd : gD M pc .aconst_null 1 pc')  (kk : GW G l Z R M pc' lv (.null :: st) h sz k w) : GW G l Z R M pc lv (st) h sz k w := by
  obtain ⟨hd, rfl⟩ := hd
  intro p e s m args below meth c H locs ls F hS hR hz hl
  exact lv_null F.1 F.2.1 hd  (kk p e s m args below meth c H locs ls F hS hR hz hl)
theorem gw_lconst {n : Fin 2} {v : Int64} (hd : gD M pc (.lconst n) 1 pc') (hv : Int64.ofNat (n : Nat) = v) (kk : GW G l Z R M pc' lv (.long v :: st) h sz k w) : GW G l Z R M pc lv st h sz k w := by
  obtain ⟨hd, rfl⟩ := hd
  intro p e s m args below meth c H locs ls F hS hR hz hl
  exact lv_lconst F.1 F.2.1 hd hv (kk p e s m args below meth c H locs ls F hS hR hz hl)
theorem gw_lcmp {x y : Int64} (hd : gD M pc .lcmp 1 pc') (kk : GW G l Z R M pc' lv (.int (lg_cmp x y) :: st) h sz k w) : GW G l Z R M pc lv (.long y :: .long x :: st) h sz k w := by
  obtain ⟨hd, rfl⟩ := hd
  intro p e s m args below meth c H locs ls F hS hR hz hl
  exact W.lcmp F.1 F.2.1 hd (kk p e s m args below meth c H locs ls F hS hR hz hl)
theorem gw_ifeq {x : Int32} {off : Int} {tgt : Nat} (hd : gB M pc (.ifCond .eq off) off pc' tgt) (kt : x = 0 → GW G l Z R M tgt lv st h sz k w) (kf : ¬ x = 0 → GW G l Z R M pc' lv st h sz k w) : GW G l Z R M pc lv (.int x :: st) h sz k w := by
  obtain ⟨hd, rfl, ht⟩ := hd
  intro p e s m args below meth c H locs ls F hS hR hz hl
  exact lv_if_eq F.1 F.2.1 hd ht (fun q => kt q p e s m args below meth c H locs ls F hS hR hz hl) (fun q => kf q p e s m args below meth c H locs ls F hS hR hz hl)
theorem gw_iceq {x y : Int32} {off : Int} {tgt : Nat} (hd : gB M pc (.if_icmp .eq off) off pc' tgt) (kt : x = y → GW G l Z R M tgt lv st h sz k w) (kf : ¬ x = y → GW G l Z R M pc' lv st h sz k w) : GW G l Z R M pc lv (.int y :: .int x :: st) h sz k w := by
  obtain ⟨hd, rfl, ht⟩ := hd
  intro p e s m args below meth c H locs ls F hS hR hz hl
  exact lv_icmp_eq F.1 F.2.1 hd ht (fun q => kt q p e s m args below meth c H locs ls F hS hR hz hl) (fun q => kf q p e s m args below meth c H locs ls F hS hR hz hl)
theorem gw_ifne {x : Int32} {off : Int} {tgt : Nat} (hd : gB M pc (.ifCond .ne off) off pc' tgt) (kt : ¬ x = 0 → GW G l Z R M tgt lv st h sz k w) (kf : x = 0 → GW G l Z R M pc' lv st h sz k w) : GW G l Z R M pc lv (.int x :: st) h sz k w := by
  obtain ⟨hd, rfl, ht⟩ := hd
  intro p e s m args below meth c H locs ls F hS hR hz hl
  exact lv_if_ne F.1 F.2.1 hd ht (fun q => kt q p e s m args below meth c H locs ls F hS hR hz hl) (fun q => kf q p e s m args below meth c H locs ls F hS hR hz hl)
theorem gw_icne {x y : Int32} {off : Int} {tgt : Nat} (hd : gB M pc (.if_icmp .ne off) off pc' tgt) (kt : ¬ x = y → GW G l Z R M tgt lv st h sz k w) (kf : x = y → GW G l Z R M pc' lv st h sz k w) : GW G l Z R M pc lv (.int y :: .int x :: st) h sz k w := by
  obtain ⟨hd, rfl, ht⟩ := hd
  intro p e s m args below meth c H locs ls F hS hR hz hl
  exact lv_icmp_ne F.1 F.2.1 hd ht (fun q => kt q p e s m args below meth c H locs ls F hS hR hz hl) (fun q => kf q p e s m args below meth c H locs ls F hS hR hz hl)
theorem gw_iflt {x : Int32} {off : Int} {tgt : Nat} (hd : gB M pc (.ifCond .lt off) off pc' tgt) (kt : x < 0 → GW G l Z R M tgt lv st h sz k w) (kf : ¬ x < 0 → GW G l Z R M pc' lv st h sz k w) : GW G l Z R M pc lv (.int x :: st) h sz k w := by
  obtain ⟨hd, rfl, ht⟩ := hd
  intro p e s m args below meth c H locs ls F hS hR hz hl
  exact lv_if_lt F.1 F.2.1 hd ht (fun q => kt q p e s m args below meth c H locs ls F hS hR hz hl) (fun q => kf q p e s m args below meth c H locs ls F hS hR hz hl)
theorem gw_iclt {x y : Int32} {off : Int} {tgt : Nat} (hd : gB M pc (.if_icmp .lt off) off pc' tgt) (kt : x < y → GW G l Z R M tgt lv st h sz k w) (kf : ¬ x < y → GW G l Z R M pc' lv st h sz k w) : GW G l Z R M pc lv (.int y :: .int x :: st) h sz k w := by
  obtain ⟨hd, rfl, ht⟩ := hd
  intro p e s m args below meth c H locs ls F hS hR hz hl
  exact lv_icmp_lt F.1 F.2.1 hd ht (fun q => kt q p e s m args below meth c H locs ls F hS hR hz hl) (fun q => kf q p e s m args below meth c H locs ls F hS hR hz hl)
theorem gw_ifge {x : Int32} {off : Int} {tgt : Nat} (hd : gB M pc (.ifCond .ge off) off pc' tgt) (kt : 0 ≤ x → GW G l Z R M tgt lv st h sz k w) (kf : ¬ 0 ≤ x → GW G l Z R M pc' lv st h sz k w) : GW G l Z R M pc lv (.int x :: st) h sz k w := by
  obtain ⟨hd, rfl, ht⟩ := hd
  intro p e s m args below meth c H locs ls F hS hR hz hl
  exact lv_if_ge F.1 F.2.1 hd ht (fun q => kt q p e s m args below meth c H locs ls F hS hR hz hl) (fun q => kf q p e s m args below meth c H locs ls F hS hR hz hl)
theorem gw_icge {x y : Int32} {off : Int} {tgt : Nat} (hd : gB M pc (.if_icmp .ge off) off pc' tgt) (kt : y ≤ x → GW G l Z R M tgt lv st h sz k w) (kf : ¬ y ≤ x → GW G l Z R M pc' lv st h sz k w) : GW G l Z R M pc lv (.int y :: .int x :: st) h sz k w := by
  obtain ⟨hd, rfl, ht⟩ := hd
  intro p e s m args below meth c H locs ls F hS hR hz hl
  exact lv_icmp_ge F.1 F.2.1 hd ht (fun q => kt q p e s m args below meth c H locs ls F hS hR hz hl) (fun q => kf q p e s m args below meth c H locs ls F hS hR hz hl)
theorem gw_ifgt {x : Int32} {off : Int} {tgt : Nat} (hd : gB M pc (.ifCond .gt off) off pc' tgt) (kt : 0 < x → GW G l Z R M tgt lv st h sz k w) (kf : ¬ 0 < x → GW G l Z R M pc' lv st h sz k w) : GW G l Z R M pc lv (.int x :: st) h sz k w := by
  obtain ⟨hd, rfl, ht⟩ := hd
  intro p e s m args below meth c H locs ls F hS hR hz hl
  exact lv_if_gt F.1 F.2.1 hd ht (fun q => kt q p e s m args below meth c H locs ls F hS hR hz hl) (fun q => kf q p e s m args below meth c H locs ls F hS hR hz hl)
theorem gw_icgt {x y : Int32} {off : Int} {tgt : Nat} (hd : gB M pc (.if_icmp .gt off) off pc' tgt) (kt : y < x → GW G l Z R M tgt lv st h sz k w) (kf : ¬ y < x → GW G l Z R M pc' lv st h sz k w) : GW G l Z R M pc lv (.int y :: .int x :: st) h sz k w := by
  obtain ⟨hd, rfl, ht⟩ := hd
  intro p e s m args below meth c H locs ls F hS hR hz hl
  exact lv_icmp_gt F.1 F.2.1 hd ht (fun q => kt q p e s m args below meth c H locs ls F hS hR hz hl) (fun q => kf q p e s m args below meth c H locs ls F hS hR hz hl)
theorem gw_ifle {x : Int32} {off : Int} {tgt : Nat} (hd : gB M pc (.ifCond .le off) off pc' tgt) (kt : x ≤ 0 → GW G l Z R M tgt lv st h sz k w) (kf : ¬ x ≤ 0 → GW G l Z R M pc' lv st h sz k w) : GW G l Z R M pc lv (.int x :: st) h sz k w := by
  obtain ⟨hd, rfl, ht⟩ := hd
  intro p e s m args below meth c H locs ls F hS hR hz hl
  exact lv_if_le F.1 F.2.1 hd ht (fun q => kt q p e s m args below meth c H locs ls F hS hR hz hl) (fun q => kf q p e s m args below meth c H locs ls F hS hR hz hl)
theorem gw_icle {x y : Int32} {off : Int} {tgt : Nat} (hd : gB M pc (.if_icmp .le off) off pc' tgt) (kt : x ≤ y → GW G l Z R M tgt lv st h sz k w) (kf : ¬ x ≤ y → GW G l Z R M pc' lv st h sz k w) : GW G l Z R M pc lv (.int y :: .int x :: st) h sz k w := by
  obtain ⟨hd, rfl, ht⟩ := hd
  intro p e s m args below meth c H locs ls F hS hR hz hl
  exact lv_icmp_le F.1 F.2.1 hd ht (fun q => kt q p e s m args below meth c H locs ls F hS hR hz hl) (fun q => kf q p e s m args below meth c H locs ls F hS hR hz hl)
theorem gw_goto {off : Int} {tgt : Nat} (hd : gB M pc (.goto off) off pc' tgt) (kk : GW G l Z R M tgt lv st h sz k w) : GW G l Z R M pc lv st h sz k w := by
  obtain ⟨hd, -, ht⟩ := hd
  intro p e s m args below meth c H locs ls F hS hR hz hl
  exact lv_goto F.1 F.2.1 hd ht (kk p e s m args below meth c H locs ls F hS hR hz hl)
theorem gw_ifnonnull {x : Nat} {off : Int} {tgt : Nat} (hd : gB M pc (.ifnonnull off) off pc' tgt) (kk : GW G l Z R M tgt lv st h sz k w) : GW G l Z R M pc lv (.ref x :: st) h sz k w := by
  obtain ⟨hd, -, ht⟩ := hd
  intro p e s m args below meth c H locs ls F hS hR hz hl
  exact lv_ifnonnull F.1 F.2.1 hd ht (kk p e s m args below meth c H locs ls F hS hR hz hl)
theorem gw_ifnonnullN {off : Int} {tgt : Nat} (hd : gB M pc (.ifnonnull off) off pc' tgt) (kk : GW G l Z R M pc' lv st h sz k w) : GW G l Z R M pc lv (.null :: st) h sz k w := by
  obtain ⟨hd, rfl, -⟩ := hd
  intro p e s m args below meth c H locs ls F hS hR hz hl
  exact lv_ifnonnullN F.1 F.2.1 hd (kk p e s m args below meth c H locs ls F hS hR hz hl)
theorem gw_acmpeq {x y : Nat} {off : Int} {tgt : Nat} (hd : gB M pc (.if_acmp .eq off) off pc' tgt) (kt : x = y → GW G l Z R M tgt lv st h sz k w) (kf : ¬ x = y → GW G l Z R M pc' lv st h sz k w) : GW G l Z R M pc lv (.ref y :: .ref x :: st) h sz k w := by
  obtain ⟨hd, rfl, ht⟩ := hd
  intro p e s m args below meth c H locs ls F hS hR hz hl
  exact lv_acmp_eq (rx := some x) (ry := some y) F.1 F.2.1 hd ht (fun q => kt (Option.some.inj q) p e s m args below meth c H locs ls F hS hR hz hl) (fun q => kf (fun z => q (congrArg some z)) p e s m args below meth c H locs ls F hS hR hz hl)
theorem gw_acmpne {x y : Nat} {off : Int} {tgt : Nat} (hd : gB M pc (.if_acmp .ne off) off pc' tgt) (kt : ¬ x = y → GW G l Z R M tgt lv st h sz k w) (kf : x = y → GW G l Z R M pc' lv st h sz k w) : GW G l Z R M pc lv (.ref y :: .ref x :: st) h sz k w := by
  obtain ⟨hd, rfl, ht⟩ := hd
  intro p e s m args below meth c H locs ls F hS hR hz hl
  exact lv_acmp_ne (rx := some x) (ry := some y) F.1 F.2.1 hd ht (fun q => kt (fun z => q (congrArg some z)) p e s m args below meth c H locs ls F hS hR hz hl) (fun q => kf (Option.some.inj q) p e s m args below meth c H locs ls F hS hR hz hl)
/-- fields -/
theorem gw_get {a ci kf : Nat} {fs : List Value} {v : Value} (hd : gGf M pc ci kf pc') (ha : h a = some (gO ci fs)) (hv : fs[kf]? = some v) (kk : GW G l Z R M pc' lv (v :: st) h sz k w) : GW G l Z R M pc lv (.ref a :: st) h sz k w := by
  obtain ⟨idx, hd, rfl, C, T, N, ref, hc, hk, hlink, hin, hsame⟩ := hd
  intro p e s m args below meth c H locs ls F hS hR hz hl
  have hP : va_P G.1 gCl [(a, .inr (ci, fs))] H := fun i q hq => by
    have hz : i < 1 := (List.getElem?_eq_some_iff.mp hq).1
    rw [show i = 0 by omega] at hq
    cases hq
    exact (hR a _ ha).2
  refine va_get (D := G.1) (cl := gCl) F.1 F.2.1 F.2.2.2.2.1 hin F.2.2.2.1 F.2.2.2.2.2.2.2.2.2.1.1 hP 0 rfl hc kf hk (F.2.2.2.2.1 _ hlink) ?_ hv hd (kk p e s m args below meth c H locs ls F hS hR hz hl)
  rcases hsame with rfl | hs
  · exact fun _ q => q
  · exact fun x q => u_same (F.2.2.2.2.1 _ hs) x q
theorem gw_put {a ci kf : Nat} {fs : List Value} {v : Value} {ty : FieldType} (hd : gPf M pc ci kf ty pc') (ha : h a = some (gO ci fs)) (hl9 : kf < fs.length) (hn : narrow ty v = v) (hf : fits ty v = true) (kk : GW G l Z R M pc' lv st (gUp h a (gO ci (fs.set kf v))) sz k w) : GW G l Z R M pc lv (v :: .ref a :: st) h sz k w := by
  obtain ⟨idx, hd, rfl, C, T, N, ref, ty0, hc, hk, hlink, hin, hsame, hty, hnm, hpd, hfin⟩ := hd
  intro p e s m args below meth c H locs ls F hS hR hz hl
  have hK := F.2.2.2.2.2.2.2.2.2.1.1
  have hap := va_apart (own := M.2.2.1) F.2.2.2.2.1 hin ty0 hty hnm hK hc
  obtain ⟨hA, r, h1, cell, q1, q2, q3, q4⟩ := hR a _ ha
  have hr : r = (C, T, N) := Option.some.inj (h1.symm.trans hc)
  subst hr
  obtain ⟨hSl, hfc, kC, hkC, hkind⟩ := hK.1 ci _ hc
  obtain ⟨cf, kf', fi, f, hi, hsl⟩ := hSl kf hk
  have hlay := F.2.2.2.2.1 _ (hin _ (u_in_lay hk))
  have hst := (u_facts hfc hkC (u_lays F.2.2.2.2.1 hin hk) hi).1
  have hsm : ∀ x, s.fieldFound? (T kf).1 (T kf).2.1 (T kf).2.2.1 = some x → s.fieldFound? ref (T kf).2.1 (T kf).2.2.1 = some x := by
    rcases hsame with rfl | hs
    · exact fun _ q => q
    · exact fun x q => u_same (F.2.2.2.2.1 _ hs) x q
  have fin : ∀ (H1 : Heap) (i9 : Nat), H1[a]? = some (cell.setSlot f.slot v) → H1.size = H.size → (∀ q, q ≠ a → H1[q]? = H[q]?) → W p l e R s m args below meth c H1 (locs ++ [⟨a, f.slot⟩]) k w (Z s args below) (F0 m (pc + 3) ls st) := by
    intro H1 _ e1 e2 e3
    refine kk p e s m args below meth c H1 _ ls F (hS.put e2 e3 hA) (hR.put hA ?_ e3) (e2.trans hz) hl
    rw [hsl] at e1
    exact ⟨_, hc, t_OB.to (V := updV (vp_V fs) kf v) ⟨_, e1, q2, q3, t_set q4 hap hk v⟩ (fun j _ => vp_updV_set hl9 v j)⟩
  rcases hfin with hfin | ⟨hfin, hin2, hdecl⟩
  · unfold u_lay at hlay
    rw [if_neg (by rw [hfin]; decide)] at hlay
    have h6 := u_store hfc hkC hkind hlay hi hpd hn hf
    exact W.putK F.1 F.2.1 (f := f) ⟨F.2.2.2.1, F.2.2.2.2.1 _ hlink, ⟨_, _, _, hsm _ hi⟩, hst⟩ (by rw [q2]; exact h6) q1 q3 (by rw [hsl]; exact k2_hasslot (q4 kf hk)) rfl rfl hd (fun H1 e1 e2 e3 => fin H1 0 e1 e2 e3)
  · unfold u_lay at hlay
    rw [if_pos hfin] at hlay
    have hcf : m.cls = cf := by
      obtain ⟨_, _, c', _, _, _, -, -, hf', -, -, -, hown2, -⟩ := Cond.laysFinal_spec hlay
      have e1 : c' = cf := by have := hi.symm.trans hf'; simp at this; exact this.1.symm
      rw [hdecl] at hown2
      rw [← e1]; exact Option.some.inj (F.2.2.2.1.symm.trans hown2)
    have h6 := u_fits hfc hkC hkind (Or.inr hlay) hi hpd hn hf
    exact W.putFinK F.1 F.2.1 F.2.2.2.1 (F.2.2.2.2.1 _ hlink) (hsm _ hi) hst hcf (F.2.2.2.2.2.1.trans hin2) (by rw [q2]; exact h6) q1 q3 (by rw [hsl]; exact k2_hasslot (q4 kf hk)) rfl rfl hd (fun H1 e1 e2 e3 => fin H1 0 e1 e2 e3)
end Rows
end
section
/-! ===== rows: arrays, objects, statics, calls, ends ===== -/
theorem gP1 {G : gG} {h : gHp} {H : Heap} {a : Nat} {e : gE} (hR : gRep G h H) (ha : h a = some e) : va_P G.1 gCl [(a, gv G e)] H := by
  intro i q hq
  have hz : i < 1 := (List.getElem?_eq_some_iff.mp hq).1
  rw [show i = 0 by omega] at hq
  cases hq
  exact (hR a _ ha).2
theorem g_ix {i : Int32} {j n : Nat} (hi : i = nI j) (hj : j < n) (hn : j < 2147483648) : vp_in i n ∧ i.toNatClampNeg = j := by
  subst hi
  have e := nI_clamp (n := j) hn
  refine ⟨?_, e⟩
  intro q
  rcases q with q | q
  · exact nI_pos hn q
  · rw [e] at q; omega
section Rows2
variable {G : gG} {l : Launch} {Z : State → Array Value → List Frame → State → Prop} {R : Room} {M : gM} {pc pc' : Nat} {lv : List (Option Value)} {st : List Value} {h : gHp} {sz k w : Nat}
theorem gw_iald {a n : Nat} {f : Nat → Int32} {i : Int32} (hd : gD M pc .iaload 1 pc') (ha : h a = some (gI n f)) (j : Nat) (hi : i = nI j) (hj : j < n) (hn : j < 2147483648) (kk : GW G l Z R M pc' lv (.int (f j) :: st) h sz k w) : GW G l Z R M pc lv (.int i :: .ref a :: st) h sz k w := by
  obtain ⟨hd, rfl⟩ := hd
  intro p e s m args below meth c H locs ls F hS hR hz hl
  obtain ⟨h1, h2⟩ := g_ix hi hj hn
  have K := kk p e s m args below meth c H locs ls F hS hR hz hl
  rw [← h2] at K
  exact va_iald F.1 F.2.1 F.2.2.2.2.2.2.2.2.2.1.1 (gP1 hR ha) 0 0 rfl rfl h1 hd K
theorem gw_lald {a n : Nat} {f : Nat → Int64} {i : Int32} (hd : gD M pc .laload 1 pc') (ha : h a = some (gL n f)) (j : Nat) (hi : i = nI j) (hj : j < n) (hn : j < 2147483648) (kk : GW G l Z R M pc' lv (.long (f j) :: st) h sz k w) : GW G l Z R M pc lv (.int i :: .ref a :: st) h sz k w := by
  obtain ⟨hd, rfl⟩ := hd
  intro p e s m args below meth c H locs ls F hS hR hz hl
  obtain ⟨h1, h2⟩ := g_ix hi hj hn
  have K := kk p e s m args below meth c H locs ls F hS hR hz hl
  rw [← h2] at K
  exact va_lald F.1 F.2.1 F.2.2.2.2.2.2.2.2.2.1.1 (gP1 hR ha) 0 1 rfl rfl h1 hd K
/-- which array kinds hold references -/
def gKd (kd : Nat) : Prop := kd = 2 ∨ kd = 3 ∨ kd = 4
theorem gKd_ty (G : gG) {kd : Nat} (hk : gKd kd) : ∃ C : String, (gTys G)[kd]? = some (gCy G kd, .object C) := by
  rcases hk with rfl | rfl | rfl
  · exact ⟨_, rfl⟩
  · exact ⟨_, rfl⟩
  · exact ⟨_, rfl⟩
theorem gw_aald {a n kd : Nat} {f : Nat → Option Nat} {i : Int32} (hd : gD M pc .aaload 1 pc') (ha : h a = some (gR kd n f)) (hkd : gKd kd) (j y : Nat) (hi : i = nI j) (hj : j < n) (hn : j < 2147483648) (hy : f j = some y) (kk : GW G l Z R M pc' lv (.ref y :: st) h sz k w) : GW G l Z R M pc lv (.int i :: .ref a :: st) h sz k w := by
  obtain ⟨hd, rfl⟩ := hd
  intro p e s m args below meth c H locs ls F hS hR hz hl
  obtain ⟨h1, h2⟩ := g_ix hi hj hn
  have K := kk p e s m args below meth c H locs ls F hS hR hz hl
  have e9 : va_rf (f i.toNatClampNeg) = .ref y := by rw [h2, hy]; rfl
  rw [← e9] at K
  obtain ⟨C, hC⟩ := gKd_ty G hkd
  exact va_aldq F.1 F.2.1 F.2.2.2.2.2.2.2.2.2.1.1 (gP1 hR ha) 0 kd rfl hC h1 hd K
theorem gw_alenI {a n : Nat} {f : Nat → Int32} (hd : gD M pc .arraylength 1 pc') (ha : h a = some (gI n f)) (kk : GW G l Z R M pc' lv (.int (nI n) :: st) h sz k w) : GW G l Z R M pc lv (.ref a :: st) h sz k w := by
  obtain ⟨hd, rfl⟩ := hd
  intro p e s m args below meth c H locs ls F hS hR hz hl
  exact va_alen F.1 F.2.1 F.2.2.2.2.2.2.2.2.2.1.1 (gP1 hR ha) 0 0 rfl rfl rfl hd (kk p e s m args below meth c H locs ls F hS hR hz hl)
theorem gw_alenR {a n kd : Nat} {f : Nat → Option Nat} (hd : gD M pc .arraylength 1 pc') (ha : h a = some (gR kd n f)) (hkd : gKd kd) (kk : GW G l Z R M pc' lv (.int (nI n) :: st) h sz k w) : GW G l Z R M pc lv (.ref a :: st) h sz k w := by
  obtain ⟨hd, rfl⟩ := hd
  intro p e s m args below meth c H locs ls F hS hR hz hl
  obtain ⟨C, hC⟩ := gKd_ty G hkd
  exact va_alen F.1 F.2.1 F.2.2.2.2.2.2.2.2.2.1.1 (gP1 hR ha) 0 kd rfl hC rfl hd (kk p e s m args below meth c H locs ls F hS hR hz hl)
/-- ArrayList's empty array -/
theorem gw_alenD {a : Nat} (hd : gD M pc .arraylength 1 pc') (ha : a = gDce G) (kk : GW G l Z R M pc' lv (.int 0 :: st) h sz k w) : GW G l Z R M pc lv (.ref a :: st) h sz k w := by
  subst ha
  obtain ⟨hd, rfl⟩ := hd
  intro p e s m args below meth c H locs ls F hS hR hz hl
  obtain ⟨-, ⟨f, cell, h1, h2, h3, h4, h5, h6, h7⟩, -⟩ := F.2.2.2.2.2.2.2.2.2.2.1
  have hlt : gDce G < s.heap.size := (Array.getElem?_eq_some_iff.mp h1).1
  exact W.alen (n := 0) F.1 F.2.1 (by rw [hS.2.1 _ hlt h7]; exact h1) h2 h5 rfl rfl hd (kk p e s m args below meth c H locs ls F hS hR hz hl)
theorem gw_iast {a n : Nat} {f : Nat → Int32} {i x : Int32} (hd : gD M pc .iastore 1 pc') (ha : h a = some (gI n f)) (j : Nat) (hi : i = nI j) (hj : j < n) (hn : j < 2147483648) (kk : GW G l Z R M pc' lv st (gUp h a (gI n (upd f j x))) sz k w) : GW G l Z R M pc lv (.int x :: .int i :: .ref a :: st) h sz k w := by
  obtain ⟨hd, rfl⟩ := hd
  intro p e s m args below meth c H locs ls F hS hR hz hl
  obtain ⟨h1, h2⟩ := g_ix hi hj hn
  have hA := (hR a _ ha).1
  refine W.iast F.1 F.2.1 (hR a _ ha).2 ((F.2.2.2.2.2.2.2.2.2.1.1.2 0 _ rfl).1 n (fun j => .int (f j))) (fun q => by cases q) (by show ¬ (i < 0 ∨ (arrV _ _ _).slots.size ≤ _); rw [arrV_size]; exact h1) rfl rfl hd fun H1 e1 z oq => ?_
  refine kk p e s m args below meth c H1 _ ls F (hS.put z oq hA) (hR.put hA ?_ oq) (z.trans hz) hl
  show H1[a]? = some (vp_cell _ _)
  rw [e1, h2]
  show some ((vp_cell _ _).setSlot _ _) = _
  rw [vp_cell_i, vp_cell_i, arrV_store]
  congr 2
  funext q
  by_cases hq : q = j
  · subst hq
    simp [updV, upd]
  · simp [updV, upd, hq]
theorem gw_last {a n : Nat} {f : Nat → Int64} {i : Int32} {x : Int64} (hd : gD M pc .lastore 1 pc') (ha : h a = some (gL n f)) (j : Nat) (hi : i = nI j) (hj : j < n) (hn : j < 2147483648) (kk : GW G l Z R M pc' lv st (gUp h a (gL n (vp_updL f j x))) sz k w) : GW G l Z R M pc lv (.long x :: .int i :: .ref a :: st) h sz k w := by
  obtain ⟨hd, rfl⟩ := hd
  intro p e s m args below meth c H locs ls F hS hR hz hl
  obtain ⟨h1, h2⟩ := g_ix hi hj hn
  have hA := (hR a _ ha).1
  refine W.last F.1 F.2.1 (hR a _ ha).2 ((F.2.2.2.2.2.2.2.2.2.1.1.2 1 _ rfl).1 n (fun j => .long (f j))) (fun q => by cases q) (by show ¬ (i < 0 ∨ (arrV _ _ _).slots.size ≤ _); rw [arrV_size]; exact h1) rfl rfl hd fun H1 e1 z oq => ?_
  refine kk p e s m args below meth c H1 _ ls F (hS.put z oq hA) (hR.put hA ?_ oq) (z.trans hz) hl
  show H1[a]? = some (vp_cell _ _)
  rw [e1, h2]
  show some ((vp_cell _ _).setSlot _ _) = _
  rw [vp_cell_l, vp_cell_l, arrV_store]
  congr 2
  funext q
  by_cases hq : q = j
  · subst hq
    simp [updV, vp_updL]
  · simp [updV, vp_updL, hq]
/-- a reference into an array: kind 2 takes Stations, 3 Cartridges, 4 Versions -/
def gFt (kd ci : Nat) : Prop := (kd = 2 ∧ ci = 2) ∨ (kd = 3 ∧ ci = 1) ∨ (kd = 4 ∧ ci = 4)
theorem gw_aast {a n kd ci v : Nat} {vs : List Value} {f : Nat → Option Nat} {i : Int32} (hd : gD M pc .aastore 1 pc') (ha : h a = some (gR kd n f)) (hv : h v = some (gO ci vs)) (hkd : gFt kd ci) (j : Nat) (hi : i = nI j) (hj : j < n) (hn : j < 2147483648) (kk : GW G l Z R M pc' lv st (gUp h a (gR kd n (va_up f j (some v)))) sz k w) : GW G l Z R M pc lv (.ref v :: .int i :: .ref a :: st) h sz k w := by
  obtain ⟨hd, rfl⟩ := hd
  intro p e s m args below meth c H locs ls F hS hR hz hl
  obtain ⟨h1, h2⟩ := g_ix hi hj hn
  have hA := (hR a _ ha).1
  have hK := F.2.2.2.2.2.2.2.2.2.1.1
  have hlt : i.toNatClampNeg < n := by rw [h2]; exact hj
  have h0 : ¬ i < 0 := fun q => h1 (Or.inl q)
  obtain ⟨-, r', hr', cellV, g1, g2, g3, -⟩ := hR v _ hv
  have hcls := (hK.1 ci r' hr').2
  obtain ⟨kC, hkC, -⟩ := hcls.2
  have hty : ∃ (E : String) (comp : ClassId) (kA : Class) (kE : Class), s.vm.classes[gCy G kd]? = some kA ∧ kA.kind = .array comp (.object E) ∧ s.vm.classes[comp]? = some kE ∧ s.vm.assignable (G.1.1 ci) comp = true := by
    rcases hkd with ⟨rfl, rfl⟩ | ⟨rfl, rfl⟩ | ⟨rfl, rfl⟩
    · obtain ⟨kA, comp, k1, k2, k3, -⟩ := (hK.2 2 _ rfl).2
      cases hr'
      have hcomp : comp = G.1.1 2 := Option.some.inj (k3.symm.trans hcls.1)
      subst hcomp
      exact ⟨_, _, kA, kC, k1, k2, hkC, va_assign hcls⟩
    · obtain ⟨kA, comp, k1, k2, k3, -⟩ := (hK.2 3 _ rfl).2
      cases hr'
      have hcomp : comp = G.1.1 1 := Option.some.inj (k3.symm.trans hcls.1)
      subst hcomp
      exact ⟨_, _, kA, kC, k1, k2, hkC, va_assign hcls⟩
    · obtain ⟨kA, comp, k1, k2, k3, -⟩ := (hK.2 4 _ rfl).2
      cases hr'
      obtain ⟨kE, hkE, -⟩ := Vm.findClass_spec k3
      obtain ⟨c0, t1, f1, f2, f3⟩ := Cond.castable_spec (va_Nw.use (A := args) rfl (F.2.2.2.2.2.2.2.2.2.1.2.1 (.castable "FolderRounds$Version" "java/lang/Object") (by simp [gNwl])))
      have q1 : G.1.1 4 = c0 := Option.some.inj (hcls.1.symm.trans f1)
      have q2 : comp = t1 := Option.some.inj (k3.symm.trans f2)
      subst q1 q2
      exact ⟨_, _, kA, kE, k1, k2, hkE, f3⟩
  obtain ⟨E, comp, kA, kE, k1, k2, k3, k4⟩ := hty
  refine W.aast F.1 F.2.1 (hR a _ ha).2 (fun q h => by cases h) (fun h => by cases h) k1 k2 rfl k3 ⟨h0, by show _ < (arrV _ _ _).slots.size; rw [arrV_size]; exact hlt⟩ g1 (fun q h => by rw [g3] at h; cases h) (by rw [g2]; exact hkC) (by rw [g2]; exact k4) rfl rfl hd fun H1 e1 z oq => ?_
  refine kk p e s m args below meth c H1 _ ls F (hS.put z oq hA) (hR.put hA ?_ oq) (z.trans hz) hl
  show H1[a]? = some (vp_cell _ _)
  rw [e1, h2]
  show some ((vp_cell _ _).setSlot _ _) = _
  rw [vp_cell_q, vp_cell_q, arrV_store]
  congr 2
  funext q
  by_cases hq : q = j
  · subst hq
    simp [updV, va_up, va_rf]
  · simp [updV, va_up, hq]
theorem gw_aastN {a n kd : Nat} {f : Nat → Option Nat} {i : Int32} (hd : gD M pc .aastore 1 pc') (ha : h a = some (gR kd n f)) (hkd : gKd kd) (j : Nat) (hi : i = nI j) (hj : j < n) (hn : j < 2147483648) (kk : GW G l Z R M pc' lv st (gUp h a (gR kd n (va_up f j none))) sz k w) : GW G l Z R M pc lv (.null :: .int i :: .ref a :: st) h sz k w := by
  obtain ⟨hd, rfl⟩ := hd
  intro p e s m args below meth c H locs ls F hS hR hz hl
  obtain ⟨h1, h2⟩ := g_ix hi hj hn
  have hA := (hR a _ ha).1
  have hK := F.2.2.2.2.2.2.2.2.2.1.1
  obtain ⟨C, hC⟩ := gKd_ty G hkd
  refine va_WaastN (C := C) F.1 F.2.1 (hR a _ ha).2 ((hK.2 kd _ hC).1 n (fun j => va_rf (f j))) (fun h => by cases h) (by show ¬ (i < 0 ∨ (arrV _ _ _).slots.size ≤ _); rw [arrV_size]; exact h1) rfl rfl hd fun H1 e1 z oq => ?_
  refine kk p e s m args below meth c H1 _ ls F (hS.put z oq hA) (hR.put hA ?_ oq) (z.trans hz) hl
  show H1[a]? = some (vp_cell _ _)
  rw [e1, h2]
  show some ((vp_cell _ _).setSlot _ _) = _
  rw [vp_cell_q, vp_cell_q, arrV_store]
  congr 2
  funext q
  by_cases hq : q = j
  · subst hq
    simp [updV, va_up, va_rf]
  · simp [updV, va_up, hq]
/-- new arrays -/
theorem gw_newI {i : Int32} (hd : gD M pc (.newarray .int) 2 pc') (hw : Cond.arrayClass .int ∈ gW) (n : Nat) (hi : i = nI n) (hn : n ≤ 100000) (hc : k + 1 ≤ R.cells) (hs : w + n ≤ R.slots) (kk : GW G l Z R M pc' lv (.ref sz :: st) (gUp h sz (gI n (fun _ => 0))) (sz + 1) (k + 1) (w + n)) : GW G l Z R M pc lv (.int i :: st) h sz k w := by
  obtain ⟨hd, rfl⟩ := hd
  intro p e s m args below meth c H locs ls F hS hR hz hl
  subst hz hi
  refine va_newaK F.1 F.2.1 (atype := .int) (F.2.2.2.2.1 _ hw) rfl hd rfl (nI_pos (by omega)) (nI_clamp (by omega)) (by show n * 4 ≤ _; omega) hc hs rfl fun H1 cA e1 z1 o1 hAr hNm => ?_
  have hcA : gCy G 0 = cA := Option.some.inj ((F.2.2.2.2.2.2.2.2.2.1.1.2 0 _ rfl).2.symm.trans hNm)
  have hA : gA G H.size := Nat.le_trans F.2.2.2.2.2.2.2.2.2.2.2 hS.1
  refine kk p e s m args below meth c H1 locs ls F ⟨Nat.le_trans hS.1 (by omega), fun x h1 h2 => (o1 x (Nat.lt_of_lt_of_le h1 hS.1)).trans (hS.2.1 x h1 h2), hS.2.2⟩ (hR.push hA ?_ o1) z1 hl
  show H1[H.size]? = some (vp_cell (gCy G 0) (n, .inl (fun _ => 0)))
  rw [vp_cell_i, hcA]
  exact e1
theorem gw_newL {i : Int32} (hd : gD M pc (.newarray .long) 2 pc') (hw : Cond.arrayClass .long ∈ gW) (n : Nat) (hi : i = nI n) (hn : n ≤ 100000) (hc : k + 1 ≤ R.cells) (hs : w + n ≤ R.slots) (kk : GW G l Z R M pc' lv (.ref sz :: st) (gUp h sz (gL n (fun _ => 0))) (sz + 1) (k + 1) (w + n)) : GW G l Z R M pc lv (.int i :: st) h sz k w := by
  obtain ⟨hd, rfl⟩ := hd
  intro p e s m args below meth c H locs ls F hS hR hz hl
  subst hz hi
  refine va_newaK F.1 F.2.1 (atype := .long) (F.2.2.2.2.1 _ hw) rfl hd rfl (nI_pos (by omega)) (nI_clamp (by omega)) (by show n * 8 ≤ _; omega) hc hs rfl fun H1 cA e1 z1 o1 hAr hNm => ?_
  have hcA : gCy G 1 = cA := Option.some.inj ((F.2.2.2.2.2.2.2.2.2.1.1.2 1 _ rfl).2.symm.trans hNm)
  have hA : gA G H.size := Nat.le_trans F.2.2.2.2.2.2.2.2.2.2.2 hS.1
  refine kk p e s m args below meth c H1 locs ls F ⟨Nat.le_trans hS.1 (by omega), fun x h1 h2 => (o1 x (Nat.lt_of_lt_of_le h1 hS.1)).trans (hS.2.1 x h1 h2), hS.2.2⟩ (hR.push hA ?_ o1) z1 hl
  show H1[H.size]? = some (vp_cell (gCy G 1) (n, .inr (.inl (fun _ => 0))))
  rw [vp_cell_l, hcA]
  exact e1
theorem gw_newR {i : Int32} {idx kd : Nat} {C : String} (hd : gD M pc (.anewarray idx) 3 pc') (hkd : (kd = 2 ∧ C = "FolderRounds$Station") ∨ (kd = 3 ∧ C = "FolderRounds$Cartridge") ∨ (kd = 4 ∧ C = "java/lang/Object")) (hw : Cond.classLink M.2.2.1 idx C ∈ gW) (n : Nat) (hi : i = nI n) (hn : n ≤ 100000) (hc : k + 1 ≤ R.cells) (hs : w + n ≤ R.slots) (kk : GW G l Z R M pc' lv (.ref sz :: st) (gUp h sz (gR kd n (fun _ => none))) (sz + 1) (k + 1) (w + n)) : GW G l Z R M pc lv (.int i :: st) h sz k w := by
  obtain ⟨hd, rfl⟩ := hd
  intro p e s m args below meth c H locs ls F hS hR hz hl
  subst hz hi
  have hK := F.2.2.2.2.2.2.2.2.2.1
  have hO : va_AO C s ∧ ((gTys G)[kd]? = some (gCy G kd, .object C)) := by
    rcases hkd with ⟨rfl, rfl⟩ | ⟨rfl, rfl⟩ | ⟨rfl, rfl⟩
    · exact ⟨hK.2.2.2.2.1.1, rfl⟩
    · exact ⟨hK.2.2.2.2.1.2.1, rfl⟩
    · exact ⟨hK.2.2.2.2.1.2.2, rfl⟩
  have hcl : (nI n).toNatClampNeg = n := nI_clamp (by omega)
  refine W.anew F.1 F.2.1 F.2.2.2.1 (F.2.2.2.2.1 _ hw) (va_AO.use hO.1) rfl hd rfl (nI_pos (by omega)) (by rw [hcl]; omega) hc (by rw [hcl]; exact hs) fun cA kA comp f1 f2 f3 f4 => ?_
  rw [hcl]
  generalize hH1 : H.push ({ cls := cA, slots := Array.replicate n .null, vm := .none } : Cell) = H1
  have z1 : H1.size = H.size + 1 := by rw [← hH1, Array.size_push]
  have e1 : H1[H.size]? = some (arrV cA n (fun _ => .null)) := by rw [← hH1, Array.getElem?_push_size, ← arrV_new]
  have o1 : ∀ q : Nat, q < H.size → H1[q]? = H[q]? := fun q hq => by rw [← hH1, Array.getElem?_push, if_neg (Nat.ne_of_lt hq)]
  have hcA : gCy G kd = cA := by
    obtain ⟨-, -, -, -, -, r4⟩ := (hK.1.2 kd _ hO.2).2
    exact Option.some.inj (r4.symm.trans f1)
  have hA : gA G H.size := Nat.le_trans F.2.2.2.2.2.2.2.2.2.2.2 hS.1
  refine kk p e s m args below meth c H1 locs ls F ⟨Nat.le_trans hS.1 (by omega), fun x h1 h2 => (o1 x (Nat.lt_of_lt_of_le h1 hS.1)).trans (hS.2.1 x h1 h2), hS.2.2⟩ (hR.push hA ?_ o1) z1 hl
  show H1[H.size]? = some (vp_cell (gCy G kd) (n, .inr (.inr (.inr (.inr (fun _ => none))))))
  rw [vp_cell_q, hcA]
  exact e1
/-- a new object -/
def gNew (M : gM) (idx ci : Nat) (fs : List Value) : Prop := ∃ (C : String) (T : u_T) (N : Nat) (ty : Nat → FieldType), gCl[ci]? = some (C, T, N) ∧ fs.length = N ∧ Cond.classLink M.2.2.1 idx C ∈ gW ∧ Cond.instantiable C N ∈ gW ∧ Cond.initialized C ∈ gW ∧ (∀ w ∈ u_ws C T N, w ∈ gW) ∧ (∀ k, k < N → parseFieldDescriptor (T k).2.2.1 = some (ty k)) ∧ (∀ j, j < N → defaultValue (ty j) = vp_V fs j)
theorem gw_new {idx ci : Nat} (fs : List Value) (hd : gD M pc (.new idx) 3 pc') (hN : gNew M idx ci fs) (hc : k + 1 ≤ R.cells) (hs : w + fs.length ≤ R.slots) (kk : GW G l Z R M pc' lv (.ref sz :: st) (gUp h sz (gO ci fs)) (sz + 1) (k + 1) (w + fs.length)) : GW G l Z R M pc lv st h sz k w := by
  obtain ⟨hd, rfl⟩ := hd
  obtain ⟨C, T, N, ty, hcl, rfl, hlk, hins, hini, hin, hty, hfs⟩ := hN
  intro p e s m args below meth c H locs ls F hS hR hz hl
  subst hz
  have hKn := F.2.2.2.2.2.2.2.2.2.1.1.1 ci _ hcl
  refine W.newcK F.1 F.2.1 F.2.2.2.1 (F.2.2.2.2.1 _ hlk) (F.2.2.2.2.1 _ hins) (F.2.2.2.2.1 _ hini) rfl hd hc hs hKn.2.1 rfl fun H1 kC hkC e1 z1 o1 => ?_
  have hA : gA G H.size := Nat.le_trans F.2.2.2.2.2.2.2.2.2.2.2 hS.1
  refine kk p e s m args below meth c H1 locs ls F ⟨Nat.le_trans hS.1 (by omega), fun x h1 h2 => (o1 x (Nat.lt_of_lt_of_le h1 hS.1)).trans (hS.2.1 x h1 h2), hS.2.2⟩ (hR.push hA ?_ o1) z1 hl
  exact ⟨_, hcl, (u_born ty F.2.2.2.2.1 hin hKn hkC e1 hty).to hfs⟩
/-- Object.<init>, a static field, casts, class objects -/
theorem gw_objInit {a idx : Nat} (hd : gD M pc (.invokespecial idx) 3 pc') (hw : Cond.methodLink M.2.2.1 idx objectInit ∈ gW ∧ Cond.instanceMethod objectInit ∈ gW ∧ Cond.code objectInit ⟨#[0xb1]⟩ 1 none ∈ gW) (hf : 1 ≤ R.frames) (hlo : (st.map fun v => v.category).sum + 12 ≤ R.locals) (kk : GW G l Z R M pc' lv st h sz k w) : GW G l Z R M pc lv (.ref a :: st) h sz k w := by
  obtain ⟨hd, rfl⟩ := hd
  intro p e s m args below meth c H locs ls F hS hR hz hl
  refine W.objInit F.1 F.2.1 F.2.2.2.1 (F.2.2.2.2.1 _ hw.1) (F.2.2.2.2.1 _ hw.2.1) (F.2.2.2.2.1 _ hw.2.2) rfl (by show ls.size = _; rw [hl.2.1, F.2.2.1]) rfl hd hf (by show 2 * 0 + _ + 12 ≤ _; omega) (kk p e s m args below meth c H locs ls F hS hR hz hl)
theorem gw_getsD {idx : Nat} (hd : gD M pc (.getstatic idx) 3 pc') (hw : Cond.fieldLink M.2.2.1 idx "java/util/ArrayList" "DEFAULTCAPACITY_EMPTY_ELEMENTDATA" "[Ljava/lang/Object;" ∈ gW) (kk : GW G l Z R M pc' lv (.ref (gDce G) :: st) h sz k w) : GW G l Z R M pc lv st h sz k w := by
  obtain ⟨hd, rfl⟩ := hd
  intro p e s m args below meth c H locs ls F hS hR hz hl
  exact va_gets F.1 F.2.1 F.2.2.2.2.2.2.2.2.2.2.1.1 hS F.2.2.2.1 (F.2.2.2.2.1 _ hw) (fun _ q => q) hd (kk p e s m args below meth c H locs ls F hS hR hz hl)
theorem gw_castV {a idx : Nat} {fs : List Value} (hd : gD M pc (.checkcast idx) 3 pc') (hw : Cond.classLink M.2.2.1 idx "FolderRounds$Version" ∈ gW) (ha : h a = some (gO 4 fs)) (kk : GW G l Z R M pc' lv (.ref a :: st) h sz k w) : GW G l Z R M pc lv (.ref a :: st) h sz k w := by
  obtain ⟨hd, rfl⟩ := hd
  intro p e s m args below meth c H locs ls F hS hR hz hl
  have hK := F.2.2.2.2.2.2.2.2.2.1.1
  exact va_castS F.1 F.2.1 F.2.2.2.1 (F.2.2.2.2.1 _ hw) (hK.1 4 _ rfl).2 (va_recv hK (gP1 hR ha) (ci := 4) (q0 := 0) rfl rfl) hd (kk p e s m args below meth c H locs ls F hS hR hz hl)
theorem gw_castN {idx : Nat} (hd : gD M pc (.checkcast idx) 3 pc') (kk : GW G l Z R M pc' lv (.null :: st) h sz k w) : GW G l Z R M pc lv (.null :: st) h sz k w := by
  obtain ⟨hd, rfl⟩ := hd
  intro p e s m args below meth c H locs ls F hS hR hz hl
  exact lv_castN F.1 F.2.1 hd (kk p e s m args below meth c H locs ls F hS hR hz hl)
theorem gw_ldcM {idx : Nat} (hd : gD M pc (.ldc idx) 2 pc') (hw : Cond.classLink M.2.2.1 idx "[Ljava/lang/Object;" ∈ gW) (kk : GW G l Z R M pc' lv (.ref (gMi G) :: st) h sz k w) : GW G l Z R M pc lv st h sz k w := by
  obtain ⟨hd, rfl⟩ := hd
  intro p e s m args below meth c H locs ls F hS hR hz hl
  exact va_ldcM F.1 F.2.1 F.2.2.2.1 (F.2.2.2.2.1 _ hw) F.2.2.2.2.2.2.2.2.2.1.2.2.2.2.2 hd (kk p e s m args below meth c H locs ls F hS hR hz hl)
theorem gw_getC {a idx n : Nat} {f : Nat → Option Nat} (hd : gD M pc (.invokevirtual idx) 3 pc') (hw : Cond.methodLink M.2.2.1 idx ⟨"java/lang/Object", "getClass", "()Ljava/lang/Class;"⟩ ∈ gW ∧ Cond.selects "[Ljava/lang/Object;" ⟨"java/lang/Object", "getClass", "()Ljava/lang/Class;"⟩ ⟨"java/lang/Object", "getClass", "()Ljava/lang/Class;"⟩ ∈ gW ∧ Cond.instanceMethod ⟨"java/lang/Object", "getClass", "()Ljava/lang/Class;"⟩ ∈ gW ∧ Cond.native ⟨"java/lang/Object", "getClass", "()Ljava/lang/Class;"⟩ ∈ gW) (ha : h a = some (gR 4 n f)) (hf : 1 ≤ R.frames) (hlo : (st.map fun v => v.category).sum + 14 ≤ R.locals) (kk : GW G l Z R M pc' lv (.ref (gMi G) :: st) h sz k w) : GW G l Z R M pc lv (.ref a :: st) h sz k w := by
  obtain ⟨hd, rfl⟩ := hd
  intro p e s m args below meth c H locs ls F hS hR hz hl
  have hK := F.2.2.2.2.2.2.2.2.2.1
  refine va_getC F.1 F.2.1 (by rw [hl.2.1]; exact F.2.2.1) F.2.2.2.1 (F.2.2.2.2.1 _ hw.1) (va_Dc.use hK.2.2.2.1) (F.2.2.2.2.1 _ hw.2.1) (F.2.2.2.2.1 _ hw.2.2.1) (F.2.2.2.2.1 _ hw.2.2.2) hK.2.2.2.2.2 ⟨_, (hR a _ ha).2, rfl, ?_⟩ hf hlo hd (kk p e s m args below meth c H locs ls F hS hR hz hl)
  exact va_nmO (hK.1.2 4 _ rfl).2 rfl
end Rows2
end
section
/-! ===== rows: System.arraycopy, calls, ends, throws, entries ===== -/
theorem g_nn (z : Int32) (hz : ¬ z < 0) : z.toInt = (z.toNatClampNeg : Int) := by
  have hz0 : (0 : Int) ≤ z.toInt := by
    have := Int32.not_lt.mp hz
    simpa using Int32.le_iff_toInt_le.mp this
  show z.toInt = ((z.toInt.toNat : Nat) : Int)
  omega
def gCpW (M : gM) (idx : Nat) : Prop := Cond.methodLink M.2.2.1 idx arraycopyName ∈ gW ∧ Cond.native arraycopyName ∈ gW ∧ Cond.static arraycopyName ∈ gW ∧ Cond.initialized "java/lang/System" ∈ gW
section Rows3
variable {G : gG} {l : Launch} {Z : State → Array Value → List Frame → State → Prop} {R : Room} {M : gM} {pc pc' : Nat} {lv : List (Option Value)} {st : List Value} {h : gHp} {sz k w : Nat}
theorem gw_copyI {a0 a n0 n1 : Nat} {f g : Nat → Int32} {sp dp n : Int32} {idx : Nat} (hd : gD M pc (.invokestatic idx) 3 pc') (hw : gCpW M idx) (ha0 : h a0 = some (gI n0 f)) (ha : h a = some (gI n1 g)) (sp' dp' n' : Nat) (e1 : sp = nI sp') (e2 : dp = nI dp') (e3 : n = nI n') (h1 : sp' + n' ≤ n0) (h2 : dp' + n' ≤ n1) (h3 : sp' + dp' + n' < 2147483648) (hf : 1 ≤ R.frames) (hlo : (st.map fun v => v.category).sum + 64 ≤ R.locals)
    (kk : GW G l Z R M pc' lv st (gUp h a (gI n1 (va_cpy f g sp' dp' n'))) sz k w) : GW G l Z R M pc lv (.int n :: .int dp :: .ref a :: .int sp :: .ref a0 :: st) h sz k w := by
  obtain ⟨hd, rfl⟩ := hd
  intro p e s m args below meth c H locs ls F hS hR hz hl
  have hK := F.2.2.2.2.2.2.2.2.2.1.1
  have hA := (hR a _ ha).1
  have q1 : ¬ sp < 0 := by rw [e1]; exact nI_pos (by omega)
  have q2 : ¬ dp < 0 := by rw [e2]; exact nI_pos (by omega)
  have q3 : ¬ n < 0 := by rw [e3]; exact nI_pos (by omega)
  have c1 : sp.toNatClampNeg = sp' := by rw [e1]; exact nI_clamp (by omega)
  have c2 : dp.toNatClampNeg = dp' := by rw [e2]; exact nI_clamp (by omega)
  have c3 : n.toNatClampNeg = n' := by rw [e3]; exact nI_clamp (by omega)
  intro T hT X
  have hc0 : H[a0]? = some (vp_cell (gCy G 0) (n0, .inl f)) := (hR a0 _ ha0).2
  have hc1 : H[a]? = some (vp_cell (gCy G 0) (n1, .inl g)) := (hR a _ ha).2
  obtain ⟨-, k0, hk0, cm0, hkk0⟩ := (hK.2 0 _ rfl).1 n0 (fun j => .int (f j))
  obtain ⟨-, k1, hk1, cm1, hkk1⟩ := (hK.2 0 _ rfl).1 n1 (fun j => .int (g j))
  obtain ⟨vm', X', step⟩ := X.arraycopy F.1 F.2.2.2.1 (F.2.2.2.2.1 _ hw.1) (F.2.2.2.2.1 _ hw.2.1) (F.2.2.2.2.1 _ hw.2.2.1) (F.2.2.2.2.1 _ hw.2.2.2) (src := a0) (dst := a) (cs := vp_cell (gCy G 0) (n0, .inl f)) (cd := vp_cell (gCy G 0) (n1, .inl g)) (srcPos := sp) (destPos := dp) (n := n) (by rw [hT]; exact hc0) (by rw [hT]; exact hc1)
    (fun _ h => by cases h) (fun _ h => by cases h) (fun h => by cases h) (fun h => by cases h) hk0 hk1 hkk0 hkk1 (by first | rfl | simp [refKind]) q1 q2 q3
    (by rw [g_nn sp q1, g_nn n q3]; show ¬ _ > ((arrV (gCy G 0) n0 (fun j => .int (f j))).slots.size : Int); rw [arrV_size]; omega)
    (by rw [g_nn dp q2, g_nn n q3]; show ¬ _ > ((arrV (gCy G 0) n1 (fun j => .int (g j))).slots.size : Int); rw [arrV_size]; omega)
    (fun vm₁ _ i hi => by
      have e : (vp_cell (gCy G 0) (n0, .inl f)).slots.getD (sp.toNatClampNeg + i) .null = .int (f (sp.toNatClampNeg + i)) := by
        show (arrV (gCy G 0) n0 (fun j => .int (f j))).slots.getD _ _ = _
        rw [Array.getD_eq_getD_getElem?, arrV_read _ _ (by omega)]
        rfl
      refine ⟨?_, ?_⟩
      · rw [e]
        rfl
      · rw [e]
        exact trivial)
    (g := F0 m pc ls (.int n :: .int dp :: .ref a :: .int sp :: .ref a0 :: st)) rfl (by show ls.size = _; rw [hl.2.1, F.2.2.1]) (rest := st) rfl (by rw [F.2.1]; exact hd) hf (by
      have hw9 : nativeFrameWords "java/lang/System" "arraycopy" 5 + 11 ≤ 64 := by decide
      show 2 * 0 + _ + _ ≤ _; omega)
  have e9 : copied (vp_cell (gCy G 0) (n0, .inl f)) (vp_cell (gCy G 0) (n1, .inl g)) sp dp n = vp_cell (gCy G 0) (n1, .inl (va_cpy f g sp' dp' n')) := by
    rw [← c1, ← c2, ← c3]
    exact va_copied (fun z => .int z) (gCy G 0) (gCy G 0) f g (by omega)
  rw [e9] at X' step
  have hla : a < H.size := (Array.getElem?_eq_some_iff.mp hc1).1
  have hheap : ((T.setVm vm').setCell a (vp_cell (gCy G 0) (n1, .inl (va_cpy f g sp' dp' n')))).heap = H.setIfInBounds a (vp_cell (gCy G 0) (n1, .inl (va_cpy f g sp' dp' n'))) := by rw [← hT]; rfl
  have oq : ∀ q : Nat, q ≠ a → (H.setIfInBounds a (vp_cell (gCy G 0) (n1, .inl (va_cpy f g sp' dp' n'))))[q]? = H[q]? := fun q hq => by simp [Array.getElem?_setIfInBounds, Ne.symm hq]
  obtain ⟨t, a1, b1⟩ := kk p e s m args below meth c _ _ ls F ⟨by simp; exact hS.1, fun q g1 g2 => by
      rw [oq q (fun e => g2 (by rw [e]; exact hA))]
      exact hS.2.1 q g1 g2, fun q hq => by
      rcases List.mem_append.mp hq with h | h
      · exact hS.2.2 q h
      · obtain ⟨z, -, hz⟩ := List.mem_map.mp h
        rw [← hz]
        exact hA⟩ (hR.put hA (show (H.setIfInBounds a _)[a]? = some _ by simp [Array.getElem?_setIfInBounds, hla]) oq) (by simp; exact hz) hl _ hheap X'
  exact ⟨t, step t a1, b1⟩
theorem gw_copyR {a0 a n0 n1 : Nat} {f g : Nat → Option Nat} {sp dp n : Int32} {idx : Nat} (hd : gD M pc (.invokestatic idx) 3 pc') (hw : gCpW M idx) (ha0 : h a0 = some (gR 4 n0 f)) (ha : h a = some (gR 4 n1 g)) (sp' dp' n' : Nat) (e1 : sp = nI sp') (e2 : dp = nI dp') (e3 : n = nI n') (h1 : sp' + n' ≤ n0) (h2 : dp' + n' ≤ n1) (h3 : sp' + dp' + n' < 2147483648) (hel : ∀ i, i < n' → ∀ y, f (sp' + i) = some y → ∃ fs, h y = some (gO 4 fs)) (hf : 1 ≤ R.frames) (hlo : (st.map fun v => v.category).sum + 64 ≤ R.locals)
    (kk : GW G l Z R M pc' lv st (gUp h a (gR 4 n1 (va_cpy f g sp' dp' n'))) sz k w) : GW G l Z R M pc lv (.int n :: .int dp :: .ref a :: .int sp :: .ref a0 :: st) h sz k w := by
  obtain ⟨hd, rfl⟩ := hd
  intro p e s m args below meth c H locs ls F hS hR hz hl
  have hK := F.2.2.2.2.2.2.2.2.2.1.1
  have hA := (hR a _ ha).1
  have q1 : ¬ sp < 0 := by rw [e1]; exact nI_pos (by omega)
  have q2 : ¬ dp < 0 := by rw [e2]; exact nI_pos (by omega)
  have q3 : ¬ n < 0 := by rw [e3]; exact nI_pos (by omega)
  have c1 : sp.toNatClampNeg = sp' := by rw [e1]; exact nI_clamp (by omega)
  have c2 : dp.toNatClampNeg = dp' := by rw [e2]; exact nI_clamp (by omega)
  have c3 : n.toNatClampNeg = n' := by rw [e3]; exact nI_clamp (by omega)
  intro T hT X
  have hc0 : H[a0]? = some (vp_cell (gCy G 4) (n0, .inr (.inr (.inr (.inr f))))) := (hR a0 _ ha0).2
  have hc1 : H[a]? = some (vp_cell (gCy G 4) (n1, .inr (.inr (.inr (.inr g))))) := (hR a _ ha).2
  obtain ⟨-, k0, hk0, cm0, hkk0⟩ := (hK.2 4 _ rfl).1 n0 (fun j => va_rf (f j))
  obtain ⟨-, k1, hk1, cm1, hkk1⟩ := (hK.2 4 _ rfl).1 n1 (fun j => va_rf (g j))
  obtain ⟨vm', X', step⟩ := X.arraycopy F.1 F.2.2.2.1 (F.2.2.2.2.1 _ hw.1) (F.2.2.2.2.1 _ hw.2.1) (F.2.2.2.2.1 _ hw.2.2.1) (F.2.2.2.2.1 _ hw.2.2.2) (src := a0) (dst := a) (cs := vp_cell (gCy G 4) (n0, .inr (.inr (.inr (.inr f))))) (cd := vp_cell (gCy G 4) (n1, .inr (.inr (.inr (.inr g))))) (srcPos := sp) (destPos := dp) (n := n) (by rw [hT]; exact hc0) (by rw [hT]; exact hc1)
    (fun _ h => by cases h) (fun _ h => by cases h) (fun h => by cases h) (fun h => by cases h) hk0 hk1 hkk0 hkk1 rfl q1 q2 q3
    (by rw [g_nn sp q1, g_nn n q3]; show ¬ _ > ((arrV (gCy G 4) n0 (fun j => va_rf (f j))).slots.size : Int); rw [arrV_size]; omega)
    (by rw [g_nn dp q2, g_nn n q3]; show ¬ _ > ((arrV (gCy G 4) n1 (fun j => va_rf (g j))).slots.size : Int); rw [arrV_size]; omega)
    (fun vm₁ hal i hi => by
      have e : (vp_cell (gCy G 4) (n0, .inr (.inr (.inr (.inr f))))).slots.getD (sp.toNatClampNeg + i) .null = va_rf (f (sp.toNatClampNeg + i)) := by
        show (arrV (gCy G 4) n0 (fun j => va_rf (f j))).slots.getD _ _ = _
        rw [Array.getD_eq_getD_getElem?, arrV_read _ _ (by omega)]
        rfl
      rw [e]
      cases hy : f (sp.toNatClampNeg + i) with
      | none => exact ⟨rfl, trivial⟩
      | some y =>
        obtain ⟨fs, hfs⟩ := hel i (by omega) y (by rw [← c1]; exact hy)
        obtain ⟨cellV, g1, g2, g3⟩ := va_recv hK (gP1 hR hfs) (ci := 4) (q0 := 0) rfl rfl
        obtain ⟨kA, comp, r1, r2, r3, -⟩ := (hK.2 4 _ rfl).2
        cases hk1.symm.trans r1
        cases hkk1.symm.trans r2
        obtain ⟨kC, hkC, -⟩ := Vm.findClass_spec g3
        obtain ⟨kE, hkE, -⟩ := Vm.findClass_spec r3
        obtain ⟨kC', hkC', -⟩ := hal.2.2 _ _ hkC
        obtain ⟨kE', hkE', -⟩ := hal.2.2 _ _ hkE
        refine ⟨rfl, cellV, (show T.heap[y]? = some cellV by rw [hT]; exact g1), (fun q h => by rw [h] at g2; cases g2), ⟨kC', hkC'⟩, ?_, ?_⟩
        · exact ⟨kE', hkE'⟩
        · show vm₁.assignable _ _ = true
          rw [hal.assignable]
          obtain ⟨d0, t1, f1, f2, f3⟩ := Cond.castable_spec (va_Nw.use (A := args) rfl (F.2.2.2.2.2.2.2.2.2.1.2.1 (.castable "FolderRounds$Version" "java/lang/Object") (by simp [gNwl])))
          have w1 : cellV.cls = d0 := Option.some.inj (g3.symm.trans f1)
          have w2 := Option.some.inj (r3.symm.trans f2)
          rw [w1, w2]
          exact f3)
    (g := F0 m pc ls (.int n :: .int dp :: .ref a :: .int sp :: .ref a0 :: st)) rfl (by show ls.size = _; rw [hl.2.1, F.2.2.1]) (rest := st) rfl (by rw [F.2.1]; exact hd) hf (by
      have hw9 : nativeFrameWords "java/lang/System" "arraycopy" 5 + 11 ≤ 64 := by decide
      show 2 * 0 + _ + _ ≤ _; omega)
  have e9 : copied (vp_cell (gCy G 4) (n0, .inr (.inr (.inr (.inr f))))) (vp_cell (gCy G 4) (n1, .inr (.inr (.inr (.inr g))))) sp dp n = vp_cell (gCy G 4) (n1, .inr (.inr (.inr (.inr (va_cpy f g sp' dp' n'))))) := by
    rw [← c1, ← c2, ← c3, vp_cell_q, vp_cell_q, vp_cell_q]
    exact va_copied (fun z => va_rf z) (gCy G 4) (gCy G 4) f g (by omega)
  rw [e9] at X' step
  have hla : a < H.size := (Array.getElem?_eq_some_iff.mp hc1).1
  have hheap : ((T.setVm vm').setCell a (vp_cell (gCy G 4) (n1, .inr (.inr (.inr (.inr (va_cpy f g sp' dp' n'))))))).heap = H.setIfInBounds a (vp_cell (gCy G 4) (n1, .inr (.inr (.inr (.inr (va_cpy f g sp' dp' n')))))) := by rw [← hT]; rfl
  have oq : ∀ q : Nat, q ≠ a → (H.setIfInBounds a (vp_cell (gCy G 4) (n1, .inr (.inr (.inr (.inr (va_cpy f g sp' dp' n')))))))[q]? = H[q]? := fun q hq => by simp [Array.getElem?_setIfInBounds, Ne.symm hq]
  obtain ⟨t, a1, b1⟩ := kk p e s m args below meth c _ _ ls F ⟨by simp; exact hS.1, fun q g1 g2 => by
      rw [oq q (fun e => g2 (by rw [e]; exact hA))]
      exact hS.2.1 q g1 g2, fun q hq => by
      rcases List.mem_append.mp hq with h | h
      · exact hS.2.2 q h
      · obtain ⟨z, -, hz⟩ := List.mem_map.mp h
        rw [← hz]
        exact hA⟩ (hR.put hA (show (H.setIfInBounds a _)[a]? = some _ by simp [Array.getElem?_setIfInBounds, hla]) oq) (by simp; exact hz) hl _ hheap X'
  exact ⟨t, step t a1, b1⟩
/-- what a call of method y at pool index idx needs -/
def gCl0 (M : gM) (idx : Nat) (y : MethodName) (M' : gM) (n : Nat) : Prop := Cond.methodLink M.2.2.1 idx y ∈ gW ∧ Cond.initialized y.cls ∈ gW ∧ gCode y M' ∈ gW ∧ (y.cls ≠ "java/lang/invoke/MethodHandle" ∧ y.cls ≠ "java/lang/invoke/VarHandle") ∧ (parseMethodDescriptor y.desc).map (fun d => d.parameters.length) = some n
def gClV (M : gM) (idx ci : Nat) (y : MethodName) (M' : gM) (n : Nat) : Prop := gCl0 M idx y M' n ∧ M'.2.2.2.2.1 = [] ∧ Cond.instanceMethod y ∈ gW ∧ Cond.selects y.cls y y ∈ gW ∧ ∃ (T : u_T) (N : Nat), gCl[ci]? = some (y.cls, T, N)
def gClS (M : gM) (idx : Nat) (y : MethodName) (M' : gM) (n : Nat) : Prop := gCl0 M idx y M' n ∧ Cond.static y ∈ gW
def gClI (M : gM) (idx : Nat) (y : MethodName) (M' : gM) (n : Nat) : Prop := gCl0 M idx y M' n ∧ M'.2.2.2.2.1 = [] ∧ Cond.instanceMethod y ∈ gW ∧ y.name = "<init>" ∧ M'.2.2.2.2.2 = none
def gRm (R : Room) (d : Nat) (M' : gM) : Prop := 16 * d + 1 ≤ R.frames ∧ 8 + (M'.2.1 + 11) + 128 * d ≤ R.locals
theorem gCode_nil {y : MethodName} {M' : gM} (h : M'.2.2.2.2.1 = []) : gCode y M' = .code y M'.1 M'.2.1 M'.2.2.2.2.2 := by unfold gCode; rw [if_pos h]
theorem gCode_cons {y : MethodName} {M' : gM} (h : ¬ M'.2.2.2.2.1 = []) : gCode y M' = .codeWith y M'.1 M'.2.1 M'.2.2.2.2.2 M'.2.2.2.2.1 := by unfold gCode; rw [if_neg h]
theorem gCallB {M : gM} {p : Program} {s : State} {m : MethodId} {args : Array Value} {meth : Method} {c : Code} {idx n d mc ms : Nat} {y : MethodName} {M' : gM} (F : gFix G M p s m args meth c) (hc : gCl0 M idx y M' n) (hn : M'.2.2.2.2.1 = []) (hR : gRm R d M') : CallB R s args M.2.2.1 idx y M'.1 M'.2.1 M'.2.2.2.2.2 (gWs y M') (gRoom d mc ms) mc ms n :=
  callB_of n F.2.2.2.2.1 (gGood hc.2.2.1) (by unfold gWs; rw [gCode_nil hn]) rfl rfl (F.2.2.2.2.1 _ hc.2.1) (F.2.2.2.2.1 _ hc.1) ⟨hc.2.2.2.1.1, hc.2.2.2.1.2, hc.2.2.2.2⟩ hR
/-- what follows a call that may return or throw -/
theorem gw_after {p : Program} {e : Env} {s : State} {m : MethodId} {args : Array Value} {below : List Frame} {meth : Method} {c : Code} {H : Heap} {locs : List Loc} {ls : Array Slot} {mc ms : Nat} {st0 : List Value} {Q : gRs → gHp → Nat → Prop} {as : Array Value}
    (F : gFix G M p s m args meth c) (hS : va_S (gA G) s.heap H locs) (hz : H.size = sz) (hl : gLs ls M.2.1 lv) (hpc : pc + 3 = pc')
    (hr : vx_Run p l e R s m args below meth c H locs k w mc ms (F0 m pc ls st0) st (gQ G Q as) (gX G Q) (gA G))
    (kr : ∀ v h' sz', Q (.inl v) h' sz' → sz ≤ sz' → GW G l Z R M pc' lv (v.toList ++ st) h' sz' (k + mc) (w + ms))
    (kx : ∀ E h' sz', Q (.inr E) h' sz' → sz ≤ sz' → GX G l Z R M pc lv st h' sz' (k + mc) (w + ms) E) : W p l e R s m args below meth c H locs k w (Z s args below) (F0 m pc ls st0) := by
  subst hpc
  intro T hT X
  rcases hr T hT X with ⟨v, st₀, t, T', L, h0, X', hL, e1, e2, ⟨v', h', hv, hrep, hQ, hF⟩, step⟩ | ⟨q, st₀, t, T', L, E, ce, h0, X', hL, e1, e2, ⟨h', hrep, hQ, hF⟩, hce, hcv, hcl, step⟩
  · cases hv
    obtain ⟨k1, k2, k3⟩ := vx_keep h0 e1 hS (fun _ _ z => z) (fun _ z => z) hL hF
    obtain ⟨t2, a1, b1⟩ := kr v h' t.heap.size hQ (by rw [← hz, ← e1]; exact k1) p e s m args below meth c T'.heap (locs ++ L) ls F k3 (by rw [e1]; exact hrep) (by rw [e1]) hl T' rfl X'
    exact ⟨t2, step t2 a1, b1⟩
  · obtain ⟨k1, k2, k3⟩ := vx_keep h0 e1 hS (fun _ _ z => z) (fun _ z => z) hL hF
    obtain ⟨t2, a1, b1⟩ := kx E h' t.heap.size hQ (by rw [← hz, ← e1]; exact k1) p e s m args below meth c T'.heap (locs ++ L) ls q ce F k3 (by rw [e1]; exact hrep) (by rw [e1]) hl (by rw [e1]; exact hce) hcv hcl T' rfl X'
    exact ⟨t2, step.trans a1, b1⟩
theorem gw_callV {b ci idx n d mc ms : Nat} {y : MethodName} {M' : gM} {fs As st0 : List Value} {Q : gRs → gHp → Nat → Prop} (hd : gD M pc (.invokevirtual idx) 3 pc') (hc : gClV M idx ci y M' n) (hb : h b = some (gO ci fs)) (hst : st0 = As.reverse ++ .ref b :: st) (hn : As.length = n) (hsum : (st.map fun v => v.category).sum ≤ 8) (hR : gRm R d M') (hcs : k + mc ≤ R.cells) (hss : w + ms ≤ R.slots)
    (hM : SM G l d y M' (.ref b :: As) h sz mc ms Q)
    (kr : ∀ v h' sz', Q (.inl v) h' sz' → sz ≤ sz' → GW G l Z R M pc' lv (v.toList ++ st) h' sz' (k + mc) (w + ms))
    (kx : ∀ E h' sz', Q (.inr E) h' sz' → sz ≤ sz' → GX G l Z R M pc lv st h' sz' (k + mc) (w + ms) E) : GW G l Z R M pc lv st0 h sz k w := by
  obtain ⟨hd, hpc⟩ := hd
  obtain ⟨hc0, hhn, hi, hsel, T, N, hci⟩ := hc
  intro p e s m args below meth c H locs ls F hS hRp hz hl
  subst hst
  have hK := F.2.2.2.2.2.2.2.2.2.1
  refine gw_after F hS hz hl hpc (vx_runV (As := As) (rest := st) (b := b) ⟨F.1, F.2.1, F.2.2.1, F.2.2.2.1, F.2.2.2.2.1⟩ hM ⟨gCallB F hc0 hhn hR, F.2.2.2.2.1 _ hi, F.2.2.2.2.1 _ hsel⟩ ⟨gPc_blind, va_recv hK.1 (gP1 hRp hb) (q0 := 0) hci rfl, gPc_at hK F.2.2.2.2.2.2.2.2.2.2.1 F.2.2.2.2.2.2.2.2.2.2.2 hS hRp hz⟩ rfl hn hl.2.1 rfl (by show 2 * 0 + _ ≤ 8; omega) hd ⟨hcs, hss⟩) kr kx
theorem gw_callS {idx n d mc ms : Nat} {y : MethodName} {M' : gM} {As st0 : List Value} {Q : gRs → gHp → Nat → Prop} (hd : gD M pc (.invokestatic idx) 3 pc') (hc : gClS M idx y M' n) (hst : st0 = As.reverse ++ st) (hn : As.length = n) (hsum : (st.map fun v => v.category).sum ≤ 8) (hR : gRm R d M') (hcs : k + mc ≤ R.cells) (hss : w + ms ≤ R.slots)
    (hM : SM G l d y M' As h sz mc ms Q)
    (kr : ∀ v h' sz', Q (.inl v) h' sz' → sz ≤ sz' → GW G l Z R M pc' lv (v.toList ++ st) h' sz' (k + mc) (w + ms))
    (kx : ∀ E h' sz', Q (.inr E) h' sz' → sz ≤ sz' → GX G l Z R M pc lv st h' sz' (k + mc) (w + ms) E) : GW G l Z R M pc lv st0 h sz k w := by
  obtain ⟨hd, hpc⟩ := hd
  obtain ⟨hc0, hstt⟩ := hc
  intro p e s m args below meth c H locs ls F hS hRp hz hl
  subst hst
  have hK := F.2.2.2.2.2.2.2.2.2.1
  by_cases hhn : M'.2.2.2.2.1 = []
  · exact gw_after F hS hz hl hpc (vx_runS (As := As) (rest := st) ⟨F.1, F.2.1, F.2.2.1, F.2.2.2.1, F.2.2.2.2.1⟩ hM ⟨gCallB F hc0 hhn hR, F.2.2.2.2.1 _ hstt⟩ ⟨gPc_blind, gPc_at hK F.2.2.2.2.2.2.2.2.2.2.1 F.2.2.2.2.2.2.2.2.2.2.2 hS hRp hz⟩ rfl hn hl.2.1 rfl (by show 2 * 0 + _ ≤ 8; omega) hd ⟨hcs, hss⟩) kr kx
  · have hcode := hc0.2.2.1
    have hG := gGood hcode
    rw [gCode_cons hhn] at hcode
    refine gw_after F hS hz hl hpc (vx_runSX (hh := M'.2.2.2.2.1) (bytes := M'.1) (maxL := M'.2.1) (ret := M'.2.2.2.2.2) (As := As) (rest := st) ⟨F.1, F.2.1, F.2.2.1, F.2.2.2.1, F.2.2.2.2.1⟩ hM ⟨⟨rfl, rfl, hR.1, hR.2, pay_in F.2.2.2.2.1 hG, ?_⟩, F.2.2.2.2.1 _ hcode, F.2.2.2.2.1 _ hc0.2.1, hc0.2.2.2.1, fun sig hsg => ?_, F.2.2.2.2.1 _ hc0.1, F.2.2.2.2.1 _ hstt⟩ ⟨gPc_blind, gPc_at hK F.2.2.2.2.2.2.2.2.2.2.1 F.2.2.2.2.2.2.2.2.2.2.2 hS hRp hz⟩ rfl hn hl.2.1 rfl (by show 2 * 0 + _ ≤ 8; omega) hd ⟨hcs, hss⟩) kr kx
    · unfold gWs; rw [gCode_cons hhn]; exact List.mem_cons_self
    · have h2 := hc0.2.2.2.2
      rw [hsg] at h2
      exact (Option.some.inj h2).symm
theorem gw_callI {b idx n d mc ms : Nat} {y : MethodName} {M' : gM} {As st0 : List Value} {Q : gRs → gHp → Nat → Prop} (hd : gD M pc (.invokespecial idx) 3 pc') (hc : gClI M idx y M' n) (hst : st0 = As.reverse ++ .ref b :: st) (hn : As.length = n) (hsum : (st.map fun v => v.category).sum ≤ 8) (hR : gRm R d M') (hcs : k + mc ≤ R.cells) (hss : w + ms ≤ R.slots)
    (hM : SM G l d y M' (.ref b :: As) h sz mc ms Q) (hx : ∀ E h' sz', ¬ Q (.inr E) h' sz')
    (kr : ∀ v h' sz', Q (.inl v) h' sz' → sz ≤ sz' → GW G l Z R M pc' lv (v.toList ++ st) h' sz' (k + mc) (w + ms)) : GW G l Z R M pc lv st0 h sz k w := by
  obtain ⟨hd, hpc⟩ := hd
  obtain ⟨hc0, hhn, hi, hnm, hrt⟩ := hc
  intro p e s m args below meth c H locs ls F hS hRp hz hl
  subst hst
  have hK := F.2.2.2.2.2.2.2.2.2.1
  have hM' := vx_Met.toMet hM (fun E st t q => hx _ _ _ q.choose_spec.2.1)
  have hB := gCallB (mc := mc) (ms := ms) F hc0 hhn hR
  rw [hrt] at hB
  have hr := va_runI (As := As) (rest := st) (b := b) (g := F0 m pc ls (As.reverse ++ .ref b :: st)) ⟨F.1, F.2.1, F.2.2.1, F.2.2.2.1, F.2.2.2.2.1⟩ hM' ⟨hB, hnm, F.2.2.2.2.1 _ hi⟩ (⟨gPc_blind, gPc_at hK F.2.2.2.2.2.2.2.2.2.2.1 F.2.2.2.2.2.2.2.2.2.2.2 hS hRp hz⟩ : PreS s H (gPc G (.ref b :: As) h sz) (.ref b :: As)) rfl hn hl.2.1 rfl (by show 2 * 0 + _ ≤ 8; omega) hd (p := p) (e := e) (below := below) (meth := meth) (locs := locs) (R := R) (cells := k) (slots := w) ⟨hcs, hss⟩
  refine gw_after F hS hz hl hpc (Q := Q) (as := (Value.ref b :: As).toArray) ?_ kr (fun E h' sz' q => absurd q (hx _ _ _))
  intro T hT X
  exact Or.inl (hr T hT X)
/-- an exception leaves a method that has no handlers -/
theorem gx_out {Q : gRs → gHp → Nat → Prop} {MC MS : Nat} {E : String} (hh : M.2.2.2.2.1 = []) (hQ : Q (.inr E) h sz) (hk : k ≤ MC) (hw : w ≤ MS) : GX G l (gZ G Q MC MS) R M pc lv st h sz k w E := by
  intro p e s m args below meth c H locs ls q ce F hS hR hz hl h3 h4 h5
  refine vx_out (fun x hx => ?_) F.2.2.2.2.2.2.2.2.1 h3 h4 h5 (fun t ht ha => ⟨h, by rw [ht]; exact hR, by rw [ht, hz]; exact hQ, hS.F ht⟩) hS.2.2 hk hw
  rw [F.2.2.2.2.2.2.1, hh] at hx
  cases hx
/-- .. or is caught -/
theorem gx_catch {E nm : String} (pre : List ExceptionTableEntry) (x : ExceptionTableEntry) (suf : List ExceptionTableEntry) (hsplit : tableOf M.2.2.2.2.1 = pre ++ x :: suf) (hpass : ∀ z ∈ pre, z.catchType ≠ 0 ∧ ∃ nm : String, Cond.classLink M.2.2.1 z.catchType nm ∈ gW ∧ (E, nm) ∈ gNc) (hx : covers x pc = true) (h0 : x.catchType ≠ 0) (hlink : Cond.classLink M.2.2.1 x.catchType nm ∈ gW) (hcast : Cond.castable E nm ∈ gNwl)
    (kk : ∀ q : Nat, GW G l Z R M x.handlerPc lv [.ref q] h sz k w) : GX G l Z R M pc lv st h sz k w E := by
  intro p e s m args below meth c H locs ls q ce F hS hR hz hl h3 h4 h5
  have hK := F.2.2.2.2.2.2.2.2.2.1
  refine vx_catch F.2.2.2.1 pre x suf (by rw [F.2.2.2.2.2.2.1]; exact hsplit) (fun z hz => ?_) hx h0 (F.2.2.2.2.1 _ hlink) (va_Nw.use rfl (hK.2.1 _ hcast)) h3 h4 h5 (kk q p e s m args below meth c H locs ls F hS hR hz hl)
  obtain ⟨z0, nm', q1, q2⟩ := hpass z hz
  exact Or.inr ⟨z0, nm', F.2.2.2.2.1 _ q1, hK.2.2.1 _ q2⟩
/-- returns -/
theorem gw_iret {Q : gRs → gHp → Nat → Prop} {MC MS : Nat} {v : Int32} (hd : gD M pc .ireturn 1 pc') (hr : M.2.2.2.2.2 = some .int) (hk : k ≤ MC) (hw : w ≤ MS) (hQ : Q (.inl (some (.int v))) h sz) : GW G l (gZ G Q MC MS) R M pc lv [.int v] h sz k w := by
  intro p e s m args below meth c H locs ls F hS hR hz hl
  have hlocks := F.2.2.2.2.2.2.2.2.1
  exact W.widen hk hw (vx_ret (W.iret F.1 F.2.1 (F.2.2.2.2.2.2.2.1.trans hr) (fun t ht hW => ⟨_, h, rfl, by rw [ht]; exact hR, by rw [ht, hz]; exact hQ, hS.F ht⟩) hS.2.2 hd.1 hlocks))
theorem gw_zret {Q : gRs → gHp → Nat → Prop} {MC MS : Nat} {v : Int32} (hd : gD M pc .ireturn 1 pc') (hr : M.2.2.2.2.2 = some .boolean) (hv : v = 0 ∨ v = 1) (hk : k ≤ MC) (hw : w ≤ MS) (hQ : Q (.inl (some (.int v))) h sz) : GW G l (gZ G Q MC MS) R M pc lv [.int v] h sz k w := by
  intro p e s m args below meth c H locs ls F hS hR hz hl
  have hlocks := F.2.2.2.2.2.2.2.2.1
  have hn : narrow .boolean (.int v) = .int v := by rcases hv with rfl | rfl <;> decide
  exact W.widen hk hw (vx_ret (W.zret F.1 F.2.1 (F.2.2.2.2.2.2.2.1.trans hr) hn (fun t ht hW => ⟨_, h, rfl, by rw [ht]; exact hR, by rw [ht, hz]; exact hQ, hS.F ht⟩) hS.2.2 hd.1 hlocks))
theorem gw_aret {Q : gRs → gHp → Nat → Prop} {MC MS : Nat} {v : Value} {rt : FieldType} (hd : gD M pc .areturn 1 pc') (hr : M.2.2.2.2.2 = some rt) (hrt : (∃ n, rt = .object n) ∨ ∃ t, rt = .array t) (hv : v = .null ∨ ∃ a, v = .ref a) (hk : k ≤ MC) (hw : w ≤ MS) (hQ : Q (.inl (some v)) h sz) : GW G l (gZ G Q MC MS) R M pc lv [v] h sz k w := by
  intro p e s m args below meth c H locs ls F hS hR hz hl
  have hlocks := F.2.2.2.2.2.2.2.2.1
  exact W.widen hk hw (vx_ret (W.aret F.1 F.2.1 (F.2.2.2.2.2.2.2.1.trans hr) hrt hv (fun t ht hW => ⟨_, h, rfl, by rw [ht]; exact hR, by rw [ht, hz]; exact hQ, hS.F ht⟩) hS.2.2 hd.1 hlocks))
theorem gw_vret {Q : gRs → gHp → Nat → Prop} {MC MS : Nat} (hd : gD M pc .return_ 1 pc') (hr : M.2.2.2.2.2 = none) (hk : k ≤ MC) (hw : w ≤ MS) (hQ : Q (.inl none) h sz) : GW G l (gZ G Q MC MS) R M pc lv [] h sz k w := by
  intro p e s m args below meth c H locs ls F hS hR hz hl
  have hlocks := F.2.2.2.2.2.2.2.2.1
  exact W.widen hk hw (vx_ret (W.vret F.1 F.2.1 (F.2.2.2.2.2.2.2.1.trans hr) (fun t ht hW => ⟨_, h, rfl, by rw [ht]; exact hR, by rw [ht, hz]; exact hQ, hS.F ht⟩) hS.2.2 hd.1 hlocks))
/-- throw new E() -/
def gTh (M : gM) (pc : Nat) (E : String) : Prop := ∃ (ik ic : Nat), decode M.1 pc = .ok (.new ik, 3) ∧ decode M.1 (pc + 3) = .ok (.dup, 1) ∧ decode M.1 (pc + 4) = .ok (.invokespecial ic, 3) ∧ decode M.1 (pc + 7) = .ok (.athrow, 1) ∧ Bundle.fit E = true ∧ Cond.classLink M.2.2.1 ik E ∈ gW ∧ Cond.initialized E ∈ gW ∧ (∀ c ∈ vx_at0 M.2.2.1 ic E ["java/lang/RuntimeException", "java/lang/Exception"], c ∈ gW ∨ c ∈ gNwl) ∧ (∀ c ∈ Cond.classLink M.2.2.1 ik E :: Cond.initialized E :: vx_at0 M.2.2.1 ic E ["java/lang/RuntimeException", "java/lang/Exception"], vx_ot c = true)
theorem gw_throw {Q : gRs → gHp → Nat → Prop} {MC MS d : Nat} {E : String} (hd : gTh M pc E) (htr : l.stackTraces = false) (hh : M.2.2.2.2.1 = []) (hdd : 1 ≤ d) (hsum : (st.map fun v => v.category).sum ≤ 8) (hk : k + 1 ≤ MC) (hw : w + 6 ≤ MS) (hQ : ∀ sz', sz ≤ sz' → Q (.inr E) h sz') : GW G l (gZ G Q MC MS) (gRoom d MC MS) M pc lv st h sz k w := by
  obtain ⟨ik, ic, d0, d3, d4, d7, hfit, hkl, hini, hat, hot⟩ := hd
  intro p e s m args below meth c H locs ls F hS hR hz hl
  have hK := F.2.2.2.2.2.2.2.2.2.1
  obtain ⟨-, -, hU, hN⟩ := F.2.2.2.2.2.2.2.2.2.2.1
  refine vx_throw0 F.1 F.2.1 htr (names := ["java/lang/RuntimeException", "java/lang/Exception"]) F.2.2.2.1 hfit (by decide +kernel) (F.2.2.2.2.1 _ hkl) (F.2.2.2.2.1 _ hini) (fun c hc => ?_) hot hU hN hS (by rw [hl.2.1, F.2.2.1]) d0 d3 d4 d7 (fun x hx => ?_) (by show 2 + 3 < 16 * d; omega) (by show _ + (13 * (2 + 1) + 42) ≤ 128 * d; omega) hk hw F.2.2.2.2.2.2.2.2.1 (fun t ha h1 h2 => ⟨h, hR.grow h2, hQ _ (by rw [← hz]; exact h1), Nat.le_trans hS.1 h1, fun q g1 g2 => (h2 q (Nat.lt_of_lt_of_le g1 hS.1)).trans (hS.2.1 q g1 g2)⟩) hS.2.2 hk hw
  · rcases hat c hc with q | q
    · exact F.2.2.2.2.1 _ q
    · refine va_Nw.use ?_ (hK.2.1 _ q)
      rcases gNwl_kind c q with ⟨a, b, rfl⟩ | ⟨x, rfl⟩ <;> rfl
  · rw [F.2.2.2.2.2.2.1, hh] at hx
    cases hx
end Rows3
/-- entries -/
theorem vx_ofWF {l : Launch} {y : MethodName} {ws ws' : List Cond} {rm : Room} {Pc : Array Value → State → Prop} {Qc : Array Value → State → Outcome → State → Prop} {XC : String → State → State → Prop} {mc ms : Nat} {free : Addr → Prop} {cc : ByteArray} {maxL : Nat} {ret : Option FieldType}
    (hy : plainFor y = true) (hw : ws = Cond.code y cc maxL ret :: ws')
    (body : ∀ p e s m args below meth c s₁, BodyLoose p l y (headSpec ws rm) cc maxL ret e s m args below meth c s₁ → c.maxLocals = maxL → c.exceptionTable.toList = [] → Pc args s →
      W p l e (headSpec ws rm).room s m args below meth c s.heap [] 0 0 (vx_MQ below Qc XC args s mc ms free) (entryFrame m args maxL)) : vx_Met l y ws rm Pc Qc XC mc ms free := by
  refine MetFree.of_bodySF (code := cc) (maxLocals := maxL) (ret := ret) hy ?_ ?_
  · intro args s m h hn
    obtain ⟨meth, c, h1, h2, h3, h4, h5, h6, -, -⟩ := Cond.code_spec hn (atoms_spec (ws := ws) h _ (by rw [hw]; exact List.mem_cons_self))
    exact ⟨meth, c, h1, h2, h3, h4, h5, h6⟩
  · intro p e s m args below meth c s₁ B hml hP _
    have hh0 : s₁.heap = s.heap := by rw [B.state]; rfl
    have ht : c.exceptionTable.toList = [] := by
      obtain ⟨meth9, c9, h1, h2, -, -, -, -, h7, -⟩ := Cond.code_spec B.named (atoms_spec (ws := ws) B.pre _ (by rw [hw]; exact List.mem_cons_self))
      cases Option.some.inj (h1.symm.trans B.method)
      cases Option.some.inj (h2.symm.trans (Stand.of_body B).code)
      rw [Array.isEmpty_iff.mp h7]
    obtain ⟨t, a1, o, b1, b2, b3⟩ := body p e s m args below meth c s₁ B hml ht hP s₁ hh0 (Stand.of_body B)
    exact ⟨t, o, a1, b1, b2, b3⟩
theorem gLs_entry {av : List Value} {nL : Nat} (hc : ∀ v ∈ av, v.category = 1) (hle : av.length ≤ nL) : gLs ((lg_sl av ++ List.replicate (nL - (lg_sl av).length) Slot.unset).toArray) nL (av.map some ++ List.replicate (nL - av.length) none) := by
  have hsl : ∀ av : List Value, (∀ v ∈ av, v.category = 1) → lg_sl av = av.map Slot.val := by
    intro av
    induction av with
    | nil => intro _; rfl
    | cons v r ih =>
      intro h
      have h1 := h v List.mem_cons_self
      have h2 := ih (fun x hx => h x (List.mem_cons_of_mem _ hx))
      simp only [lg_sl, List.flatMap_cons] at h2 ⊢
      rw [h2, if_neg (by omega)]
      rfl
  have hh := lv_entry av (n := nL) (by rw [hsl av hc, List.length_map]; exact hle)
  refine ⟨by simp; omega, hh.1, hh.2.1, fun i v hi => ?_⟩
  by_cases hlt : i < av.length
  · rw [List.getElem?_append_left (by simpa using hlt), List.getElem?_map] at hi
    have hv : av[i]? = some v := by
      cases hq : av[i]? with
      | none => rw [hq] at hi; cases hi
      | some x => rw [hq] at hi; simp at hi; rw [hi]
    refine ⟨?_, hc v (List.mem_of_getElem? hv)⟩
    rw [hsl av hc]
    simp only [List.getElem?_toArray]
    rw [List.getElem?_append_left (by simpa using hlt), List.getElem?_map, hv]
    rfl
  · rw [List.getElem?_append_right (by simpa using hlt), List.getElem?_replicate] at hi
    split at hi <;> simp at hi
theorem SM.of {G : gG} {l : Launch} {d : Nat} {y : MethodName} {M : gM} {av : List Value} {h : gHp} {sz mc ms : Nat} {Q : gRs → gHp → Nat → Prop} {lv0 : List (Option Value)} (hy : plainFor y = true) (hh : M.2.2.2.2.1 = []) (hyc : y.cls = M.2.2.1 ∧ y.name = M.2.2.2.1) (hlv : av.map some ++ List.replicate (M.2.1 - av.length) none = lv0) (hc : ∀ v ∈ av, v.category = 1) (hle : av.length ≤ M.2.1)
    (body : GW G l (gZ G Q mc ms) (gRoom d mc ms) M 0 lv0 [] h sz 0 0) : SM G l d y M av h sz mc ms Q := by
  subst hlv
  refine vx_ofWF (cc := M.1) (maxL := M.2.1) (ret := M.2.2.2.2.2) (ws' := gW) hy (by unfold gWs; rw [gCode_nil hh]) ?_
  intro p e s m args below meth c s₁ B hml hxt hP
  obtain ⟨rfl, hK, hS, hb, hR, hz⟩ := hP
  have hts := atoms_spec (ws := gWs y M) B.pre
  rw [lg_entry_eq]
  exact body p e s m _ below meth c s.heap [] _ ⟨B.exec, B.bytes, hml, by rw [← hyc.1]; exact findClass_of_methodNamed B.named, fun w hw => hts w (List.mem_cons_of_mem _ hw), by rw [← hyc.2]; exact (name_of_methodNamed B.named B.method).1, by rw [hxt, hh]; rfl, B.returns, B.notSynchronized, hK, hS, hb⟩ va_S.rf hR hz (gLs_entry hc hle)
theorem SM.ofH {G : gG} {l : Launch} {d : Nat} {y : MethodName} {M : gM} {av : List Value} {h : gHp} {sz mc ms : Nat} {Q : gRs → gHp → Nat → Prop} {lv0 : List (Option Value)} (hy : plainName y.cls = true) (hh : ¬ M.2.2.2.2.1 = []) (hyc : y.cls = M.2.2.1 ∧ y.name = M.2.2.2.1) (hlv : av.map some ++ List.replicate (M.2.1 - av.length) none = lv0) (hc : ∀ v ∈ av, v.category = 1) (hle : av.length ≤ M.2.1)
    (body : GW G l (gZ G Q mc ms) (gRoom d mc ms) M 0 lv0 [] h sz 0 0) : SM G l d y M av h sz mc ms Q := by
  subst hlv
  refine vx_ofWH (cc := M.1) (maxL := M.2.1) (ret := M.2.2.2.2.2) (hh := M.2.2.2.2.1) (ws' := gW) hy (by unfold gWs; rw [gCode_cons hh]) ?_
  intro p e s m args below meth c s₁ B hml hP
  obtain ⟨rfl, hK, hS, hb, hR, hz⟩ := hP
  have hts := atoms_spec (ws := gWs y M) B.pre
  have hxt := vx_table (x := y) B (by have h9 := hts _ List.mem_cons_self; rw [gCode_cons hh] at h9; exact h9)
  rw [lg_entry_eq]
  exact body p e s m _ below meth c s.heap [] _ ⟨B.exec, B.bytes, hml, by rw [← hyc.1]; exact findClass_of_methodNamed B.named, fun w hw => hts w (List.mem_cons_of_mem _ hw), by rw [← hyc.2]; exact (name_of_methodNamed B.named B.method).1, hxt, B.returns, B.notSynchronized, hK, hS, hb⟩ va_S.rf hR hz (gLs_entry hc hle)
end
