section
-- ===== PART A: goes FIRST, ahead of the names: the tables' words, and 'selects' of the private methods out of them =====
/-- a private method of a class that the tables say can be made, by its rows of tables_1 -/
def lw_okq (q : MethodName × Nat) : Prop := (q.1.cls ≠ "java/lang/invoke/MethodHandle" ∧ q.1.cls ≠ "java/lang/invoke/VarHandle") ∧ Cond.instantiable q.1.cls q.2 ∈ tables_1 ∧ Cond.privateMethod q.1 ∈ tables_1 ∧ Cond.instanceMethod q.1 ∈ tables_1
theorem lw_p0 : lw_okq (⟨"FolderRounds", "stationAt", "(I)LFolderRounds$Station;"⟩, 4) := ⟨⟨by decide +kernel, by decide +kernel⟩, List.mem_of_getElem? (i := 31) (by decide +kernel), List.mem_of_getElem? (i := 144) (by decide +kernel), List.mem_of_getElem? (i := 145) (by decide +kernel)⟩
theorem lw_p1 : lw_okq (⟨"java/lang/Throwable", "fillInStackTrace", "(I)Ljava/lang/Throwable;"⟩, 6) := ⟨⟨by decide +kernel, by decide +kernel⟩, List.mem_of_getElem? (i := 190) (by decide +kernel), List.mem_of_getElem? (i := 188) (by decide +kernel), List.mem_of_getElem? (i := 189) (by decide +kernel)⟩
theorem lw_p2 : lw_okq (⟨"java/util/ArrayList", "fastRemove", "([Ljava/lang/Object;I)V"⟩, 3) := ⟨⟨by decide +kernel, by decide +kernel⟩, List.mem_of_getElem? (i := 46) (by decide +kernel), List.mem_of_getElem? (i := 604) (by decide +kernel), List.mem_of_getElem? (i := 605) (by decide +kernel)⟩
theorem lw_p3 : lw_okq (⟨"java/util/ArrayList", "rangeCheckForAdd", "(I)V"⟩, 3) := ⟨⟨by decide +kernel, by decide +kernel⟩, List.mem_of_getElem? (i := 46) (by decide +kernel), List.mem_of_getElem? (i := 624) (by decide +kernel), List.mem_of_getElem? (i := 625) (by decide +kernel)⟩
theorem lw_p4 : lw_okq (⟨"java/util/ArrayList", "outOfBoundsMsg", "(I)Ljava/lang/String;"⟩, 3) := ⟨⟨by decide +kernel, by decide +kernel⟩, List.mem_of_getElem? (i := 46) (by decide +kernel), List.mem_of_getElem? (i := 637) (by decide +kernel), List.mem_of_getElem? (i := 638) (by decide +kernel)⟩
theorem lw_p5 : lw_okq (⟨"java/util/ArrayList", "grow", "()[Ljava/lang/Object;"⟩, 3) := ⟨⟨by decide +kernel, by decide +kernel⟩, List.mem_of_getElem? (i := 46) (by decide +kernel), List.mem_of_getElem? (i := 654) (by decide +kernel), List.mem_of_getElem? (i := 655) (by decide +kernel)⟩
theorem lw_p6 : lw_okq (⟨"java/util/ArrayList", "grow", "(I)[Ljava/lang/Object;"⟩, 3) := ⟨⟨by decide +kernel, by decide +kernel⟩, List.mem_of_getElem? (i := 46) (by decide +kernel), List.mem_of_getElem? (i := 658) (by decide +kernel), List.mem_of_getElem? (i := 659) (by decide +kernel)⟩
theorem lw_p7 : lw_okq (⟨"FolderRounds", "siblingAt", "(III)LFolderRounds$Version;"⟩, 4) := ⟨⟨by decide +kernel, by decide +kernel⟩, List.mem_of_getElem? (i := 31) (by decide +kernel), List.mem_of_getElem? (i := 726) (by decide +kernel), List.mem_of_getElem? (i := 727) (by decide +kernel)⟩
theorem lw_p8 : lw_okq (⟨"FolderRounds", "cartridgeAt", "(I)LFolderRounds$Cartridge;"⟩, 4) := ⟨⟨by decide +kernel, by decide +kernel⟩, List.mem_of_getElem? (i := 31) (by decide +kernel), List.mem_of_getElem? (i := 756) (by decide +kernel), List.mem_of_getElem? (i := 757) (by decide +kernel)⟩
theorem lw_p9 : lw_okq (⟨"FolderRounds", "goThrough", "(LFolderRounds$Cartridge;LFolderRounds$Station;II)I"⟩, 4) := ⟨⟨by decide +kernel, by decide +kernel⟩, List.mem_of_getElem? (i := 31) (by decide +kernel), List.mem_of_getElem? (i := 761) (by decide +kernel), List.mem_of_getElem? (i := 762) (by decide +kernel)⟩
theorem lw_p10 : lw_okq (⟨"FolderRounds", "unload", "(LFolderRounds$Cartridge;LFolderRounds$Station;I)I"⟩, 4) := ⟨⟨by decide +kernel, by decide +kernel⟩, List.mem_of_getElem? (i := 31) (by decide +kernel), List.mem_of_getElem? (i := 765) (by decide +kernel), List.mem_of_getElem? (i := 766) (by decide +kernel)⟩
theorem lw_p11 : lw_okq (⟨"FolderRounds", "load", "(LFolderRounds$Cartridge;LFolderRounds$Station;II)I"⟩, 4) := ⟨⟨by decide +kernel, by decide +kernel⟩, List.mem_of_getElem? (i := 31) (by decide +kernel), List.mem_of_getElem? (i := 807) (by decide +kernel), List.mem_of_getElem? (i := 808) (by decide +kernel)⟩
theorem lw_p12 : lw_okq (⟨"FolderRounds", "chooseWhatToLoad", "(LFolderRounds$Station;I)V"⟩, 4) := ⟨⟨by decide +kernel, by decide +kernel⟩, List.mem_of_getElem? (i := 31) (by decide +kernel), List.mem_of_getElem? (i := 811) (by decide +kernel), List.mem_of_getElem? (i := 812) (by decide +kernel)⟩
theorem lw_p13 : lw_okq (⟨"FolderRounds", "addBySum", "(LFolderRounds$Version;)V"⟩, 4) := ⟨⟨by decide +kernel, by decide +kernel⟩, List.mem_of_getElem? (i := 31) (by decide +kernel), List.mem_of_getElem? (i := 824) (by decide +kernel), List.mem_of_getElem? (i := 825) (by decide +kernel)⟩
theorem lw_p14 : lw_okq (⟨"java/util/ArrayList", "add", "(Ljava/lang/Object;[Ljava/lang/Object;I)V"⟩, 3) := ⟨⟨by decide +kernel, by decide +kernel⟩, List.mem_of_getElem? (i := 46) (by decide +kernel), List.mem_of_getElem? (i := 850) (by decide +kernel), List.mem_of_getElem? (i := 851) (by decide +kernel)⟩
theorem lw_p15 : lw_okq (⟨"FolderRoundsModel", "make", "(IIII)I"⟩, 12) := ⟨⟨by decide +kernel, by decide +kernel⟩, List.mem_of_getElem? (i := 948) (by decide +kernel), List.mem_of_getElem? (i := 1005) (by decide +kernel), List.mem_of_getElem? (i := 1006) (by decide +kernel)⟩
def lw_privs_1 : List (MethodName × Nat) := [(⟨"FolderRounds", "stationAt", "(I)LFolderRounds$Station;"⟩, 4), (⟨"java/lang/Throwable", "fillInStackTrace", "(I)Ljava/lang/Throwable;"⟩, 6), (⟨"java/util/ArrayList", "fastRemove", "([Ljava/lang/Object;I)V"⟩, 3), (⟨"java/util/ArrayList", "rangeCheckForAdd", "(I)V"⟩, 3), (⟨"java/util/ArrayList", "outOfBoundsMsg", "(I)Ljava/lang/String;"⟩, 3), (⟨"java/util/ArrayList", "grow", "()[Ljava/lang/Object;"⟩, 3), (⟨"java/util/ArrayList", "grow", "(I)[Ljava/lang/Object;"⟩, 3), (⟨"FolderRounds", "siblingAt", "(III)LFolderRounds$Version;"⟩, 4), (⟨"FolderRounds", "cartridgeAt", "(I)LFolderRounds$Cartridge;"⟩, 4), (⟨"FolderRounds", "goThrough", "(LFolderRounds$Cartridge;LFolderRounds$Station;II)I"⟩, 4), (⟨"FolderRounds", "unload", "(LFolderRounds$Cartridge;LFolderRounds$Station;I)I"⟩, 4), (⟨"FolderRounds", "load", "(LFolderRounds$Cartridge;LFolderRounds$Station;II)I"⟩, 4), (⟨"FolderRounds", "chooseWhatToLoad", "(LFolderRounds$Station;I)V"⟩, 4), (⟨"FolderRounds", "addBySum", "(LFolderRounds$Version;)V"⟩, 4), (⟨"java/util/ArrayList", "add", "(Ljava/lang/Object;[Ljava/lang/Object;I)V"⟩, 3), (⟨"FolderRoundsModel", "make", "(IIII)I"⟩, 12)]
theorem lw_r1 : ∀ q ∈ lw_privs_1, lw_okq q := List.forall_mem_cons.mpr ⟨lw_p0, List.forall_mem_cons.mpr ⟨lw_p1, List.forall_mem_cons.mpr ⟨lw_p2, List.forall_mem_cons.mpr ⟨lw_p3, List.forall_mem_cons.mpr ⟨lw_p4, List.forall_mem_cons.mpr ⟨lw_p5, List.forall_mem_cons.mpr ⟨lw_p6, List.forall_mem_cons.mpr ⟨lw_p7, List.forall_mem_cons.mpr ⟨lw_p8, List.forall_mem_cons.mpr ⟨lw_p9, List.forall_mem_cons.mpr ⟨lw_p10, List.forall_mem_cons.mpr ⟨lw_p11, List.forall_mem_cons.mpr ⟨lw_p12, List.forall_mem_cons.mpr ⟨lw_p13, List.forall_mem_cons.mpr ⟨lw_p14, List.forall_mem_cons.mpr ⟨lw_p15, fun _ h => absurd h List.not_mem_nil⟩⟩⟩⟩⟩⟩⟩⟩⟩⟩⟩⟩⟩⟩⟩⟩
theorem lw_p16 : lw_okq (⟨"FolderRoundsModel", "hasRoom", "(II)Z"⟩, 12) := ⟨⟨by decide +kernel, by decide +kernel⟩, List.mem_of_getElem? (i := 948) (by decide +kernel), List.mem_of_getElem? (i := 1012) (by decide +kernel), List.mem_of_getElem? (i := 1013) (by decide +kernel)⟩
theorem lw_p17 : lw_okq (⟨"FolderRoundsModel", "allBytes", "(I)I"⟩, 12) := ⟨⟨by decide +kernel, by decide +kernel⟩, List.mem_of_getElem? (i := 948) (by decide +kernel), List.mem_of_getElem? (i := 1016) (by decide +kernel), List.mem_of_getElem? (i := 1017) (by decide +kernel)⟩
theorem lw_p18 : lw_okq (⟨"FolderRoundsModel", "bytesOf", "(I)I"⟩, 12) := ⟨⟨by decide +kernel, by decide +kernel⟩, List.mem_of_getElem? (i := 948) (by decide +kernel), List.mem_of_getElem? (i := 1020) (by decide +kernel), List.mem_of_getElem? (i := 1021) (by decide +kernel)⟩
theorem lw_p19 : lw_okq (⟨"FolderRoundsModel", "standing", "(III)I"⟩, 12) := ⟨⟨by decide +kernel, by decide +kernel⟩, List.mem_of_getElem? (i := 948) (by decide +kernel), List.mem_of_getElem? (i := 1024) (by decide +kernel), List.mem_of_getElem? (i := 1025) (by decide +kernel)⟩
theorem lw_p20 : lw_okq (⟨"FolderRoundsModel", "covers", "(II)Z"⟩, 12) := ⟨⟨by decide +kernel, by decide +kernel⟩, List.mem_of_getElem? (i := 948) (by decide +kernel), List.mem_of_getElem? (i := 1028) (by decide +kernel), List.mem_of_getElem? (i := 1029) (by decide +kernel)⟩
theorem lw_p21 : lw_okq (⟨"FolderRoundsModel", "counterOf", "(II)I"⟩, 12) := ⟨⟨by decide +kernel, by decide +kernel⟩, List.mem_of_getElem? (i := 948) (by decide +kernel), List.mem_of_getElem? (i := 1032) (by decide +kernel), List.mem_of_getElem? (i := 1033) (by decide +kernel)⟩
theorem lw_p22 : lw_okq (⟨"FolderRoundsModel", "comeToStand", "(II)V"⟩, 12) := ⟨⟨by decide +kernel, by decide +kernel⟩, List.mem_of_getElem? (i := 948) (by decide +kernel), List.mem_of_getElem? (i := 1036) (by decide +kernel), List.mem_of_getElem? (i := 1037) (by decide +kernel)⟩
theorem lw_p23 : lw_okq (⟨"FolderRoundsModel", "count", "(IIZ)I"⟩, 12) := ⟨⟨by decide +kernel, by decide +kernel⟩, List.mem_of_getElem? (i := 948) (by decide +kernel), List.mem_of_getElem? (i := 1048) (by decide +kernel), List.mem_of_getElem? (i := 1049) (by decide +kernel)⟩
theorem lw_p24 : lw_okq (⟨"FolderRoundsModel", "sibling", "(III)I"⟩, 12) := ⟨⟨by decide +kernel, by decide +kernel⟩, List.mem_of_getElem? (i := 948) (by decide +kernel), List.mem_of_getElem? (i := 1056) (by decide +kernel), List.mem_of_getElem? (i := 1057) (by decide +kernel)⟩
theorem lw_p25 : lw_okq (⟨"FolderRoundsModel", "compare", "(II)I"⟩, 12) := ⟨⟨by decide +kernel, by decide +kernel⟩, List.mem_of_getElem? (i := 948) (by decide +kernel), List.mem_of_getElem? (i := 1060) (by decide +kernel), List.mem_of_getElem? (i := 1061) (by decide +kernel)⟩
theorem lw_p26 : lw_okq (⟨"FolderRoundsModel", "visitUpTo", "(IIII)I"⟩, 12) := ⟨⟨by decide +kernel, by decide +kernel⟩, List.mem_of_getElem? (i := 948) (by decide +kernel), List.mem_of_getElem? (i := 1073) (by decide +kernel), List.mem_of_getElem? (i := 1074) (by decide +kernel)⟩
theorem lw_p27 : lw_okq (⟨"FolderRoundsModel", "unload", "(III)I"⟩, 12) := ⟨⟨by decide +kernel, by decide +kernel⟩, List.mem_of_getElem? (i := 948) (by decide +kernel), List.mem_of_getElem? (i := 1077) (by decide +kernel), List.mem_of_getElem? (i := 1078) (by decide +kernel)⟩
theorem lw_p28 : lw_okq (⟨"FolderRoundsModel", "isCovered", "(II)Z"⟩, 12) := ⟨⟨by decide +kernel, by decide +kernel⟩, List.mem_of_getElem? (i := 948) (by decide +kernel), List.mem_of_getElem? (i := 1081) (by decide +kernel), List.mem_of_getElem? (i := 1082) (by decide +kernel)⟩
theorem lw_p29 : lw_okq (⟨"FolderRoundsModel", "learn", "(II)V"⟩, 12) := ⟨⟨by decide +kernel, by decide +kernel⟩, List.mem_of_getElem? (i := 948) (by decide +kernel), List.mem_of_getElem? (i := 1085) (by decide +kernel), List.mem_of_getElem? (i := 1086) (by decide +kernel)⟩
theorem lw_p30 : lw_okq (⟨"FolderRoundsModel", "dropMarks", "(I)V"⟩, 12) := ⟨⟨by decide +kernel, by decide +kernel⟩, List.mem_of_getElem? (i := 948) (by decide +kernel), List.mem_of_getElem? (i := 1089) (by decide +kernel), List.mem_of_getElem? (i := 1090) (by decide +kernel)⟩
theorem lw_p31 : lw_okq (⟨"FolderRoundsModel", "nextToLoad", "(III)I"⟩, 12) := ⟨⟨by decide +kernel, by decide +kernel⟩, List.mem_of_getElem? (i := 948) (by decide +kernel), List.mem_of_getElem? (i := 1093) (by decide +kernel), List.mem_of_getElem? (i := 1094) (by decide +kernel)⟩
def lw_privs_2 : List (MethodName × Nat) := [(⟨"FolderRoundsModel", "hasRoom", "(II)Z"⟩, 12), (⟨"FolderRoundsModel", "allBytes", "(I)I"⟩, 12), (⟨"FolderRoundsModel", "bytesOf", "(I)I"⟩, 12), (⟨"FolderRoundsModel", "standing", "(III)I"⟩, 12), (⟨"FolderRoundsModel", "covers", "(II)Z"⟩, 12), (⟨"FolderRoundsModel", "counterOf", "(II)I"⟩, 12), (⟨"FolderRoundsModel", "comeToStand", "(II)V"⟩, 12), (⟨"FolderRoundsModel", "count", "(IIZ)I"⟩, 12), (⟨"FolderRoundsModel", "sibling", "(III)I"⟩, 12), (⟨"FolderRoundsModel", "compare", "(II)I"⟩, 12), (⟨"FolderRoundsModel", "visitUpTo", "(IIII)I"⟩, 12), (⟨"FolderRoundsModel", "unload", "(III)I"⟩, 12), (⟨"FolderRoundsModel", "isCovered", "(II)Z"⟩, 12), (⟨"FolderRoundsModel", "learn", "(II)V"⟩, 12), (⟨"FolderRoundsModel", "dropMarks", "(I)V"⟩, 12), (⟨"FolderRoundsModel", "nextToLoad", "(III)I"⟩, 12)]
theorem lw_r2 : ∀ q ∈ lw_privs_2, lw_okq q := List.forall_mem_cons.mpr ⟨lw_p16, List.forall_mem_cons.mpr ⟨lw_p17, List.forall_mem_cons.mpr ⟨lw_p18, List.forall_mem_cons.mpr ⟨lw_p19, List.forall_mem_cons.mpr ⟨lw_p20, List.forall_mem_cons.mpr ⟨lw_p21, List.forall_mem_cons.mpr ⟨lw_p22, List.forall_mem_cons.mpr ⟨lw_p23, List.forall_mem_cons.mpr ⟨lw_p24, List.forall_mem_cons.mpr ⟨lw_p25, List.forall_mem_cons.mpr ⟨lw_p26, List.forall_mem_cons.mpr ⟨lw_p27, List.forall_mem_cons.mpr ⟨lw_p28, List.forall_mem_cons.mpr ⟨lw_p29, List.forall_mem_cons.mpr ⟨lw_p30, List.forall_mem_cons.mpr ⟨lw_p31, fun _ h => absurd h List.not_mem_nil⟩⟩⟩⟩⟩⟩⟩⟩⟩⟩⟩⟩⟩⟩⟩⟩
theorem lw_p32 : lw_okq (⟨"FolderRoundsModel", "isLacked", "(III)Z"⟩, 12) := ⟨⟨by decide +kernel, by decide +kernel⟩, List.mem_of_getElem? (i := 948) (by decide +kernel), List.mem_of_getElem? (i := 1097) (by decide +kernel), List.mem_of_getElem? (i := 1098) (by decide +kernel)⟩
theorem lw_p33 : lw_okq (⟨"FolderRoundsModel", "isSooner", "(II)Z"⟩, 12) := ⟨⟨by decide +kernel, by decide +kernel⟩, List.mem_of_getElem? (i := 948) (by decide +kernel), List.mem_of_getElem? (i := 1101) (by decide +kernel), List.mem_of_getElem? (i := 1102) (by decide +kernel)⟩
theorem lw_p34 : lw_okq (⟨"FolderRoundsModel", "sumOf", "(I)I"⟩, 12) := ⟨⟨by decide +kernel, by decide +kernel⟩, List.mem_of_getElem? (i := 948) (by decide +kernel), List.mem_of_getElem? (i := 1105) (by decide +kernel), List.mem_of_getElem? (i := 1106) (by decide +kernel)⟩
theorem lw_p35 : lw_okq (⟨"FolderRoundsModel", "roomOf", "(I)I"⟩, 12) := ⟨⟨by decide +kernel, by decide +kernel⟩, List.mem_of_getElem? (i := 948) (by decide +kernel), List.mem_of_getElem? (i := 1109) (by decide +kernel), List.mem_of_getElem? (i := 1110) (by decide +kernel)⟩
def lw_privs_3 : List (MethodName × Nat) := [(⟨"FolderRoundsModel", "isLacked", "(III)Z"⟩, 12), (⟨"FolderRoundsModel", "isSooner", "(II)Z"⟩, 12), (⟨"FolderRoundsModel", "sumOf", "(I)I"⟩, 12), (⟨"FolderRoundsModel", "roomOf", "(I)I"⟩, 12)]
theorem lw_r3 : ∀ q ∈ lw_privs_3, lw_okq q := List.forall_mem_cons.mpr ⟨lw_p32, List.forall_mem_cons.mpr ⟨lw_p33, List.forall_mem_cons.mpr ⟨lw_p34, List.forall_mem_cons.mpr ⟨lw_p35, fun _ h => absurd h List.not_mem_nil⟩⟩⟩⟩
def lw_privs : List (MethodName × Nat) := lw_privs_1 ++ (lw_privs_2 ++ (lw_privs_3))
def lw_tbl : List Cond := k2_sels lw_privs ++ tables_1
theorem lw_privs_ok : ∀ q ∈ lw_privs, lw_okq q := by
  show ∀ q ∈ lw_privs_1 ++ (lw_privs_2 ++ (lw_privs_3)), lw_okq q
  exact List.forall_mem_append.mpr ⟨lw_r1, List.forall_mem_append.mpr ⟨lw_r2, lw_r3⟩⟩
end
section
/-! ===== BEGIN words of one list among another's, by their places ===== -/
theorem goodIn_r {big : List Cond} (ws : List Cond) (ps : List Nat) (hp : ws = ps.filterMap (fun i => big[i]?)) (h : ws.all goodWord = true) : GoodIn big ws := by
  intro w hw
  have h1 := List.all_eq_true.mp h w hw
  rw [hp] at hw
  obtain ⟨i, -, hi⟩ := List.mem_filterMap.mp hw
  have hm : w ∈ big := by first | exact List.mem_of_getElem? hi | exact List.getElem?_mem hi
  exact ⟨hm, good_of_word h1⟩
theorem goodIn_app {big a b : List Cond} (ha : GoodIn big a) (hb : GoodIn big b) : GoodIn big (a ++ b) := fun w h => (List.mem_append.mp h).elim (ha w) (hb w)
theorem goodIn_ca {big a b : List Cond} {c : Cond} (ha : GoodIn big (c :: a)) (hb : GoodIn big b) : GoodIn big (c :: (a ++ b)) := fun w h => (List.mem_cons.mp h).elim (fun e => ha w (List.mem_cons.mpr (Or.inl e))) (fun h => (List.mem_append.mp h).elim (fun h => ha w (List.mem_cons.mpr (Or.inr h))) (hb w))
theorem goodIn_sub {big ws : List Cond} (hm : ∀ w ∈ ws, w ∈ big) (h : ws.all goodWord = true) : GoodIn big ws := fun w hw => ⟨hm w hw, good_of_word (List.all_eq_true.mp h w hw)⟩
/-! ===== END ===== -/

/-! ===== BEGIN exceptions that leave a method, and their catching by the caller (launches without stack traces) ===== -/
section VXA
/-! The laws vx_back, vx_callV, vx_callS, vx_callSW, vx_throw0, vx_throwS follow proofs of the library, with one case more: JvmDerived/Free/Laws.lean (Back.of_free), Shelf42/LK1.lean (callV, callS), Shelf/KitTraced.lean (throwNew0V, throwNewS). -/
/-- where a method has thrown q: the class by its name, the cell, what was written, the world -/
def vx_T (XC : String → State → State → Prop) (st : State) (q : Addr) (t : State) (mc ms : Nat) (free : Addr → Prop) : Prop :=
  ∃ (E : String) (ce : Cell) (L : List Loc), XC E st t ∧ t.heap[q]? = some ce ∧ ce.vm = .none ∧ st.vm.findClass E = some ce.cls ∧ st.WarmedH t.vm ∧ st.sameButNew ({ t with vm := st.vm } : State) L mc ms ∧ ∀ z ∈ L, free z.base
def vx_Q (Qc : Array Value → State → Outcome → State → Prop) (XC : String → State → State → Prop) (mc ms : Nat) (free : Addr → Prop) : Array Value → State → Outcome → State → Prop := fun a st o t =>
  (Qc a st o t ∧ ∃ L, FrameEnd st o t L mc ms ∧ ∀ q ∈ L, free q.base) ∨ ∃ q, o = .threw q ∧ vx_T XC st q t mc ms free
/-- a callee that returns or throws -/
def vx_Met (l : Launch) (y : MethodName) (ws : List Cond) (rm : Room) (Pc : Array Value → State → Prop) (Qc : Array Value → State → Outcome → State → Prop) (XC : String → State → State → Prop) (mc ms : Nat) (free : Addr → Prop) : Prop :=
  MetFree l y (headSpec ws rm) Pc (fun _ _ _ _ _ => True) (vx_Q Qc XC mc ms free)
def vx_Post (XC : String → State → State → Prop) (mc ms : Nat) (free : Addr → Prop) : Pt → Array Value → Addr → Pt → Prop := fun A a q B =>
  ∃ (g : JFrame) (mk : MethodId) (t : State) (L : List Loc) (E : String) (ce : Cell), B.U.heap = t.heap ∧ B.U.vm = t.vm ∧ XC E (A.U.calling g mk a) t ∧ t.heap[q]? = some ce ∧ ce.vm = .none ∧ A.U.vm.findClass E = some ce.cls ∧ B.locs = A.locs ++ L ∧ (∀ z ∈ L, free z.base) ∧ B.cells = A.cells + mc ∧ B.slots = A.slots + ms
def vx_Back (l : Launch) (R : Room) (p : Program) (e : Env) (below : List Frame) (s : State) (sargs : Array Value) (y : MethodName) (len W9 : Nat)
    (Pre : Pt → Array Value → Prop) (Post : Pt → Array Value → Option Value → Pt → Prop) (PostX : Pt → Array Value → Addr → Pt → Prop) : Prop :=
  ∀ (m : MethodId) (meth : Method) (c : Code) (A : Pt) (g : JFrame) (ig : Instr) (mk : MethodId) (a : Array Value),
    Stand p l e R s m sargs below meth c A.U A.locs A.cells A.slots → g.method = m → g.locals.size = c.maxLocals → decode c.code g.pc = .ok (ig, len) →
    2 * g.monitorRoom + (g.stack.map fun v => v.category).sum ≤ W9 → A.U.methodNamed? y = some mk → Pre A a →
    (∃ (v : Option Value) (B : Pt), Stand p l e R s m sargs below meth c B.U B.locs B.cells B.slots ∧ Post A a v B ∧
      Steps p.tables e below (doInvoke e (A.U.setTop g) [] mk a).1 (B.U.setTop { g with pc := g.pc + len, stack := v.toList ++ g.stack })) ∨
    (∃ (q : Addr) (B : Pt), Stand p l e R s m sargs below meth c B.U B.locs B.cells B.slots ∧ PostX A a q B ∧
      Steps p.tables e below (doInvoke e (A.U.setTop g) [] mk a).1 ((B.U.setTop g).pushFrame (.throwing q)))
section Payer
variable {l : Launch} {R : Room} {p : Program} {e : Env} {below : List Frame} {s : State} {sargs : Array Value} {y : MethodName} {len W9 : Nat}
theorem vx_back {ws : List Cond} {rm : Room} {Pc : Array Value → State → Prop} {Qc : Array Value → State → Outcome → State → Prop} {XC : String → State → State → Prop} {mc ms : Nat} {free : Addr → Prop} {bytes : ByteArray} {maxL : Nat} {ret : Option FieldType}
    (hM : vx_Met l y ws rm Pc Qc XC mc ms free) (hblind : FrameBlind Pc) (hrc : rm.cells = mc) (hrs : rm.slots = ms)
    (hframes : rm.frames + 1 ≤ R.frames) (hlocals : W9 + (maxL + 11) + rm.locals ≤ R.locals)
    (hws : ∀ w ∈ ws, ∀ a' U, s.WarmedH U.vm → w.before a' U = true) (hcode : Cond.code y bytes maxL ret ∈ ws) (hinit : ∀ a' U, s.WarmedH U.vm → (Cond.initialized y.cls).before a' U = true) :
    vx_Back l R p e below s sargs y len W9 (PreOf R mc ms Pc) (PostOf Qc mc ms free) (vx_Post XC mc ms free) := by
  intro m meth c A g ig mk a X hg hsize hdg hW hn hp
  have h1 : (headSpec ws rm).pre.before a A.U = true := atoms_intro fun w hw => hws w hw _ _ X.warmed
  have h2 : (Cond.code y bytes maxL ret).before a A.U = true := hws _ hcode _ _ X.warmed
  have h3 : (Cond.initialized y.cls).before a A.U = true := hinit _ _ X.warmed
  have h4 : A.cells + (headSpec ws rm).room.cells ≤ R.cells := by rw [show (headSpec ws rm).room.cells = mc from hrc]; exact hp.1
  have h5 : A.slots + (headSpec ws rm).room.slots ≤ R.slots := by rw [show (headSpec ws rm).room.slots = ms from hrs]; exact hp.2.1
  have hPc : Pc a (A.U.calling g mk a) := hblind _ _ _ _ hp.2.2
  obtain ⟨U, Ls, c0, s0⟩ := A
  dsimp only [Pt.U, Pt.locs, Pt.cells, Pt.slots] at h1 h2 h3 h4 h5 X hn hPc ⊢
  obtain ⟨methY, cY, hmY, hcY, -, hlY, -, -, -, -⟩ := Cond.code_spec hn h2
  obtain ⟨kY, hkY, -⟩ := className_of_methodNamed hn
  have hinitY : kY.init = .initialized := Cond.initialized_spec (findClass_of_methodNamed hn) hkY h3
  have h : At U g.method c below := by rw [hg]; exact X.here
  have hlocals9 : W9 + (maxL + 11) + (headSpec ws rm).room.locals ≤ R.locals := hlocals
  have happ : (headSpec ws rm).appliesLoose y e.platform (U.calling g mk a) = true :=
    Spec.appliesLoose_calling (g := g) h hdg hn hkY hinitY
      (X.room_calling (g := g) (R' := (headSpec ws rm).room) hsize hmY hcY hframes (by rw [hlY]; omega) h4 h5) h1
  obtain ⟨mid, hmid⟩ := h.above
  have hfr : (U.setTop g).frames = (.java g :: mid) ++ below := by rw [State.frames_setTop' g h.top, hmid]; rfl
  obtain ⟨o, s₂, hsteps, -, hend, hq⟩ := Steps.callFree hM p X.admits X.cas X.clock (acts := []) hfr happ hPc trivial
  have hq' : vx_Q Qc XC mc ms free a (U.calling g mk a) o s₂ := hq
  rw [State.frames_setTop' g h.top] at hend
  obtain ⟨g₀, hg0⟩ := Option.isSome_iff_exists.mp h.top
  obtain ⟨r, hr⟩ := State.topJava?_eq_some.mp hg0
  have hr' : (({ U with heap := s₂.heap, slotsUsed := s₂.slotsUsed } : State).setVm s₂.vm).frames = .java g₀ :: r := hr
  rcases hq' with ⟨hqc, L, hfe, hL⟩ | ⟨q, rfl, E, ce, L, hx, hce, hcv, hcl, hW₂, hsm, hL⟩
  · obtain ⟨⟨v, rfl⟩, hW₂, e2, q2, q3, q4, q5, q6⟩ := id hfe
    have e3 : s₂ = ({ (U.calling g mk a).setFrames s₂.frames with heap := s₂.heap, slotsUsed := s₂.slotsUsed } : State).setVm s₂.vm := by
      have : s₂ = ({ s₂ with vm := (U.calling g mk a).vm } : State).setVm s₂.vm := rfl
      rw [e2] at this
      exact this
    obtain ⟨c₂, i₂, len₂, hc₂, hd₂, hf₂⟩ := hend
    have hW' : U.WarmedH s₂.vm := hW₂
    have hcc : c₂ = c := by
      have h1 : s₂.code? g.method = U.code? g.method := by
        rw [State.code?_eq, State.code?_eq, hW'.alike.method?]
      exact Option.some.inj (hc₂.symm.trans (h1.trans h.code))
    subst hcc
    have hlen : len₂ = len := by rw [hdg] at hd₂; cases hd₂; rfl
    subst hlen
    have hs₂ : s₂ = (({ U with heap := s₂.heap, slotsUsed := s₂.slotsUsed } : State).setVm s₂.vm).setTop { g with pc := g.pc + len₂, stack := v.toList ++ g.stack } := by
      refine e3.trans ?_
      rw [hf₂, State.calling_eq h.top, State.setFrames_setFrames, State.setTop_of_frames _ hr', hr]
      rfl
    have hsame : U.sameButNew ({ U with heap := s₂.heap, slotsUsed := s₂.slotsUsed } : State) L mc ms := by
      refine ⟨?_, q2, q3, q4, q5, q6⟩
      obtain ⟨t, ht, -⟩ := State.frames_cons hr
      show ({ U with heap := s₂.heap, slotsUsed := s₂.slotsUsed } : State) = { U.setFrames U.frames with heap := s₂.heap, slotsUsed := s₂.slotsUsed }
      rw [State.setFrames_self ht]
    subst hg
    refine Or.inl ⟨v, ⟨(({ U with heap := s₂.heap, slotsUsed := s₂.slotsUsed } : State).setVm s₂.vm), Ls ++ L, c0 + mc, s0 + ms⟩,
      ⟨X.admits, X.cas, X.clock, X.frames, X.room, X.hears, X.method, X.code, (X.here.setHeapUsed s₂.heap s₂.slotsUsed).setVm hW'.alike, X.tail, State.WarmedH.trans X.warmed hW', X.limits, X.bytes, X.same.trans (hsame.setVm s.vm)⟩,
      ⟨g, mk, s₂, L, rfl, rfl, hqc, rfl, hL, rfl, rfl⟩, ?_⟩
    show Steps p.tables e below _ ((({ U with heap := s₂.heap, slotsUsed := s₂.slotsUsed } : State).setVm s₂.vm).setTop { g with pc := g.pc + len₂, stack := v.toList ++ g.stack })
    rw [← hs₂]
    exact hsteps
  · obtain ⟨e2, q2, q3, q4, q5, q6⟩ := id hsm
    have e3 : s₂ = ({ (U.calling g mk a).setFrames s₂.frames with heap := s₂.heap, slotsUsed := s₂.slotsUsed } : State).setVm s₂.vm := by
      have : s₂ = ({ s₂ with vm := (U.calling g mk a).vm } : State).setVm s₂.vm := rfl
      rw [e2] at this
      exact this
    have hf₂ : s₂.frames = .throwing q :: .java g :: U.frames.tail := hend
    have hW' : U.WarmedH s₂.vm := hW₂
    have hs₂ : s₂ = ((({ U with heap := s₂.heap, slotsUsed := s₂.slotsUsed } : State).setVm s₂.vm).setTop g).pushFrame (.throwing q) := by
      refine e3.trans ?_
      rw [hf₂, State.calling_eq h.top, State.setFrames_setFrames, State.pushFrame, State.frames_setTop _ hr', State.setTop_of_frames _ hr', State.setFrames_setFrames, hr]
      rfl
    have hsame : U.sameButNew ({ U with heap := s₂.heap, slotsUsed := s₂.slotsUsed } : State) L mc ms := by
      refine ⟨?_, q2, q3, q4, q5, q6⟩
      obtain ⟨t, ht, -⟩ := State.frames_cons hr
      show ({ U with heap := s₂.heap, slotsUsed := s₂.slotsUsed } : State) = { U.setFrames U.frames with heap := s₂.heap, slotsUsed := s₂.slotsUsed }
      rw [State.setFrames_self ht]
    subst hg
    refine Or.inr ⟨q, ⟨(({ U with heap := s₂.heap, slotsUsed := s₂.slotsUsed } : State).setVm s₂.vm), Ls ++ L, c0 + mc, s0 + ms⟩,
      ⟨X.admits, X.cas, X.clock, X.frames, X.room, X.hears, X.method, X.code, (X.here.setHeapUsed s₂.heap s₂.slotsUsed).setVm hW'.alike, X.tail, State.WarmedH.trans X.warmed hW', X.limits, X.bytes, X.same.trans (hsame.setVm s.vm)⟩,
      ⟨g, mk, s₂, L, E, ce, rfl, rfl, hx, hce, hcv, hcl, rfl, hL, rfl, rfl⟩, ?_⟩
    show Steps p.tables e below _ (((({ U with heap := s₂.heap, slotsUsed := s₂.slotsUsed } : State).setVm s₂.vm).setTop g).pushFrame (.throwing q))
    rw [← hs₂]
    exact hsteps
end Payer
section Calls
variable {p : Program} {l : Launch} {e : Env} {R : Room} {s : State} {m : MethodId} {args : Array Value} {below : List Frame} {meth : Method} {c : Code} {T : State} {locs : List Loc} {cells slots : Nat}
theorem vx_callV (X : Stand p l e R s m args below meth c T locs cells slots) (hexec : p.tables.exec = Jvm.exec) {own C : String} {index : Nat} {y : MethodName} {bytes : ByteArray} {maxL : Nat} {ret : Option FieldType}
    (hown : s.vm.findClass own = some m.cls) (hlink : (Cond.methodLink own index y).before args s = true) (hinst : (Cond.instanceMethod y).before args s = true) (hsel : (Cond.selects C y y).before args s = true)
    (hcode : (Cond.code y bytes maxL ret).before args s = true) (hy : y.cls ≠ "java/lang/invoke/MethodHandle" ∧ y.cls ≠ "java/lang/invoke/VarHandle")
    {W9 : Nat} {Pre : Pt → Array Value → Prop} {Post : Pt → Array Value → Option Value → Pt → Prop} {PostX : Pt → Array Value → Addr → Pt → Prop} (hK : vx_Back l R p e below s args y 3 W9 Pre Post PostX)
    {b : Addr} {cellB : Cell} (hcell : T.heap[b]? = some cellB) (hobj : cellB.vm.isStatics = false) (hcls : s.vm.findClass C = some cellB.cls)
    {g : JFrame} (hg : g.method = m) (hsize : g.locals.size = c.maxLocals) {argsL rest : List Value} (hlen : ∀ sig, parseMethodDescriptor y.desc = some sig → argsL.length = sig.parameters.length)
    (hstack : g.stack = argsL.reverse ++ .ref b :: rest) (hW : 2 * g.monitorRoom + (rest.map fun v => v.category).sum ≤ W9) (hdg : decode c.code g.pc = .ok (.invokevirtual index, 3))
    (hpre : ∀ vm₁, s.WarmedH vm₁ → Pre ⟨T.setVm vm₁, locs, cells, slots⟩ (Value.ref b :: argsL).toArray) :
    (∃ (v : Option Value) (vm₁ : Vm) (B : Pt), s.WarmedH vm₁ ∧ Stand p l e R s m args below meth c B.U B.locs B.cells B.slots ∧ Post ⟨T.setVm vm₁, locs, cells, slots⟩ (Value.ref b :: argsL).toArray v B ∧
      ∀ target, Steps p.tables e below (B.U.setTop { g with pc := g.pc + 3, stack := v.toList ++ rest }) target → Steps p.tables e below (T.setTop g) target) ∨
    (∃ (q : Addr) (vm₁ : Vm) (B : Pt), s.WarmedH vm₁ ∧ Stand p l e R s m args below meth c B.U B.locs B.cells B.slots ∧ PostX ⟨T.setVm vm₁, locs, cells, slots⟩ (Value.ref b :: argsL).toArray q B ∧
      Steps p.tables e below (T.setTop g) ((B.U.setTop { g with stack := rest }).pushFrame (.throwing q))) := by
  obtain ⟨mk, methM, hnamed, hmethM, hstM, habM⟩ := Cond.instanceMethod_spec hinst
  obtain ⟨methM', cM, hmethM', -, -, -, -, -, -, hsigM⟩ := Cond.code_spec hnamed hcode
  cases hmethM.symm.trans hmethM'
  obtain ⟨c2, r2, m2, q1, q2, q3, q4, kP, hkP, hkPi⟩ := Cond.selects_spec hsel
  cases hcls.symm.trans q1
  cases (State.methodFound?_of_named hnamed hy).symm.trans q2
  cases hnamed.symm.trans q3
  have hselP : selectMethod e.platform s.vm cellB.cls mk = .method mk := by rw [Launch.admits_selectMethod X.admits]; exact q4
  obtain ⟨vm₁, X₁, hstep₁⟩ := X.invokevirtual hexec hown hlink hnamed hmethM hstM hkP hkPi hy (a := b) (cell := cellB) hcell
    (fun z h => by rw [h] at hobj; cases hobj) hselP hmethM habM hkP hkPi (g := g) hg (argsL := argsL) (rest := rest) (hlen _ hsigM) hstack hdg
  rcases hK m meth c ⟨T.setVm vm₁, locs, cells, slots⟩ { g with stack := rest } (.invokevirtual index) mk (Value.ref b :: argsL).toArray X₁ hg hsize hdg hW (X₁.named hnamed) (hpre vm₁ X₁.warmed) with ⟨v, B, X', hpost, hsteps⟩ | ⟨q, B, X', hpost, hsteps⟩
  · exact Or.inl ⟨v, vm₁, B, X₁.warmed, X', hpost, fun target h => hstep₁ _ fun acts => by rw [doInvoke_state]; exact hsteps.trans h⟩
  · exact Or.inr ⟨q, vm₁, B, X₁.warmed, X', hpost, hstep₁ _ fun acts => by rw [doInvoke_state]; exact hsteps⟩
theorem vx_callS (X : Stand p l e R s m args below meth c T locs cells slots) (hexec : p.tables.exec = Jvm.exec) {own : String} {index : Nat} {y : MethodName} {bytes : ByteArray} {maxL : Nat} {ret : Option FieldType}
    (hown : s.vm.findClass own = some m.cls) (hlink : (Cond.methodLink own index y).before args s = true) (hstat : (Cond.static y).before args s = true) (hinit : (Cond.initialized y.cls).before args s = true)
    (hcode : (Cond.code y bytes maxL ret).before args s = true) (hy : y.cls ≠ "java/lang/invoke/MethodHandle" ∧ y.cls ≠ "java/lang/invoke/VarHandle")
    {W9 : Nat} {Pre : Pt → Array Value → Prop} {Post : Pt → Array Value → Option Value → Pt → Prop} {PostX : Pt → Array Value → Addr → Pt → Prop} (hK : vx_Back l R p e below s args y 3 W9 Pre Post PostX)
    {g : JFrame} (hg : g.method = m) (hsize : g.locals.size = c.maxLocals) {argsL rest : List Value} (hlen : ∀ sig, parseMethodDescriptor y.desc = some sig → argsL.length = sig.parameters.length)
    (hstack : g.stack = argsL.reverse ++ rest) (hW : 2 * g.monitorRoom + (rest.map fun v => v.category).sum ≤ W9) (hdg : decode c.code g.pc = .ok (.invokestatic index, 3))
    (hpre : ∀ vm₁, s.WarmedH vm₁ → Pre ⟨T.setVm vm₁, locs, cells, slots⟩ argsL.toArray) :
    (∃ (v : Option Value) (vm₁ : Vm) (B : Pt), s.WarmedH vm₁ ∧ Stand p l e R s m args below meth c B.U B.locs B.cells B.slots ∧ Post ⟨T.setVm vm₁, locs, cells, slots⟩ argsL.toArray v B ∧
      ∀ target, Steps p.tables e below (B.U.setTop { g with pc := g.pc + 3, stack := v.toList ++ rest }) target → Steps p.tables e below (T.setTop g) target) ∨
    (∃ (q : Addr) (vm₁ : Vm) (B : Pt), s.WarmedH vm₁ ∧ Stand p l e R s m args below meth c B.U B.locs B.cells B.slots ∧ PostX ⟨T.setVm vm₁, locs, cells, slots⟩ argsL.toArray q B ∧
      Steps p.tables e below (T.setTop g) ((B.U.setTop { g with stack := rest }).pushFrame (.throwing q))) := by
  obtain ⟨mk, hnamed⟩ := Cond.code_named hcode
  obtain ⟨methM, cM, hmethM, -, -, -, -, -, -, hsigM⟩ := Cond.code_spec hnamed hcode
  have hstatic : methM.isStatic = true := Cond.static_spec hnamed hmethM hstat
  obtain ⟨kP, hkP, -⟩ := className_of_methodNamed hnamed
  have hinitP : kP.init = .initialized := Cond.initialized_spec (findClass_of_methodNamed hnamed) hkP hinit
  obtain ⟨vm₁, X₁, hstep₁⟩ := X.invokestatic hexec hown hlink hnamed hmethM hstatic hkP hinitP hy (g := g) hg (argsL := argsL) (rest := rest) (hlen _ hsigM) hstack hdg
  rcases hK m meth c ⟨T.setVm vm₁, locs, cells, slots⟩ { g with stack := rest } (.invokestatic index) mk argsL.toArray X₁ hg hsize hdg hW (X₁.named hnamed) (hpre vm₁ X₁.warmed) with ⟨v, B, X', hpost, hsteps⟩ | ⟨q, B, X', hpost, hsteps⟩
  · exact Or.inl ⟨v, vm₁, B, X₁.warmed, X', hpost, fun target h => hstep₁ _ fun acts => by rw [doInvoke_state]; exact hsteps.trans h⟩
  · exact Or.inr ⟨q, vm₁, B, X₁.warmed, X', hpost, hstep₁ _ fun acts => by rw [doInvoke_state]; exact hsteps⟩
end Calls
theorem vx_cls {s : State} {T : State} {vm₁ : Vm} {E : String} {k : ClassId} (hW : s.WarmedH vm₁) (h : (T.setVm vm₁).vm.findClass E = some k) : s.vm.findClass E = some k := by
  have h1 : vm₁.findClass E = some k := h
  rw [hW.alike.findClass] at h1
  exact h1
/-- the method's frame g, with q thrown over it -/
def vx_W (p : Program) (l : Launch) (e : Env) (R : Room) (s : State) (m : MethodId) (args : Array Value) (below : List Frame) (meth : Method) (c : Code) (H : Heap) (locs : List Loc) (cells slots : Nat) (Q : State → Prop) (g : JFrame) (q : Addr) : Prop :=
  ∀ T : State, T.heap = H → Stand p l e R s m args below meth c T locs cells slots → ∃ t, Steps p.tables e below ((T.setTop g).pushFrame (.throwing q)) t ∧ Q t
def vx_Run (p : Program) (l : Launch) (e : Env) (R : Room) (s : State) (m : MethodId) (args : Array Value) (below : List Frame) (meth : Method) (c : Code) (H : Heap) (locs : List Loc) (cells slots mc ms : Nat) (g : JFrame) (rest : List Value) (Qa : State → Outcome → State → Prop) (XC : String → State → State → Prop) (free : Addr → Prop) : Prop :=
  ∀ T : State, T.heap = H → Stand p l e R s m args below meth c T locs cells slots →
    (∃ (v : Option Value) (st₀ t T' : State) (L : List Loc), st₀.heap = H ∧ Stand p l e R s m args below meth c T' (locs ++ L) (cells + mc) (slots + ms) ∧ (∀ q ∈ L, free q.base) ∧ T'.heap = t.heap ∧ T'.vm = t.vm ∧ Qa st₀ (.returned v) t ∧
      Goes p e below T g T' { g with pc := g.pc + 3, stack := v.toList ++ rest }) ∨
    (∃ (q : Addr) (st₀ t T' : State) (L : List Loc) (E : String) (ce : Cell), st₀.heap = H ∧ Stand p l e R s m args below meth c T' (locs ++ L) (cells + mc) (slots + ms) ∧ (∀ z ∈ L, free z.base) ∧ T'.heap = t.heap ∧ T'.vm = t.vm ∧ XC E st₀ t ∧ t.heap[q]? = some ce ∧ ce.vm = .none ∧ s.vm.findClass E = some ce.cls ∧
      Steps p.tables e below (T.setTop g) ((T'.setTop { g with stack := rest }).pushFrame (.throwing q)))
def vx_X {S : Type} (px : S → Prop) (B : String → S → State → Prop) (A : Nat → Prop) : String → State → State → Prop := fun E st t => ∃ u : S, px u ∧ B E u t ∧ va_F A st t
section Runs
variable {p : Program} {l : Launch} {e : Env} {R : Room} {s : State} {m : MethodId} {args : Array Value} {below : List Frame} {meth : Method} {c : Code} {H : Heap} {locs : List Loc} {cells slots : Nat}
variable {y : MethodName} {bytes cc : ByteArray} {maxL nL mc ms n index : Nat} {ret : Option FieldType} {ws : List Cond} {rm : Room} {Pc : Array Value → State → Prop} {Qc : Array Value → State → Outcome → State → Prop} {XC : String → State → State → Prop} {free : Addr → Prop} {Ts : List Cond} {own C : String} {b : Addr} {As rest : List Value} {g : JFrame}
theorem vx_callBack (cb : CallB R s args own index y bytes maxL ret ws rm mc ms n) (hM : vx_Met l y ws rm Pc Qc XC mc ms free) (hbl : FrameBlind Pc) : vx_Back l R p e below s args y 3 8 (PreOf R mc ms Pc) (PostOf Qc mc ms free) (vx_Post XC mc ms free) := by
  obtain ⟨hrc, hrs, hfr, hlo, hws, hcw, -, hini, -⟩ := cb
  exact vx_back (bytes := bytes) (maxL := maxL) (ret := ret) hM hbl hrc hrs hfr hlo hws hcw (fun a' U hW => word_at hW (Or.inl (by first | rfl | simp [Cond.onTables, Cond.keeps, Cond.steady])) hini)
theorem vx_runV (S : CallFix p m c cc nL s args Ts own) (hM : vx_Met l y ws rm Pc Qc XC mc ms free) (cw : CallW R s args own C index y bytes maxL ret ws rm mc ms n) (hp : PreV s H C b Pc As)
    (hg : g.method = m) (hn : As.length = n) (hsize : g.locals.size = nL) (hstack : g.stack = As.reverse ++ .ref b :: rest) (hW : 2 * g.monitorRoom + (rest.map fun v => v.category).sum ≤ 8) (hdg : decode cc g.pc = .ok (.invokevirtual index, 3)) (hf : cells + mc ≤ R.cells ∧ slots + ms ≤ R.slots) :
    vx_Run p l e R s m args below meth c H locs cells slots mc ms g rest (Qc (Value.ref b :: As).toArray) XC free := by
  have hK : vx_Back l R p e below s args y 3 8 (PreOf R mc ms Pc) (PostOf Qc mc ms free) (vx_Post XC mc ms free) := vx_callBack cw.1 hM hp.1
  obtain ⟨⟨-, -, -, -, -, -, hcode, -, hy, hlen, hl⟩, hin, hse⟩ := cw
  obtain ⟨hx, hb, hml, ho, -⟩ := S
  obtain ⟨-, ⟨cellB, hcB, hoB, hclB⟩, hPc⟩ := hp
  intro T hT X
  rcases vx_callV X hx (C := C) (bytes := bytes) (maxL := maxL) (ret := ret) ho hl hin hse hcode hy hK (by rw [hT]; exact hcB) hoB hclB hg (hsize.trans hml.symm) (argsL := As) (rest := rest) (fun sig h => hn.trans (hlen sig h)) hstack hW (by rw [hb]; exact hdg)
    (fun vm₁ hW₁ => ⟨hf.1, hf.2, hPc (T.setVm vm₁) hT hW₁⟩) with ⟨v, vm₁, ⟨U', l2, c2, s2⟩, hW₁, X', ⟨g', mk, t, L, e1, e2, hq, h1, hL, h2, h3⟩, st⟩ | ⟨q, vm₁, ⟨U', l2, c2, s2⟩, hW₁, X', ⟨g', mk, t, L, E, ce, e1, e2, hq, hce, hcv, hcl, h1, hL, h2, h3⟩, st⟩
  · dsimp only [Pt.U, Pt.locs, Pt.cells, Pt.slots] at X' e1 e2 h1 h2 h3 st
    subst h1; subst h2; subst h3
    exact Or.inl ⟨v, (T.setVm vm₁).calling g' mk (Value.ref b :: As).toArray, t, U', L, hT, X', hL, e1, e2, hq, st⟩
  · dsimp only [Pt.U, Pt.locs, Pt.cells, Pt.slots] at X' e1 e2 h1 h2 h3 st hcl
    subst h1; subst h2; subst h3
    exact Or.inr ⟨q, (T.setVm vm₁).calling g' mk (Value.ref b :: As).toArray, t, U', L, E, ce, hT, X', hL, e1, e2, hq, hce, hcv, vx_cls hW₁ hcl, st⟩
theorem vx_runS (S : CallFix p m c cc nL s args Ts own) (hM : vx_Met l y ws rm Pc Qc XC mc ms free) (cw : CallB R s args own index y bytes maxL ret ws rm mc ms n ∧ (Cond.static y).before args s = true) (hp : PreS s H Pc As)
    (hg : g.method = m) (hn : As.length = n) (hsize : g.locals.size = nL) (hstack : g.stack = As.reverse ++ rest) (hW : 2 * g.monitorRoom + (rest.map fun v => v.category).sum ≤ 8) (hdg : decode cc g.pc = .ok (.invokestatic index, 3)) (hf : cells + mc ≤ R.cells ∧ slots + ms ≤ R.slots) :
    vx_Run p l e R s m args below meth c H locs cells slots mc ms g rest (Qc As.toArray) XC free := by
  have hK : vx_Back l R p e below s args y 3 8 (PreOf R mc ms Pc) (PostOf Qc mc ms free) (vx_Post XC mc ms free) := vx_callBack cw.1 hM hp.1
  obtain ⟨⟨-, -, -, -, -, -, hcode, hini, hy, hlen, hl⟩, hstt⟩ := cw
  obtain ⟨hx, hb, hml, ho, -⟩ := S
  intro T hT X
  rcases vx_callS X hx (bytes := bytes) (maxL := maxL) (ret := ret) ho hl hstt hini hcode hy hK hg (hsize.trans hml.symm) (argsL := As) (rest := rest) (fun sig h => hn.trans (hlen sig h)) hstack hW (by rw [hb]; exact hdg)
    (fun vm₁ hW₁ => ⟨hf.1, hf.2, hp.2 (T.setVm vm₁) hT hW₁⟩) with ⟨v, vm₁, ⟨U', l2, c2, s2⟩, hW₁, X', ⟨g', mk, t, L, e1, e2, hq, h1, hL, h2, h3⟩, st⟩ | ⟨q, vm₁, ⟨U', l2, c2, s2⟩, hW₁, X', ⟨g', mk, t, L, E, ce, e1, e2, hq, hce, hcv, hcl, h1, hL, h2, h3⟩, st⟩
  · dsimp only [Pt.U, Pt.locs, Pt.cells, Pt.slots] at X' e1 e2 h1 h2 h3 st
    subst h1; subst h2; subst h3
    exact Or.inl ⟨v, (T.setVm vm₁).calling g' mk As.toArray, t, U', L, hT, X', hL, e1, e2, hq, st⟩
  · dsimp only [Pt.U, Pt.locs, Pt.cells, Pt.slots] at X' e1 e2 h1 h2 h3 st hcl
    subst h1; subst h2; subst h3
    exact Or.inr ⟨q, (T.setVm vm₁).calling g' mk As.toArray, t, U', L, E, ce, hT, X', hL, e1, e2, hq, hce, hcv, vx_cls hW₁ hcl, st⟩
end Runs
section Rows
variable {p : Program} {l : Launch} {e : Env} {R : Room} {s : State} {m : MethodId} {args : Array Value} {below : List Frame} {meth : Method} {c : Code} {H : Heap} {locs : List Loc} {cells slots : Nat} {Q : State → Prop}
variable {mc ms : Nat} {free : Addr → Prop} {A0 A1 : Nat → Prop} {H0 : Heap} {a : Array Value} {pc : Nat} {ls : Array Slot} {st0 rest : List Value}
theorem vx_keep {st₀ t T' : State} {L : List Loc} (h0 : st₀.heap = H) (e1 : T'.heap = t.heap) (hS : va_S A0 H0 H locs) (hA : ∀ q, q < H.size → A1 q → A0 q) (hf : ∀ q, free q → A0 q) (hL : ∀ q ∈ L, free q.base) (hF : va_F A1 st₀ t) :
    H.size ≤ T'.heap.size ∧ (∀ q : Nat, q < H.size → ¬ A1 q → T'.heap[q]? = H[q]?) ∧ va_S A0 H0 T'.heap (locs ++ L) := by
  obtain ⟨hz, hk⟩ := hF
  rw [h0] at hz hk
  exact ⟨by rw [e1]; exact hz, fun q h1 h2 => by rw [e1]; exact hk q h1 h2,
    ⟨Nat.le_trans hS.1 (by rw [e1]; exact hz), fun q h1 h2 => by rw [e1, hk q (Nat.lt_of_lt_of_le h1 hS.1) (fun z => h2 (hA q (Nat.lt_of_lt_of_le h1 hS.1) z))]; exact hS.2.1 q h1 h2, fun q hq => by
      rcases List.mem_append.mp hq with h | h
      · exact hS.2.2 q h
      · exact hf _ (hL q h)⟩⟩
theorem vx_calli {S SX : Type} {post : Int32 → S → Prop} {px : SX → Prop} {B : S → State → Prop} {BX : String → SX → State → Prop} {AX : Nat → Prop} (hr : vx_Run p l e R s m args below meth c H locs cells slots mc ms (F0 m pc ls st0) rest (va_Qi post B A1 a) (vx_X px BX AX) free) (hS : va_S A0 H0 H locs) (hA : ∀ q, q < H.size → A1 q → A0 q) (hf : ∀ q, free q → A0 q) (hAX : ∀ q, q < H.size → AX q → A0 q)
    (kx : ∀ (E : String) (ce : Cell) (q9 : Addr) (u : SX) (t : State) (H1 : Heap) (locs1 : List Loc), t.heap = H1 → s.vm.Alike t.vm → px u → BX E u t → H.size ≤ H1.size → (∀ q : Nat, q < H.size → ¬ AX q → H1[q]? = H[q]?) → va_S A0 H0 H1 locs1 → H1[q9]? = some ce → ce.vm = .none → s.vm.findClass E = some ce.cls → vx_W p l e R s m args below meth c H1 locs1 (cells + mc) (slots + ms) Q (F0 m pc ls rest) q9)
    (kk : ∀ (r : Int32) (u : S) (t : State) (H1 : Heap) (locs1 : List Loc), t.heap = H1 → s.vm.Alike t.vm → post r u → B u t → H.size ≤ H1.size → (∀ q : Nat, q < H.size → ¬ A1 q → H1[q]? = H[q]?) → va_S A0 H0 H1 locs1 → W p l e R s m args below meth c H1 locs1 (cells + mc) (slots + ms) Q (F0 m (pc + 3) ls (.int r :: rest))) : W p l e R s m args below meth c H locs cells slots Q (F0 m pc ls st0) := by
  intro T hT X
  rcases hr T hT X with ⟨v, st₀, t, T', L, h0, X', hL, e1, e2, ⟨⟨r, u, hv, hp, hb⟩, hF⟩, st⟩ | ⟨q, st₀, t, T', L, E, ce, h0, X', hL, e1, e2, ⟨u, hp, hb, hF⟩, hce, hcv, hcl, st⟩
  · cases hv
    obtain ⟨k1, k2, k3⟩ := vx_keep h0 e1 hS hA hf hL hF
    obtain ⟨t2, a1, b1⟩ := kk r u t T'.heap (locs ++ L) e1.symm (by rw [← e2]; exact X'.warmed.alike) hp hb k1 k2 k3 T' rfl X'
    exact ⟨t2, st t2 a1, b1⟩
  · obtain ⟨k1, k2, k3⟩ := vx_keep h0 e1 hS hAX hf hL hF
    obtain ⟨t2, a1, b1⟩ := kx E ce q u t T'.heap (locs ++ L) e1.symm (by rw [← e2]; exact X'.warmed.alike) hp hb k1 k2 k3 (by rw [e1]; exact hce) hcv hcl T' rfl X'
    exact ⟨t2, st.trans a1, b1⟩
theorem vx_calll {S SX : Type} {post : Int64 → S → Prop} {px : SX → Prop} {B : S → State → Prop} {BX : String → SX → State → Prop} {AX : Nat → Prop} (hr : vx_Run p l e R s m args below meth c H locs cells slots mc ms (F0 m pc ls st0) rest (va_Ql post B A1 a) (vx_X px BX AX) free) (hS : va_S A0 H0 H locs) (hA : ∀ q, q < H.size → A1 q → A0 q) (hf : ∀ q, free q → A0 q) (hAX : ∀ q, q < H.size → AX q → A0 q)
    (kx : ∀ (E : String) (ce : Cell) (q9 : Addr) (u : SX) (t : State) (H1 : Heap) (locs1 : List Loc), t.heap = H1 → s.vm.Alike t.vm → px u → BX E u t → H.size ≤ H1.size → (∀ q : Nat, q < H.size → ¬ AX q → H1[q]? = H[q]?) → va_S A0 H0 H1 locs1 → H1[q9]? = some ce → ce.vm = .none → s.vm.findClass E = some ce.cls → vx_W p l e R s m args below meth c H1 locs1 (cells + mc) (slots + ms) Q (F0 m pc ls rest) q9)
    (kk : ∀ (r : Int64) (u : S) (t : State) (H1 : Heap) (locs1 : List Loc), t.heap = H1 → s.vm.Alike t.vm → post r u → B u t → H.size ≤ H1.size → (∀ q : Nat, q < H.size → ¬ A1 q → H1[q]? = H[q]?) → va_S A0 H0 H1 locs1 → W p l e R s m args below meth c H1 locs1 (cells + mc) (slots + ms) Q (F0 m (pc + 3) ls (.long r :: rest))) : W p l e R s m args below meth c H locs cells slots Q (F0 m pc ls st0) := by
  intro T hT X
  rcases hr T hT X with ⟨v, st₀, t, T', L, h0, X', hL, e1, e2, ⟨⟨r, u, hv, hp, hb⟩, hF⟩, st⟩ | ⟨q, st₀, t, T', L, E, ce, h0, X', hL, e1, e2, ⟨u, hp, hb, hF⟩, hce, hcv, hcl, st⟩
  · cases hv
    obtain ⟨k1, k2, k3⟩ := vx_keep h0 e1 hS hA hf hL hF
    obtain ⟨t2, a1, b1⟩ := kk r u t T'.heap (locs ++ L) e1.symm (by rw [← e2]; exact X'.warmed.alike) hp hb k1 k2 k3 T' rfl X'
    exact ⟨t2, st t2 a1, b1⟩
  · obtain ⟨k1, k2, k3⟩ := vx_keep h0 e1 hS hAX hf hL hF
    obtain ⟨t2, a1, b1⟩ := kx E ce q u t T'.heap (locs ++ L) e1.symm (by rw [← e2]; exact X'.warmed.alike) hp hb k1 k2 k3 (by rw [e1]; exact hce) hcv hcl T' rfl X'
    exact ⟨t2, st.trans a1, b1⟩
theorem vx_callf {S SX : Type} {post : UInt32 → S → Prop} {px : SX → Prop} {B : S → State → Prop} {BX : String → SX → State → Prop} {AX : Nat → Prop} (hr : vx_Run p l e R s m args below meth c H locs cells slots mc ms (F0 m pc ls st0) rest (va_Qf post B A1 a) (vx_X px BX AX) free) (hS : va_S A0 H0 H locs) (hA : ∀ q, q < H.size → A1 q → A0 q) (hf : ∀ q, free q → A0 q) (hAX : ∀ q, q < H.size → AX q → A0 q)
    (kx : ∀ (E : String) (ce : Cell) (q9 : Addr) (u : SX) (t : State) (H1 : Heap) (locs1 : List Loc), t.heap = H1 → s.vm.Alike t.vm → px u → BX E u t → H.size ≤ H1.size → (∀ q : Nat, q < H.size → ¬ AX q → H1[q]? = H[q]?) → va_S A0 H0 H1 locs1 → H1[q9]? = some ce → ce.vm = .none → s.vm.findClass E = some ce.cls → vx_W p l e R s m args below meth c H1 locs1 (cells + mc) (slots + ms) Q (F0 m pc ls rest) q9)
    (kk : ∀ (r : UInt32) (u : S) (t : State) (H1 : Heap) (locs1 : List Loc), t.heap = H1 → s.vm.Alike t.vm → post r u → B u t → H.size ≤ H1.size → (∀ q : Nat, q < H.size → ¬ A1 q → H1[q]? = H[q]?) → va_S A0 H0 H1 locs1 → W p l e R s m args below meth c H1 locs1 (cells + mc) (slots + ms) Q (F0 m (pc + 3) ls (.float r :: rest))) : W p l e R s m args below meth c H locs cells slots Q (F0 m pc ls st0) := by
  intro T hT X
  rcases hr T hT X with ⟨v, st₀, t, T', L, h0, X', hL, e1, e2, ⟨⟨r, u, hv, hp, hb⟩, hF⟩, st⟩ | ⟨q, st₀, t, T', L, E, ce, h0, X', hL, e1, e2, ⟨u, hp, hb, hF⟩, hce, hcv, hcl, st⟩
  · cases hv
    obtain ⟨k1, k2, k3⟩ := vx_keep h0 e1 hS hA hf hL hF
    obtain ⟨t2, a1, b1⟩ := kk r u t T'.heap (locs ++ L) e1.symm (by rw [← e2]; exact X'.warmed.alike) hp hb k1 k2 k3 T' rfl X'
    exact ⟨t2, st t2 a1, b1⟩
  · obtain ⟨k1, k2, k3⟩ := vx_keep h0 e1 hS hAX hf hL hF
    obtain ⟨t2, a1, b1⟩ := kx E ce q u t T'.heap (locs ++ L) e1.symm (by rw [← e2]; exact X'.warmed.alike) hp hb k1 k2 k3 (by rw [e1]; exact hce) hcv hcl T' rfl X'
    exact ⟨t2, st.trans a1, b1⟩
theorem vx_calld {S SX : Type} {post : UInt64 → S → Prop} {px : SX → Prop} {B : S → State → Prop} {BX : String → SX → State → Prop} {AX : Nat → Prop} (hr : vx_Run p l e R s m args below meth c H locs cells slots mc ms (F0 m pc ls st0) rest (va_Qd post B A1 a) (vx_X px BX AX) free) (hS : va_S A0 H0 H locs) (hA : ∀ q, q < H.size → A1 q → A0 q) (hf : ∀ q, free q → A0 q) (hAX : ∀ q, q < H.size → AX q → A0 q)
    (kx : ∀ (E : String) (ce : Cell) (q9 : Addr) (u : SX) (t : State) (H1 : Heap) (locs1 : List Loc), t.heap = H1 → s.vm.Alike t.vm → px u → BX E u t → H.size ≤ H1.size → (∀ q : Nat, q < H.size → ¬ AX q → H1[q]? = H[q]?) → va_S A0 H0 H1 locs1 → H1[q9]? = some ce → ce.vm = .none → s.vm.findClass E = some ce.cls → vx_W p l e R s m args below meth c H1 locs1 (cells + mc) (slots + ms) Q (F0 m pc ls rest) q9)
    (kk : ∀ (r : UInt64) (u : S) (t : State) (H1 : Heap) (locs1 : List Loc), t.heap = H1 → s.vm.Alike t.vm → post r u → B u t → H.size ≤ H1.size → (∀ q : Nat, q < H.size → ¬ A1 q → H1[q]? = H[q]?) → va_S A0 H0 H1 locs1 → W p l e R s m args below meth c H1 locs1 (cells + mc) (slots + ms) Q (F0 m (pc + 3) ls (.double r :: rest))) : W p l e R s m args below meth c H locs cells slots Q (F0 m pc ls st0) := by
  intro T hT X
  rcases hr T hT X with ⟨v, st₀, t, T', L, h0, X', hL, e1, e2, ⟨⟨r, u, hv, hp, hb⟩, hF⟩, st⟩ | ⟨q, st₀, t, T', L, E, ce, h0, X', hL, e1, e2, ⟨u, hp, hb, hF⟩, hce, hcv, hcl, st⟩
  · cases hv
    obtain ⟨k1, k2, k3⟩ := vx_keep h0 e1 hS hA hf hL hF
    obtain ⟨t2, a1, b1⟩ := kk r u t T'.heap (locs ++ L) e1.symm (by rw [← e2]; exact X'.warmed.alike) hp hb k1 k2 k3 T' rfl X'
    exact ⟨t2, st t2 a1, b1⟩
  · obtain ⟨k1, k2, k3⟩ := vx_keep h0 e1 hS hAX hf hL hF
    obtain ⟨t2, a1, b1⟩ := kx E ce q u t T'.heap (locs ++ L) e1.symm (by rw [← e2]; exact X'.warmed.alike) hp hb k1 k2 k3 (by rw [e1]; exact hce) hcv hcl T' rfl X'
    exact ⟨t2, st.trans a1, b1⟩
theorem vx_callv {S SX : Type} {post : S → Prop} {px : SX → Prop} {B : S → State → Prop} {BX : String → SX → State → Prop} {AX : Nat → Prop} (hr : vx_Run p l e R s m args below meth c H locs cells slots mc ms (F0 m pc ls st0) rest (va_Qv post B A1 a) (vx_X px BX AX) free) (hS : va_S A0 H0 H locs) (hA : ∀ q, q < H.size → A1 q → A0 q) (hf : ∀ q, free q → A0 q) (hAX : ∀ q, q < H.size → AX q → A0 q)
    (kx : ∀ (E : String) (ce : Cell) (q9 : Addr) (u : SX) (t : State) (H1 : Heap) (locs1 : List Loc), t.heap = H1 → s.vm.Alike t.vm → px u → BX E u t → H.size ≤ H1.size → (∀ q : Nat, q < H.size → ¬ AX q → H1[q]? = H[q]?) → va_S A0 H0 H1 locs1 → H1[q9]? = some ce → ce.vm = .none → s.vm.findClass E = some ce.cls → vx_W p l e R s m args below meth c H1 locs1 (cells + mc) (slots + ms) Q (F0 m pc ls rest) q9)
    (kk : ∀ (u : S) (t : State) (H1 : Heap) (locs1 : List Loc), t.heap = H1 → s.vm.Alike t.vm → post u → B u t → H.size ≤ H1.size → (∀ q : Nat, q < H.size → ¬ A1 q → H1[q]? = H[q]?) → va_S A0 H0 H1 locs1 → W p l e R s m args below meth c H1 locs1 (cells + mc) (slots + ms) Q (F0 m (pc + 3) ls (rest))) : W p l e R s m args below meth c H locs cells slots Q (F0 m pc ls st0) := by
  intro T hT X
  rcases hr T hT X with ⟨v, st₀, t, T', L, h0, X', hL, e1, e2, ⟨⟨u, hv, hp, hb⟩, hF⟩, st⟩ | ⟨q, st₀, t, T', L, E, ce, h0, X', hL, e1, e2, ⟨u, hp, hb, hF⟩, hce, hcv, hcl, st⟩
  · cases hv
    obtain ⟨k1, k2, k3⟩ := vx_keep h0 e1 hS hA hf hL hF
    obtain ⟨t2, a1, b1⟩ := kk u t T'.heap (locs ++ L) e1.symm (by rw [← e2]; exact X'.warmed.alike) hp hb k1 k2 k3 T' rfl X'
    exact ⟨t2, st t2 a1, b1⟩
  · obtain ⟨k1, k2, k3⟩ := vx_keep h0 e1 hS hAX hf hL hF
    obtain ⟨t2, a1, b1⟩ := kx E ce q u t T'.heap (locs ++ L) e1.symm (by rw [← e2]; exact X'.warmed.alike) hp hb k1 k2 k3 (by rw [e1]; exact hce) hcv hcl T' rfl X'
    exact ⟨t2, st.trans a1, b1⟩
/-- caught by the row x of this method's table; the rows ahead don't take it -/
theorem vx_catch {own name : String} {E : String} {ce : Cell} {q : Addr} (hown : s.vm.findClass own = some m.cls) (pre : List ExceptionTableEntry) (x : ExceptionTableEntry) (suf : List ExceptionTableEntry) (hsplit : c.exceptionTable.toList = pre ++ x :: suf)
    (hpass : ∀ z ∈ pre, covers z pc = false ∨ (z.catchType ≠ 0 ∧ ∃ nm : String, (Cond.classLink own z.catchType nm).before args s = true ∧ va_Nc E nm s)) (hx : covers x pc = true) (h0 : x.catchType ≠ 0)
    (hlink : (Cond.classLink own x.catchType name).before args s = true) (hcast : (Cond.castable E name).before args s = true) (hcell : H[q]? = some ce) (hv : ce.vm = .none) (hcl : s.vm.findClass E = some ce.cls)
    (kk : W p l e R s m args below meth c H locs cells slots Q (F0 m x.handlerPc ls [.ref q])) : vx_W p l e R s m args below meth c H locs cells slots Q (F0 m pc ls rest) q := by
  intro T hT X
  have hpl : e.platform.magicAccessors = ({} : Platform).magicAccessors := by rw [X.admits.platform]
  obtain ⟨c3, c4, hc3, hc4, hasg⟩ := Cond.castable_spec hcast
  cases Option.some.inj (hc3.symm.trans hcl)
  obtain ⟨c5, hc5, hcl5⟩ := Cond.classLink_spec hown hlink e.platform hpl
  cases Option.some.inj (hc4.symm.trans hc5)
  obtain ⟨vm', X', st⟩ := Jvm.Stand.thenCaughtThrough X q (g := F0 m pc ls rest) rfl (Steps.refl _) (by rw [hT]; exact hcell) (by rw [hv]; rfl) (by obtain ⟨k9, h9, -⟩ := Vm.findClass_spec hcl; exact ⟨k9, h9⟩) pre x suf hsplit
    (fun z hz => by
      rcases hpass z hz with h | ⟨hz0, nm, hl1, hn1⟩
      · exact Or.inl h
      · obtain ⟨c6, hc6, hcl6⟩ := Cond.classLink_spec hown hl1 e.platform hpl
        obtain ⟨a8, b8, h1, h2, h3⟩ := hn1
        cases Option.some.inj (h1.symm.trans hcl)
        cases Option.some.inj (h2.symm.trans hc6)
        exact Or.inr ⟨hz0, _, hcl6, h3⟩) hx (Or.inr ⟨h0, c4, hcl5, hasg⟩)
  obtain ⟨t, a1, b1⟩ := kk (T.setVm vm') hT X'
  exact ⟨t, st.trans a1, b1⟩
end Rows
section Ends
variable {p : Program} {l : Launch} {e : Env} {R : Room} {s : State} {m : MethodId} {args : Array Value} {below : List Frame} {meth : Method} {c : Code} {H : Heap} {locs : List Loc} {cells slots : Nat} {Q : State → Prop}
variable {mc ms : Nat} {free : Addr → Prop} {A0 A1 : Nat → Prop} {H0 : Heap} {a : Array Value} {ls : Array Slot} {st0 rest : List Value}
variable {Qc : Array Value → State → Outcome → State → Prop} {XC : String → State → State → Prop}
/-- what a body that may throw owes at its end -/
def vx_MQ (below : List Frame) (Qc : Array Value → State → Outcome → State → Prop) (XC : String → State → State → Prop) (a : Array Value) (s : State) (mc ms : Nat) (free : Addr → Prop) : State → Prop := fun t =>
  ∃ o, t.status = .running ∧ Ended t below o ∧ vx_Q Qc XC mc ms free a s o t
theorem vx_ret {g : JFrame} {mc ms : Nat} (k : W p l e R s m args below meth c H locs cells slots (MQ below Qc args s mc ms free) g) : W p l e R s m args below meth c H locs cells slots (vx_MQ below Qc XC args s mc ms free) g := by
  intro T hT X
  obtain ⟨t, a1, o, b1, b2, b3, b4⟩ := k T hT X
  exact ⟨t, a1, o, b1, b2, Or.inl ⟨b3, b4⟩⟩
/-- not caught here: it goes on to the caller -/
theorem vx_widen {g : JFrame} {q : Addr} {k n : Nat} (h1 : cells ≤ k) (h2 : slots ≤ n) (kk : vx_W p l e R s m args below meth c H locs k n Q g q) : vx_W p l e R s m args below meth c H locs cells slots Q g q := fun T hT X => kk T hT (stand_widen X h1 h2)
theorem vx_out {pc : Nat} {E : String} {ce : Cell} {q : Addr} {mc ms : Nat} (hout : ∀ x ∈ c.exceptionTable.toList, covers x pc = false) (hlocks : meth.locks = false) (hcell : H[q]? = some ce) (hv : ce.vm = .none) (hcl : s.vm.findClass E = some ce.cls)
    (hx : ∀ t : State, t.heap = H → s.vm.Alike t.vm → XC E s t) (hf : ∀ z ∈ locs, free z.base) (hc : cells ≤ mc) (hs : slots ≤ ms) :
    vx_W p l e R s m args below meth c H locs cells slots (vx_MQ below Qc XC args s mc ms free) (F0 m pc ls rest) q := by
  intro T hT X
  obtain ⟨st1, hrun, hend, hW, hsm⟩ := X.leaveThrown q (g := F0 m pc ls rest) rfl rfl rfl hout hlocks
  have hcell9 : (T.setFrames (.throwing q :: below)).heap[q]? = some ce := by
    show T.heap[q]? = some ce
    rw [hT]; exact hcell
  exact ⟨_, st1, .threw q, hrun, hend, Or.inr ⟨q, rfl, E, ce, locs, hx _ hT hW.alike, hcell9, hv, hcl, hW, hsm.mono hc hs, hf⟩⟩
theorem vx_frame {U : State} {k n : Nat} (h : s.sameButNew ({ U with vm := s.vm } : State) locs k n) : s.heap.size ≤ U.heap.size ∧ ∀ q : Nat, q < s.heap.size → (∀ z ∈ locs, z.base ≠ q) → U.heap[q]? = s.heap[q]? := by
  obtain ⟨-, h2, -, -, -, h6⟩ := h
  refine ⟨h2, fun q hq hz => ?_⟩
  obtain ⟨c9, e1, e2, e3, e4⟩ := h6 q _ (Array.getElem?_eq_getElem hq)
  have hs : c9.slots = (s.heap[q]).slots := Array.ext_getElem? fun i => e4 i fun hm => hz _ hm rfl
  have h9 : c9 = s.heap[q] := by
    rw [hs] at e2
    exact e2
  have e5 : U.heap[q]? = some c9 := e1
  rw [e5, h9, Array.getElem?_eq_getElem hq]
/-- the words of a throw but the four that speak of the heap -/
def vx_no (w : Cond) : Bool := decide (w ≠ .isRef (.static Bundle.tN "UNASSIGNED_STACK" Bundle.steD)) && decide (w ≠ .isRef (.static Bundle.tN "SUPPRESSED_SENTINEL" Bundle.listD)) && decide (w ≠ .laysStatic Bundle.tN "UNASSIGNED_STACK" Bundle.steD) && decide (w ≠ .laysStatic Bundle.tN "SUPPRESSED_SENTINEL" Bundle.listD)
def vx_at0 (own : String) (ic : Nat) (X : String) (names : List String) : List Cond := (Bundle.ownAtoms0 own ic X names).filter vx_no
def vx_atS (own : String) (ic : Nat) (X : String) (names : List String) : List Cond := (Bundle.ownAtoms own ic X names).filter vx_no
/-- a word that the tables alone decide, or a good one -/
def vx_ot (w : Cond) : Bool := w.onTables || goodWord w
theorem vx_ot_at {args a' : Array Value} {s U : State} {w : Cond} (hW : s.WarmedH U.vm) (hvm : s.vm = U.vm) (hg : vx_ot w = true) (h : w.before args s = true) : w.before a' U = true := by
  simp only [vx_ot, Bool.or_eq_true] at hg
  rcases hg with hg | hg
  · exact va_tabs hg hvm h
  · exact word_at hW (good_of_word hg) h
/-- a list's words: the good ones out of the method's own list, the others by premises of their own -/
theorem vx_hat {args : Array Value} {s : State} {L B : List Cond} (h1 : ∀ w ∈ L.filter goodWord, w.before args s = true) (h2 : ∀ w ∈ L.filter (fun w => !goodWord w), w ∈ B) (h3 : ∀ w ∈ B, w.before args s = true) : ∀ w ∈ L, w.before args s = true := by
  intro w hw
  by_cases g : goodWord w = true
  · exact h1 w (List.mem_filter.mpr ⟨hw, g⟩)
  · refine h3 w (h2 w (List.mem_filter.mpr ⟨hw, ?_⟩))
    show (!goodWord w) = true
    cases hgw : goodWord w
    · rfl
    · exact absurd hgw g
theorem vx_c {args : Array Value} {s : State} {w : Cond} {B : List Cond} (h : w.before args s = true) (t : ∀ w ∈ B, w.before args s = true) : ∀ w' ∈ w :: B, w'.before args s = true := fun w' h' => (List.mem_cons.mp h').elim (fun e => by rw [e]; exact h) (t w')
theorem vx_n {args : Array Value} {s : State} : ∀ w ∈ ([] : List Cond), w.before args s = true := fun _ h => nomatch h
theorem vx_own {args : Array Value} {s : State} {L : List Cond} (h1 : ∀ w ∈ L.filter vx_no, w.before args s = true)
    (hU : (Cond.isRef (.static Bundle.tN "UNASSIGNED_STACK" Bundle.steD)).before args s = true) (hN : (Cond.isRef (.static Bundle.tN "SUPPRESSED_SENTINEL" Bundle.listD)).before args s = true)
    (lU : (Cond.laysStatic Bundle.tN "UNASSIGNED_STACK" Bundle.steD).before args s = true) (lN : (Cond.laysStatic Bundle.tN "SUPPRESSED_SENTINEL" Bundle.listD).before args s = true) : ∀ w ∈ L, w.before args s = true := by
  intro w hw
  by_cases e1 : w = .isRef (.static Bundle.tN "UNASSIGNED_STACK" Bundle.steD)
  · rw [e1]; exact hU
  · by_cases e2 : w = .isRef (.static Bundle.tN "SUPPRESSED_SENTINEL" Bundle.listD)
    · rw [e2]; exact hN
    · by_cases e3 : w = .laysStatic Bundle.tN "UNASSIGNED_STACK" Bundle.steD
      · rw [e3]; exact lU
      · by_cases e4 : w = .laysStatic Bundle.tN "SUPPRESSED_SENTINEL" Bundle.listD
        · rw [e4]; exact lN
        · exact h1 w (List.mem_filter.mpr ⟨hw, by unfold vx_no; rw [decide_eq_true e1, decide_eq_true e2, decide_eq_true e3, decide_eq_true e4]; rfl⟩)
/-- where a static field lies, its class's statics cell in H -/
def vx_L (C n d : String) (A : Nat → Prop) (U : State) (H : Heap) : Prop := ∃ (c : ClassId) (k : Class) (i : Nat) (f : Field) (a : Nat) (cell : Cell), U.vm.findClass C = some c ∧ U.fieldFound? C n d = some (c, k, i, f) ∧ f.isStatic = true ∧ k.statics = some a ∧ H[a]? = some cell ∧ cell.vm.isStatics = true ∧ cell.cls = c ∧ f.slot < cell.slots.size ∧ k.staticTypes[f.slot]? = some f.type ∧ ¬ A a
theorem vx_L.moved {C n d : String} {A : Nat → Prop} {u U : State} {H : Heap} (hvm : u.vm.Alike U.vm) (h : vx_L C n d A u H) : vx_L C n d A U H := by
  obtain ⟨c, k, i, f, a, cell, h1, h2, h3, h4, h5, h6, h7, h8, h9, h10⟩ := h
  obtain ⟨k', hi', he⟩ := State.fieldFound?_setVm hvm h2
  exact ⟨c, k', i, f, a, cell, by rw [hvm.findClass]; exact h1, hi', h3, by rw [he]; exact h4, h5, h6, h7, h8, by rw [he]; exact h9, h10⟩
theorem vx_L.kept {C n d : String} {A : Nat → Prop} {U : State} {H H1 : Heap} (h : vx_L C n d A U H) (hq : ∀ a : Nat, a < H.size → ¬ A a → H1[a]? = H[a]?) : vx_L C n d A U H1 := by
  obtain ⟨c, k, i, f, a, cell, h1, h2, h3, h4, h5, h6, h7, h8, h9, h10⟩ := h
  exact ⟨c, k, i, f, a, cell, h1, h2, h3, h4, by rw [hq a (Array.getElem?_eq_some_iff.mp h5).1 h10]; exact h5, h6, h7, h8, h9, h10⟩
theorem vx_L.narrow {C n d : String} {A B : Nat → Prop} {U : State} {H : Heap} (h : vx_L C n d A U H) (hAB : ∀ q, B q → A q) : vx_L C n d B U H := by
  obtain ⟨c, k, i, f, a, cell, h1, h2, h3, h4, h5, h6, h7, h8, h9, h10⟩ := h
  exact ⟨c, k, i, f, a, cell, h1, h2, h3, h4, h5, h6, h7, h8, h9, fun z => h10 (hAB _ z)⟩
theorem vx_L.word {C n d : String} {A : Nat → Prop} {s : State} {args : Array Value} (h : vx_L C n d A s s.heap) : (Cond.laysStatic C n d).before args s = true := by
  obtain ⟨c, k, i, f, a, cell, h1, h2, h3, h4, h5, h6, h7, h8, h9, -⟩ := h
  show (Cond.laysStatic C n d).holds args s none s [] = true
  exact Cond.laysStatic_of h1 h2 h3 h4 h5 h6 h7 h8 h9
/-- .. and what it holds: null or some reference -/
def vx_Zq (C n d : String) (A : Nat → Prop) (U : State) (H : Heap) : Prop := va_Zq C n d A U H ∧ vx_L C n d A U H
theorem vx_Zq.moved {C n d : String} {A : Nat → Prop} {u U : State} {H : Heap} (hvm : u.vm.Alike U.vm) (h : vx_Zq C n d A u H) : vx_Zq C n d A U H := ⟨va_Zq.moved hvm h.1, vx_L.moved hvm h.2⟩
theorem vx_Zq.kept {C n d : String} {A : Nat → Prop} {U : State} {H H1 : Heap} (h : vx_Zq C n d A U H) (hq : ∀ a : Nat, a < H.size → ¬ A a → H1[a]? = H[a]?) : vx_Zq C n d A U H1 := ⟨va_Zq.kept h.1 hq, vx_L.kept h.2 hq⟩
theorem vx_Zq.narrow {C n d : String} {A B : Nat → Prop} {U : State} {H : Heap} (h : vx_Zq C n d A U H) (hAB : ∀ q, B q → A q) : vx_Zq C n d B U H := ⟨va_Zq.narrow h.1 hAB, vx_L.narrow h.2 hAB⟩
theorem vx_Zqof {args : Array Value} {s : State} {C n d : String} {A : Nat → Prop} (hl : (Cond.laysStatic C n d).before args s = true) (hini : (Cond.initialized C).before args s = true) (h : (Cond.isRef (.static C n d)).before args s = true) (hA : ∀ a : Nat, a < s.heap.size → ¬ A a) : vx_Zq C n d A s s.heap := by
  refine ⟨va_Zqof hl hini h hA, ?_⟩
  obtain ⟨c, k, i, f, a, cell, h1, h2, h3, h4, h5, h6, h7, h8, h9⟩ := Cond.laysStatic_spec hl
  exact ⟨c, k, i, f, a, cell, h1, h2, h3, h4, h5, h6, h7, h8, h9, hA a (Array.getElem?_eq_some_iff.mp h5).1⟩
theorem vx_isRef {C n d : String} {v : Value} {A : Nat → Prop} {s : State} {args : Array Value} (h : va_Z C n d v A s s.heap) (hv : v.isRef = true) : (Cond.isRef (.static C n d)).before args s = true := by
  obtain ⟨cf, kf, fi, f, a, cell, h1, h2, h3, h4, h5, h6, h7, -⟩ := h
  have he : (Term.static C n d).eval args s none [] s = some v := by
    simp [Term.eval, State.fieldNamed?, h1, h2, h4, h5, h6, h7]
  simp only [Cond.before, Cond.holds, Cond.value, he]
  cases v <;> simp_all [Value.isRef]
theorem vx_isRefq {C n d : String} {A : Nat → Prop} {s : State} {args : Array Value} (h : va_Zq C n d A s s.heap) : (Cond.isRef (.static C n d)).before args s = true := by
  rcases h with h | ⟨t, h⟩
  · exact vx_isRef h rfl
  · exact vx_isRef h rfl
/-- the same frame, seen from here: as if the method were called anew in this heap -/
theorem vx_rebase {T : State} (X : Stand p l e R s m args below meth c T locs cells slots) {R' : Room} (hf : R'.frames ≤ R.frames) (hl : R'.locals ≤ R.locals) (hc : cells + R'.cells ≤ R.cells) (hs : slots + R'.slots ≤ R.slots) :
    Stand p l e R' ((T.setVm s.vm).setFrames (.invoking m args :: below)) m args below meth c T [] 0 0 := by
  have htop : (T.setVm s.vm).topJava?.isSome := X.here.top
  have hF : ((T.setVm s.vm).setFrames (.invoking m args :: below)).frames = .invoking m args :: below := State.frames_setFrames _ (State.cur_lt_of_top htop)
  obtain ⟨g₀, hg0⟩ := Option.isSome_iff_exists.mp htop
  obtain ⟨r, hr⟩ := State.topJava?_eq_some.mp hg0
  have hl9 : e.platform.stackLimits (T.setVm s.vm).me = e.platform.stackLimits s.me := X.limits
  have hb9 : (T.setVm s.vm).me.stackBytes = s.me.stackBytes := X.bytes
  refine ⟨X.admits, X.cas, X.clock, hF, ?_, X.hears, X.method, X.code, X.here, X.tail, X.warmed, ?_, ?_, ?_⟩
  · have h := X.room
    have hU : ((T.setVm s.vm).setFrames (.invoking m args :: below)).localsInUse = s.localsInUse := by
      rw [State.localsInUse_invoking hF (meth := meth) (c := c) X.method X.code, State.localsInUse_invoking X.frames X.method X.code]
    simp only [State.hasRoom, Bool.and_eq_true, decide_eq_true_eq] at h ⊢
    obtain ⟨⟨⟨⟨h1, h2, h3, h4, h5, h6⟩, h7⟩, h8⟩, h9⟩ := h
    rw [X.frames, List.length_cons] at h2 h3
    have q1 := X.heapSize
    have q2 := X.used
    simp only [hF, hU, List.length_cons, State.stackLimits_setFrames, State.stackBytes_setFrames, hl9, hb9]
    refine ⟨⟨⟨⟨by omega, by omega, by omega, by omega, by omega, h6⟩, ?_⟩, ?_⟩, X.book⟩
    · show T.heap.size + R'.cells ≤ e.platform.maxCells
      omega
    · show T.slotsUsed + R'.slots ≤ e.platform.maxSlots
      omega
  · rw [State.stackLimits_setFrames]; rfl
  · rw [State.stackBytes_setFrames]; rfl
  · refine ⟨?_, Nat.le_refl _, Nat.le_refl _, ?_, ?_, fun a c9 h9 => ⟨c9, h9, rfl, rfl, fun _ _ => rfl⟩⟩
    · obtain ⟨t, ht, -⟩ := State.frames_cons hr
      show T.setVm s.vm = { ((T.setVm s.vm).setFrames (.invoking m args :: below)).setFrames (T.setVm s.vm).frames with heap := T.heap, slotsUsed := T.slotsUsed }
      rw [State.setFrames_setFrames, State.setFrames_self ht]
      rfl
    · show T.slotsUsed = T.slotsUsed + ((T.heap.toList.drop T.heap.size).map (·.slots.size)).sum
      rw [List.drop_eq_nil_of_le (Nat.le_of_eq Array.length_toList)]
      rfl
    · show ((T.heap.toList.drop T.heap.size).map (·.slots.size)).sum ≤ 0
      rw [List.drop_eq_nil_of_le (Nat.le_of_eq Array.length_toList)]
      exact Nat.le_refl _
/-- 'throw new E()': new; dup; invokespecial; athrow -/
theorem vx_throw0 {cc : ByteArray} {pc : Nat} (hexec : p.tables.exec = Jvm.exec) (hb : c.code = cc) (hl : l.stackTraces = false) {own cls : String} {names : List String} {ik ic mc ms : Nat} {A : Nat → Prop}
    (hown : s.vm.findClass own = some m.cls) (hcls : Bundle.fit cls = true) (hnames : ∀ n ∈ names, Bundle.fit n = true)
    (hk : (Cond.classLink own ik cls).before args s = true) (hini : (Cond.initialized cls).before args s = true) (hat : ∀ w ∈ vx_at0 own ic cls names, w.before args s = true)
    (hgood : ∀ w ∈ Cond.classLink own ik cls :: Cond.initialized cls :: vx_at0 own ic cls names, vx_ot w = true)
    (hU : vx_Zq Bundle.tN "UNASSIGNED_STACK" Bundle.steD A s s.heap) (hN : vx_Zq Bundle.tN "SUPPRESSED_SENTINEL" Bundle.listD A s s.heap) (hS : va_S A s.heap H locs) (hsize : ls.size = c.maxLocals)
    (d0 : decode cc pc = .ok (.new ik, 3)) (d3 : decode cc (pc + 3) = .ok (.dup, 1)) (d4 : decode cc (pc + 4) = .ok (.invokespecial ic, 3)) (d7 : decode cc (pc + 7) = .ok (.athrow, 1))
    (hout : ∀ x ∈ c.exceptionTable.toList, covers x (pc + 7) = false)
    (hRframes : names.length + 3 < R.frames) (hRlocals : (rest.map fun v => v.category).sum + (13 * (names.length + 1) + 42) ≤ R.locals) (hRcells : cells + 1 ≤ R.cells) (hRslots : slots + 6 ≤ R.slots) (hlocks : meth.locks = false)
    (hx : ∀ t : State, s.vm.Alike t.vm → H.size ≤ t.heap.size → (∀ q : Nat, q < H.size → t.heap[q]? = H[q]?) → XC cls s t)
    (hf : ∀ z ∈ locs, free z.base) (hc : cells + 1 ≤ mc) (hs : slots + 6 ≤ ms) :
    W p l e R s m args below meth c H locs cells slots (vx_MQ below Qc XC args s mc ms free) (F0 m pc ls rest) := by
  intro T hT X
  have htr : e.platform.stackTraces = false := (show e.platform.stackTraces = l.stackTraces by rw [X.admits.platform]).trans hl
  have Y := vx_rebase X (R' := { frames := R.frames, locals := R.locals, cells := 1, slots := 6 }) (Nat.le_refl _) (Nat.le_refl _) hRcells hRslots
  obtain ⟨s', hA⟩ : ∃ z, z = (T.setVm s.vm).setFrames (.invoking m args :: below) := ⟨_, rfl⟩
  rw [← hA] at Y
  have hvm : s'.vm = s.vm := by rw [hA]; rfl
  have hhp : s'.heap = H := by rw [hA]; exact hT
  have hW0 : s.WarmedH s'.vm := by rw [hvm]; exact State.WarmedH.refl s
  have hat' : ∀ w ∈ vx_at0 own ic cls names, w.before args s' = true := fun w hw => vx_ot_at hW0 hvm.symm (hgood w (List.mem_cons_of_mem _ (List.mem_cons_of_mem _ hw))) (hat w hw)
  have hk' : (Cond.classLink own ik cls).before args s' = true := vx_ot_at hW0 hvm.symm (hgood _ List.mem_cons_self) hk
  have hini' : (Cond.initialized cls).before args s' = true := vx_ot_at hW0 hvm.symm (hgood _ (List.mem_cons_of_mem _ List.mem_cons_self)) hini
  have hU' : vx_Zq Bundle.tN "UNASSIGNED_STACK" Bundle.steD A s' s'.heap := by rw [hhp]; exact vx_Zq.moved hW0.alike (hU.kept hS.2.1)
  have hN' : vx_Zq Bundle.tN "SUPPRESSED_SENTINEL" Bundle.listD A s' s'.heap := by rw [hhp]; exact vx_Zq.moved hW0.alike (hN.kept hS.2.1)
  have h : ∀ w ∈ Bundle.ownAtoms0 own ic cls names, w.before args s' = true := vx_own hat' (vx_isRefq hU'.1) (vx_isRefq hN'.1) hU'.2.word hN'.2.word
  have hown' : s'.vm.findClass own = some m.cls := by rw [hvm]; exact hown
  have hins : (Cond.instantiable cls 6).before args s' = true := h _ (by simp [Bundle.ownAtoms0])
  obtain ⟨vm₁, cX, kX, hfX, hkX, -, -, X₁, st1⟩ := Y.newCold hexec (own := own) (C := cls) (index := ik) (n := 6) hown' hk' hins hini'
    (g := F0 m pc ls rest) rfl (by rw [hb]; exact d0) (Nat.le_refl _) (Nat.le_refl _)
  generalize hT1 : (T.setVm vm₁).pushCell { cls := cX, slots := kX.instanceTypes.map defaultValue, vm := .none } = T1 at X₁ st1
  have hcat : (Value.ref T.heap.size).category = 1 := rfl
  have hcellA : T1.heap[T.heap.size]? = some (freshCell cX kX) := by rw [← hT1]; exact State.heap_pushCell_size _ _
  have d3' : decode c.code (pc + 3) = .ok (.dup, 1) := by rw [hb]; exact d3
  obtain ⟨U, hsteps, hrun, hend, hW, hsame, ce, hce, hO⟩ := X₁.ctorThrow0 hexec htr (own := own) (cls := cls) (names := names) (ic := ic) hown' hcls hnames h (fun x hx => nomatch hx) hfX hkX hcellA (by rw [hhp, hT]; exact Nat.le_refl _)
    (g := { method := m, pc := pc + 4, locals := ls, stack := .ref T.heap.size :: .ref T.heap.size :: rest, locked := none }) rfl hsize rfl rfl (rest := rest) rfl
    (by rw [hb]; exact d4) (by rw [hb]; exact d7) hout hRframes (by simp only [List.map_cons, List.sum_cons, hcat]; omega) hlocks
  obtain ⟨f1, f2⟩ := vx_frame hsame
  rw [hhp] at f1 f2
  have hWs : s.WarmedH U.vm := State.WarmedH.trans hW0 hW
  have hcl : s.vm.findClass cls = some ce.cls := by
    have h9 := hO.cls
    rw [hvm] at h9
    exact h9
  have hall : s.sameButNew ({ U with vm := s.vm } : State) locs mc ms := by
    subst hA
    obtain ⟨e1, e2⟩ := hsame
    rw [State.setFrames_setFrames] at e1
    have h2 : (T.setVm s.vm).sameButNew ({ U with vm := s.vm } : State) [] (0 + 1) (0 + 6) := ⟨e1, e2⟩
    have h3 := X.same.trans h2
    rw [List.append_nil] at h3
    exact h3.mono hc hs
  refine ⟨U, ?_, .threw T.heap.size, hrun, hend, Or.inr ⟨T.heap.size, rfl, cls, ce, locs, hx U hWs.alike f1 (fun q hq => f2 q hq (fun z hz => nomatch hz)), hce, hO.vm, hcl, hWs, hall, hf⟩⟩
  refine st1 _ ?_
  show Steps p.tables e below (T1.setTop { method := m, pc := pc + 3, locals := ls, stack := .ref T.heap.size :: rest, locked := none }) _
  jvm_step X₁.here [X₁.here.top, hexec, d3', Value.category]
  exact hsteps
/-- 'throw new E("text")': new; dup; ldc; invokespecial; athrow -/
theorem vx_throwS {cc : ByteArray} {pc : Nat} (hexec : p.tables.exec = Jvm.exec) (hb : c.code = cc) (hl : l.stackTraces = false) {own cls text : String} {names : List String} {ik is ic mc ms sa : Nat} {A : Nat → Prop}
    (hown : s.vm.findClass own = some m.cls) (hcls : Bundle.fit cls = true) (hnames : ∀ n ∈ names, Bundle.fit n = true)
    (hk : (Cond.classLink own ik cls).before args s = true) (hini : (Cond.initialized cls).before args s = true) (hstr : vk_R own is text sa s) (hat : ∀ w ∈ vx_atS own ic cls names, w.before args s = true)
    (hgood : ∀ w ∈ Cond.classLink own ik cls :: Cond.initialized cls :: vx_atS own ic cls names, vx_ot w = true)
    (hU : vx_Zq Bundle.tN "UNASSIGNED_STACK" Bundle.steD A s s.heap) (hN : vx_Zq Bundle.tN "SUPPRESSED_SENTINEL" Bundle.listD A s s.heap) (hS : va_S A s.heap H locs) (hsize : ls.size = c.maxLocals)
    (d0 : decode cc pc = .ok (.new ik, 3)) (d3 : decode cc (pc + 3) = .ok (.dup, 1)) (d4 : decode cc (pc + 4) = .ok (.ldc is, 2)) (d6 : decode cc (pc + 6) = .ok (.invokespecial ic, 3)) (d9 : decode cc (pc + 9) = .ok (.athrow, 1))
    (hout : ∀ x ∈ c.exceptionTable.toList, covers x (pc + 9) = false)
    (hRframes : names.length + 3 < R.frames) (hRlocals : (rest.map fun v => v.category).sum + (13 * (names.length + 1) + 43) ≤ R.locals) (hRcells : cells + 1 ≤ R.cells) (hRslots : slots + 6 ≤ R.slots) (hlocks : meth.locks = false)
    (hx : ∀ t : State, s.vm.Alike t.vm → H.size ≤ t.heap.size → (∀ q : Nat, q < H.size → t.heap[q]? = H[q]?) → XC cls s t)
    (hf : ∀ z ∈ locs, free z.base) (hc : cells + 1 ≤ mc) (hs : slots + 6 ≤ ms) :
    W p l e R s m args below meth c H locs cells slots (vx_MQ below Qc XC args s mc ms free) (F0 m pc ls rest) := by
  intro T hT X
  have htr : e.platform.stackTraces = false := (show e.platform.stackTraces = l.stackTraces by rw [X.admits.platform]).trans hl
  have Y := vx_rebase X (R' := { frames := R.frames, locals := R.locals, cells := 1, slots := 6 }) (Nat.le_refl _) (Nat.le_refl _) hRcells hRslots
  obtain ⟨s', hA⟩ : ∃ z, z = (T.setVm s.vm).setFrames (.invoking m args :: below) := ⟨_, rfl⟩
  rw [← hA] at Y
  have hvm : s'.vm = s.vm := by rw [hA]; rfl
  have hhp : s'.heap = H := by rw [hA]; exact hT
  have hW0 : s.WarmedH s'.vm := by rw [hvm]; exact State.WarmedH.refl s
  have hat' : ∀ w ∈ vx_atS own ic cls names, w.before args s' = true := fun w hw => vx_ot_at hW0 hvm.symm (hgood w (List.mem_cons_of_mem _ (List.mem_cons_of_mem _ hw))) (hat w hw)
  have hk' : (Cond.classLink own ik cls).before args s' = true := vx_ot_at hW0 hvm.symm (hgood _ List.mem_cons_self) hk
  have hini' : (Cond.initialized cls).before args s' = true := vx_ot_at hW0 hvm.symm (hgood _ (List.mem_cons_of_mem _ List.mem_cons_self)) hini
  have hU' : vx_Zq Bundle.tN "UNASSIGNED_STACK" Bundle.steD A s' s'.heap := by rw [hhp]; exact vx_Zq.moved hW0.alike (hU.kept hS.2.1)
  have hN' : vx_Zq Bundle.tN "SUPPRESSED_SENTINEL" Bundle.listD A s' s'.heap := by rw [hhp]; exact vx_Zq.moved hW0.alike (hN.kept hS.2.1)
  have h : ∀ w ∈ Bundle.ownAtoms own ic cls names, w.before args s' = true := vx_own hat' (vx_isRefq hU'.1) (vx_isRefq hN'.1) hU'.2.word hN'.2.word
  have hown' : s'.vm.findClass own = some m.cls := by rw [hvm]; exact hown
  have hins : (Cond.instantiable cls 6).before args s' = true := h _ (by simp [Bundle.ownAtoms])
  obtain ⟨vm₁, cX, kX, hfX, hkX, -, -, X₁, st1⟩ := Y.newCold hexec (own := own) (C := cls) (index := ik) (n := 6) hown' hk' hins hini'
    (g := F0 m pc ls rest) rfl (by rw [hb]; exact d0) (Nat.le_refl _) (Nat.le_refl _)
  generalize hT1 : (T.setVm vm₁).pushCell { cls := cX, slots := kX.instanceTypes.map defaultValue, vm := .none } = T1 at X₁ st1
  have hcat : (Value.ref T.heap.size).category = 1 := rfl
  have hcellA : T1.heap[T.heap.size]? = some (freshCell cX kX) := by rw [← hT1]; exact State.heap_pushCell_size _ _
  have d3' : decode c.code (pc + 3) = .ok (.dup, 1) := by rw [hb]; exact d3
  have d4' : decode c.code (pc + 4) = .ok (.ldc is, 2) := by rw [hb]; exact d4
  have hstr' : vk_R own is text sa s' := vk_R.warm hW0 hstr
  obtain ⟨U, hsteps, hrun, hend, hW, hsame, ce, hce, hO⟩ := X₁.ctorThrowS hexec htr (own := own) (cls := cls) (names := names) (ic := ic) hown' hcls hnames h (fun x hx => nomatch hx) hfX hkX hcellA (by rw [hhp, hT]; exact Nat.le_refl _) (msg := .ref sa) rfl
    (g := { method := m, pc := pc + 6, locals := ls, stack := .ref sa :: .ref T.heap.size :: .ref T.heap.size :: rest, locked := none }) rfl hsize rfl rfl (rest := rest) rfl
    (by rw [hb]; exact d6) (by rw [hb]; exact d9) hout hRframes (by simp only [List.map_cons, List.sum_cons, hcat]; omega) hlocks
  obtain ⟨f1, f2⟩ := vx_frame hsame
  rw [hhp] at f1 f2
  have hWs : s.WarmedH U.vm := State.WarmedH.trans hW0 hW
  have hcl : s.vm.findClass cls = some ce.cls := by
    have h9 := hO.cls
    rw [hvm] at h9
    exact h9
  have hall : s.sameButNew ({ U with vm := s.vm } : State) locs mc ms := by
    subst hA
    obtain ⟨e1, e2⟩ := hsame
    rw [State.setFrames_setFrames] at e1
    have h2 : (T.setVm s.vm).sameButNew ({ U with vm := s.vm } : State) [] (0 + 1) (0 + 6) := ⟨e1, e2⟩
    have h3 := X.same.trans h2
    rw [List.append_nil] at h3
    exact h3.mono hc hs
  refine ⟨U, ?_, .threw T.heap.size, hrun, hend, Or.inr ⟨T.heap.size, rfl, cls, ce, locs, hx U hWs.alike f1 (fun q hq => f2 q hq (fun z hz => nomatch hz)), hce, hO.vm, hcl, hWs, hall, hf⟩⟩
  refine st1 _ ?_
  show Steps p.tables e below (T1.setTop { method := m, pc := pc + 3, locals := ls, stack := .ref T.heap.size :: rest, locked := none }) _
  jvm_step X₁.here [X₁.here.top, hexec, d3', Value.category]
  exact X₁.ldcString hexec (own := own) (text := text) (index := is) (a := sa) hown' hstr'.1 hstr'.2
    (g := { method := m, pc := pc + 4, locals := ls, stack := .ref T.heap.size :: .ref T.heap.size :: rest, locked := none }) rfl d4' _ hsteps
/-- 'throw new E("text")', the text by a wide index -/
theorem vx_throwSW {cc : ByteArray} {pc : Nat} (hexec : p.tables.exec = Jvm.exec) (hb : c.code = cc) (hl : l.stackTraces = false) {own cls text : String} {names : List String} {ik is ic mc ms sa : Nat} {A : Nat → Prop}
    (hown : s.vm.findClass own = some m.cls) (hcls : Bundle.fit cls = true) (hnames : ∀ n ∈ names, Bundle.fit n = true)
    (hk : (Cond.classLink own ik cls).before args s = true) (hini : (Cond.initialized cls).before args s = true) (hstr : vk_R own is text sa s) (hat : ∀ w ∈ vx_atS own ic cls names, w.before args s = true)
    (hgood : ∀ w ∈ Cond.classLink own ik cls :: Cond.initialized cls :: vx_atS own ic cls names, vx_ot w = true)
    (hU : vx_Zq Bundle.tN "UNASSIGNED_STACK" Bundle.steD A s s.heap) (hN : vx_Zq Bundle.tN "SUPPRESSED_SENTINEL" Bundle.listD A s s.heap) (hS : va_S A s.heap H locs) (hsize : ls.size = c.maxLocals)
    (d0 : decode cc pc = .ok (.new ik, 3)) (d3 : decode cc (pc + 3) = .ok (.dup, 1)) (d4 : decode cc (pc + 4) = .ok (.ldc_w is, 3)) (d7 : decode cc (pc + 7) = .ok (.invokespecial ic, 3)) (d10 : decode cc (pc + 10) = .ok (.athrow, 1))
    (hout : ∀ x ∈ c.exceptionTable.toList, covers x (pc + 10) = false)
    (hRframes : names.length + 3 < R.frames) (hRlocals : (rest.map fun v => v.category).sum + (13 * (names.length + 1) + 43) ≤ R.locals) (hRcells : cells + 1 ≤ R.cells) (hRslots : slots + 6 ≤ R.slots) (hlocks : meth.locks = false)
    (hx : ∀ t : State, s.vm.Alike t.vm → H.size ≤ t.heap.size → (∀ q : Nat, q < H.size → t.heap[q]? = H[q]?) → XC cls s t)
    (hf : ∀ z ∈ locs, free z.base) (hc : cells + 1 ≤ mc) (hs : slots + 6 ≤ ms) :
    W p l e R s m args below meth c H locs cells slots (vx_MQ below Qc XC args s mc ms free) (F0 m pc ls rest) := by
  intro T hT X
  have htr : e.platform.stackTraces = false := (show e.platform.stackTraces = l.stackTraces by rw [X.admits.platform]).trans hl
  have Y := vx_rebase X (R' := { frames := R.frames, locals := R.locals, cells := 1, slots := 6 }) (Nat.le_refl _) (Nat.le_refl _) hRcells hRslots
  obtain ⟨s', hA⟩ : ∃ z, z = (T.setVm s.vm).setFrames (.invoking m args :: below) := ⟨_, rfl⟩
  rw [← hA] at Y
  have hvm : s'.vm = s.vm := by rw [hA]; rfl
  have hhp : s'.heap = H := by rw [hA]; exact hT
  have hW0 : s.WarmedH s'.vm := by rw [hvm]; exact State.WarmedH.refl s
  have hat' : ∀ w ∈ vx_atS own ic cls names, w.before args s' = true := fun w hw => vx_ot_at hW0 hvm.symm (hgood w (List.mem_cons_of_mem _ (List.mem_cons_of_mem _ hw))) (hat w hw)
  have hk' : (Cond.classLink own ik cls).before args s' = true := vx_ot_at hW0 hvm.symm (hgood _ List.mem_cons_self) hk
  have hini' : (Cond.initialized cls).before args s' = true := vx_ot_at hW0 hvm.symm (hgood _ (List.mem_cons_of_mem _ List.mem_cons_self)) hini
  have hU' : vx_Zq Bundle.tN "UNASSIGNED_STACK" Bundle.steD A s' s'.heap := by rw [hhp]; exact vx_Zq.moved hW0.alike (hU.kept hS.2.1)
  have hN' : vx_Zq Bundle.tN "SUPPRESSED_SENTINEL" Bundle.listD A s' s'.heap := by rw [hhp]; exact vx_Zq.moved hW0.alike (hN.kept hS.2.1)
  have h : ∀ w ∈ Bundle.ownAtoms own ic cls names, w.before args s' = true := vx_own hat' (vx_isRefq hU'.1) (vx_isRefq hN'.1) hU'.2.word hN'.2.word
  have hown' : s'.vm.findClass own = some m.cls := by rw [hvm]; exact hown
  have hins : (Cond.instantiable cls 6).before args s' = true := h _ (by simp [Bundle.ownAtoms])
  obtain ⟨vm₁, cX, kX, hfX, hkX, -, -, X₁, st1⟩ := Y.newCold hexec (own := own) (C := cls) (index := ik) (n := 6) hown' hk' hins hini'
    (g := F0 m pc ls rest) rfl (by rw [hb]; exact d0) (Nat.le_refl _) (Nat.le_refl _)
  generalize hT1 : (T.setVm vm₁).pushCell { cls := cX, slots := kX.instanceTypes.map defaultValue, vm := .none } = T1 at X₁ st1
  have hcat : (Value.ref T.heap.size).category = 1 := rfl
  have hcellA : T1.heap[T.heap.size]? = some (freshCell cX kX) := by rw [← hT1]; exact State.heap_pushCell_size _ _
  have d3' : decode c.code (pc + 3) = .ok (.dup, 1) := by rw [hb]; exact d3
  have d4' : decode c.code (pc + 4) = .ok (.ldc_w is, 3) := by rw [hb]; exact d4
  have hstr' : vk_R own is text sa s' := vk_R.warm hW0 hstr
  obtain ⟨U, hsteps, hrun, hend, hW, hsame, ce, hce, hO⟩ := X₁.ctorThrowS hexec htr (own := own) (cls := cls) (names := names) (ic := ic) hown' hcls hnames h (fun x hx => nomatch hx) hfX hkX hcellA (by rw [hhp, hT]; exact Nat.le_refl _) (msg := .ref sa) rfl
    (g := { method := m, pc := pc + 7, locals := ls, stack := .ref sa :: .ref T.heap.size :: .ref T.heap.size :: rest, locked := none }) rfl hsize rfl rfl (rest := rest) rfl
    (by rw [hb]; exact d7) (by rw [hb]; exact d10) hout hRframes (by simp only [List.map_cons, List.sum_cons, hcat]; omega) hlocks
  obtain ⟨f1, f2⟩ := vx_frame hsame
  rw [hhp] at f1 f2
  have hWs : s.WarmedH U.vm := State.WarmedH.trans hW0 hW
  have hcl : s.vm.findClass cls = some ce.cls := by
    have h9 := hO.cls
    rw [hvm] at h9
    exact h9
  have hall : s.sameButNew ({ U with vm := s.vm } : State) locs mc ms := by
    subst hA
    obtain ⟨e1, e2⟩ := hsame
    rw [State.setFrames_setFrames] at e1
    have h2 : (T.setVm s.vm).sameButNew ({ U with vm := s.vm } : State) [] (0 + 1) (0 + 6) := ⟨e1, e2⟩
    have h3 := X.same.trans h2
    rw [List.append_nil] at h3
    exact h3.mono hc hs
  refine ⟨U, ?_, .threw T.heap.size, hrun, hend, Or.inr ⟨T.heap.size, rfl, cls, ce, locs, hx U hWs.alike f1 (fun q hq => f2 q hq (fun z hz => nomatch hz)), hce, hO.vm, hcl, hWs, hall, hf⟩⟩
  refine st1 _ ?_
  show Steps p.tables e below (T1.setTop { method := m, pc := pc + 3, locals := ls, stack := .ref T.heap.size :: rest, locked := none }) _
  jvm_step X₁.here [X₁.here.top, hexec, d3', Value.category]
  exact X₁.ldcStringW hexec (own := own) (text := text) (index := is) (a := sa) hown' hstr'.1 hstr'.2
    (g := { method := m, pc := pc + 4, locals := ls, stack := .ref T.heap.size :: .ref T.heap.size :: rest, locked := none }) rfl d4' _ hsteps
end Ends
section Bodies
variable {l : Launch}
theorem vx_ofW {y : MethodName} {ws ws' : List Cond} {rm : Room} {Pc : Array Value → State → Prop} {Qc : Array Value → State → Outcome → State → Prop} {XC : String → State → State → Prop} {mc ms : Nat} {free : Addr → Prop} {cc : ByteArray} {maxL : Nat} {ret : Option FieldType}
    (hy : plainName y.cls = true) (hw : ws = Cond.code y cc maxL ret :: ws')
    (body : ∀ p e s m args below meth c s₁, BodyLoose p l y (headSpec ws rm) cc maxL ret e s m args below meth c s₁ → c.maxLocals = maxL → (∀ x ∈ c.exceptionTable.toList, False) → Pc args s →
      W p l e (headSpec ws rm).room s m args below meth c s.heap [] 0 0 (vx_MQ below Qc XC args s mc ms free) (entryFrame m args maxL)) : vx_Met l y ws rm Pc Qc XC mc ms free := by
  refine MetFree.of_bodyS (code := cc) (maxLocals := maxL) (ret := ret) hy ?_ ?_
  · intro args s m h hn
    obtain ⟨meth, c, h1, h2, h3, h4, h5, h6, -, -⟩ := Cond.code_spec hn (atoms_spec (ws := ws) h _ (by rw [hw]; exact List.mem_cons_self))
    exact ⟨meth, c, h1, h2, h3, h4, h5, h6⟩
  · intro p e s m args below meth c s₁ B hml hP _
    have hh0 : s₁.heap = s.heap := by rw [B.state]; rfl
    have ht : ∀ x ∈ c.exceptionTable.toList, False := by
      obtain ⟨meth9, c9, h1, h2, -, -, -, -, h7, -⟩ := Cond.code_spec B.named (atoms_spec (ws := ws) B.pre _ (by rw [hw]; exact List.mem_cons_self))
      cases Option.some.inj (h1.symm.trans B.method)
      cases Option.some.inj (h2.symm.trans (Stand.of_body B).code)
      intro x hx
      rw [Array.isEmpty_iff.mp h7] at hx
      cases hx
    obtain ⟨t, a1, o, b1, b2, b3⟩ := body p e s m args below meth c s₁ B hml ht hP s₁ hh0 (Stand.of_body B)
    exact ⟨t, o, a1, b1, b2, b3⟩
/-- the table of a body with handlers -/
theorem vx_table {p : Program} {x y : MethodName} {S : Spec} {cc bytes : ByteArray} {maxL maxL' : Nat} {ret ret' : Option FieldType} {e : Env} {s s₁ : State} {m : MethodId} {args : Array Value} {below : List Frame} {meth : Method} {c : Code} {hh : List (Nat × Nat × Nat × Nat)}
    (B : BodyLoose p l y S cc maxL ret e s m args below meth c s₁) (h : (Cond.codeWith y bytes maxL' ret' hh).before args s = true) : c.exceptionTable.toList = tableOf hh := by
  obtain ⟨m9, meth9, c9, hn9, h1, h2, -, -, h6, -⟩ := Cond.codeWith_spec h
  cases Option.some.inj (hn9.symm.trans B.named)
  cases Option.some.inj (h1.symm.trans B.method)
  cases Option.some.inj (h2.symm.trans (Stand.of_body B).code)
  rw [← h6, table_eq]
end Bodies
end VXA
/-! ===== END ===== -/
/-! ===== BEGIN a static call of a method with an exception table ===== -/
section VXS
variable {p : Program} {l : Launch} {e : Env} {R : Room} {s : State} {m : MethodId} {args : Array Value} {below : List Frame} {meth : Method} {c : Code} {T : State} {H : Heap} {locs : List Loc} {cells slots : Nat}
abbrev vx_CSW (R : Room) (s : State) (args : Array Value) (own : String) (index : Nat) (y : MethodName) (bytes : ByteArray) (maxL : Nat) (ret : Option FieldType) (hh : List (Nat × Nat × Nat × Nat)) (ws : List Cond) (rm : Room) (mc ms n : Nat) : Prop :=
  (rm.cells = mc ∧ rm.slots = ms ∧ rm.frames + 1 ≤ R.frames ∧ 8 + (maxL + 11) + rm.locals ≤ R.locals ∧ (∀ w ∈ ws, ∀ (a' : Array Value) (U : State), s.WarmedH U.vm → w.before a' U = true) ∧ Cond.codeWith y bytes maxL ret hh ∈ ws) ∧
  (Cond.codeWith y bytes maxL ret hh).before args s = true ∧ (Cond.initialized y.cls).before args s = true ∧ (y.cls ≠ "java/lang/invoke/MethodHandle" ∧ y.cls ≠ "java/lang/invoke/VarHandle") ∧
  (∀ sig, parseMethodDescriptor y.desc = some sig → n = sig.parameters.length) ∧ (Cond.methodLink own index y).before args s = true ∧ (Cond.static y).before args s = true
theorem vx_cwSW {own : String} {index maxL mc ms : Nat} {y : MethodName} {bytes : ByteArray} {ret : Option FieldType} {hh : List (Nat × Nat × Nat × Nat)} {Ts ws ws' : List Cond} {rm : Room} (n : Nat) (ht : ∀ w ∈ Ts, w.before args s = true) (hT : GoodIn Ts (va_wsS own index y ws)) (hw : ws = Cond.codeWith y bytes maxL ret hh :: ws') (hrc : rm.cells = mc) (hrs : rm.slots = ms)
    (hd : y.cls ≠ "java/lang/invoke/MethodHandle" ∧ y.cls ≠ "java/lang/invoke/VarHandle" ∧ (parseMethodDescriptor y.desc).map (fun d => d.parameters.length) = some n) (hR : rm.frames + 1 ≤ R.frames ∧ 8 + (maxL + 11) + rm.locals ≤ R.locals) :
    vx_CSW R s args own index y bytes maxL ret hh ws rm mc ms n := by
  have ok : ∀ w ∈ va_wsS own index y ws, w.before args s = true := fun w h => ht w (hT w h).1
  have hG : GoodIn Ts ws := fun w h => hT w (by unfold va_wsS; exact List.mem_append_right _ h)
  have hc : Cond.codeWith y bytes maxL ret hh ∈ ws := by rw [hw]; exact List.mem_cons_self
  refine ⟨⟨hrc, hrs, hR.1, hR.2, pay_in ht hG, hc⟩, ht _ (hG _ hc).1, ok _ (by simp [va_wsS]), ⟨hd.1, hd.2.1⟩, fun sig h => ?_, ok _ (by simp [va_wsS]), ok _ (by simp [va_wsS])⟩
  have h2 := hd.2.2
  rw [h] at h2
  exact (Option.some.inj h2).symm
theorem vx_callSW (X : Stand p l e R s m args below meth c T locs cells slots) (hexec : p.tables.exec = Jvm.exec) {own : String} {index : Nat} {y : MethodName} {bytes : ByteArray} {maxL : Nat} {ret : Option FieldType} {hh : List (Nat × Nat × Nat × Nat)}
    (hown : s.vm.findClass own = some m.cls) (hlink : (Cond.methodLink own index y).before args s = true) (hstat : (Cond.static y).before args s = true) (hinit : (Cond.initialized y.cls).before args s = true)
    (hcode : (Cond.codeWith y bytes maxL ret hh).before args s = true) (hy : y.cls ≠ "java/lang/invoke/MethodHandle" ∧ y.cls ≠ "java/lang/invoke/VarHandle")
    {W9 : Nat} {Pre : Pt → Array Value → Prop} {Post : Pt → Array Value → Option Value → Pt → Prop} (hK : Back l R p e below s args y 3 W9 Pre Post)
    {g : JFrame} (hg : g.method = m) (hsize : g.locals.size = c.maxLocals) {argsL rest : List Value} (hlen : ∀ sig, parseMethodDescriptor y.desc = some sig → argsL.length = sig.parameters.length)
    (hstack : g.stack = argsL.reverse ++ rest) (hW : 2 * g.monitorRoom + (rest.map fun v => v.category).sum ≤ W9) (hdg : decode c.code g.pc = .ok (.invokestatic index, 3))
    (hpre : ∀ vm₁, s.WarmedH vm₁ → Pre ⟨T.setVm vm₁, locs, cells, slots⟩ argsL.toArray) :
    ∃ (v : Option Value) (vm₁ : Vm) (B : Pt), s.WarmedH vm₁ ∧ Stand p l e R s m args below meth c B.U B.locs B.cells B.slots ∧ Post ⟨T.setVm vm₁, locs, cells, slots⟩ argsL.toArray v B ∧
      ∀ target, Steps p.tables e below (B.U.setTop { g with pc := g.pc + 3, stack := v.toList ++ rest }) target → Steps p.tables e below (T.setTop g) target := by
  obtain ⟨mk, methM, cM, hnamed, hmethM, -, -, -, -, -, -, hsigM⟩ := Cond.codeWith_spec hcode
  have hstatic : methM.isStatic = true := Cond.static_spec hnamed hmethM hstat
  obtain ⟨kP, hkP, -⟩ := className_of_methodNamed hnamed
  have hinitP : kP.init = .initialized := Cond.initialized_spec (findClass_of_methodNamed hnamed) hkP hinit
  obtain ⟨vm₁, X₁, hstep₁⟩ := X.invokestatic hexec hown hlink hnamed hmethM hstatic hkP hinitP hy (g := g) hg (argsL := argsL) (rest := rest) (hlen _ hsigM) hstack hdg
  obtain ⟨v, B, X', hpost, hsteps⟩ := hK m meth c ⟨T.setVm vm₁, locs, cells, slots⟩ { g with stack := rest } (.invokestatic index) mk argsL.toArray X₁ hg hsize hdg hW (X₁.named hnamed) (hpre vm₁ X₁.warmed)
  exact ⟨v, vm₁, B, X₁.warmed, X', hpost, fun target h => hstep₁ _ fun acts => by rw [doInvoke_state]; exact hsteps.trans h⟩
theorem vx_runSW {y : MethodName} {bytes cc : ByteArray} {maxL nL mc ms n index : Nat} {ret : Option FieldType} {hh : List (Nat × Nat × Nat × Nat)} {ws : List Cond} {rm : Room} {Pc : Array Value → State → Prop} {Qc : Array Value → State → Outcome → State → Prop} {free : Addr → Prop} {Ts : List Cond} {own : String} {As rest : List Value} {g : JFrame}
    (S : CallFix p m c cc nL s args Ts own) (hM : Met l y ws rm Pc Qc mc ms free) (cw : vx_CSW R s args own index y bytes maxL ret hh ws rm mc ms n) (hp : PreS s H Pc As)
    (hg : g.method = m) (hn : As.length = n) (hsize : g.locals.size = nL) (hstack : g.stack = As.reverse ++ rest) (hW : 2 * g.monitorRoom + (rest.map fun v => v.category).sum ≤ 8) (hdg : decode cc g.pc = .ok (.invokestatic index, 3)) (hf : cells + mc ≤ R.cells ∧ slots + ms ≤ R.slots) :
    va_Run p l e R s m args below meth c H locs cells slots mc ms g rest (Qc As.toArray) (free) := by
  obtain ⟨⟨hrc, hrs, hfr, hlo, hws, hcw⟩, hcode, hini, hy, hlen, hl, hstt⟩ := cw
  have hK : Back l R p e below s args y 3 8 (PreOf R mc ms Pc) (PostOf Qc mc ms free) := va_backW (hh := hh) (bytes := bytes) (maxL := maxL) (ret := ret) hM hp.1 hrc hrs hfr hlo hws hcw (fun a' U hW => word_at hW (Or.inl (by first | rfl | simp [Cond.onTables, Cond.keeps, Cond.steady])) hini)
  obtain ⟨hx, hb, hml, ho, -⟩ := S
  intro T hT X
  obtain ⟨v, vm₁, ⟨U', l2, c2, s2⟩, hW₁, X', ⟨g', mk, t, L, e1, e2, hq, h1, hL, h2, h3⟩, st⟩ := vx_callSW X hx (hh := hh) (bytes := bytes) (maxL := maxL) (ret := ret) ho hl hstt hini hcode hy hK hg (hsize.trans hml.symm) (argsL := As) (rest := rest) (fun sig h => hn.trans (hlen sig h)) hstack hW (by rw [hb]; exact hdg)
    (fun vm₁ hW₁ => ⟨hf.1, hf.2, hp.2 (T.setVm vm₁) hT hW₁⟩)
  dsimp only [Pt.U, Pt.locs, Pt.cells, Pt.slots] at X' e1 e2 h1 h2 h3 st
  subst h1; subst h2; subst h3
  exact ⟨v, (T.setVm vm₁).calling g' mk As.toArray, t, U', L, hT, X', hL, e1, e2, hq, st⟩
/-- not caught here, past rows that name other classes: it goes on to the caller -/
theorem vx_outP {p : Program} {l : Launch} {e : Env} {R : Room} {s : State} {m : MethodId} {args : Array Value} {below : List Frame} {meth : Method} {c : Code} {H : Heap} {locs : List Loc} {cells slots : Nat} {free : Addr → Prop} {ls : Array Slot} {rest : List Value} {Qc : Array Value → State → Outcome → State → Prop} {XC : String → State → State → Prop}
    {pc : Nat} {own E : String} {ce : Cell} {q : Addr} {mc ms : Nat} (hown : s.vm.findClass own = some m.cls) (hlocks : meth.locks = false)
    (hpass : ∀ z ∈ c.exceptionTable.toList, covers z pc = false ∨ (z.catchType ≠ 0 ∧ ∃ nm : String, (Cond.classLink own z.catchType nm).before args s = true ∧ va_Nc E nm s)) (hcell : H[q]? = some ce) (hv : ce.vm = .none) (hcl : s.vm.findClass E = some ce.cls)
    (hx : ∀ t : State, t.heap = H → s.vm.Alike t.vm → XC E s t) (hf : ∀ z ∈ locs, free z.base) (hc : cells ≤ mc) (hs : slots ≤ ms) :
    vx_W p l e R s m args below meth c H locs cells slots (vx_MQ below Qc XC args s mc ms free) (F0 m pc ls rest) q := by
  intro T hT X
  have hpl : e.platform.magicAccessors = ({} : Platform).magicAccessors := by rw [X.admits.platform]
  obtain ⟨vm', hW', X', st⟩ := Jvm.Stand.outThrough X hlocks q (g := F0 m pc ls rest) rfl rfl rfl (cell := ce) (by rw [hT]; exact hcell) (by rw [hv]; rfl)
    (by obtain ⟨k9, h9, -⟩ := Vm.findClass_spec hcl; exact ⟨k9, h9⟩) (fun z hz => by
      rcases hpass z hz with h | ⟨hz0, nm, hl1, hn1⟩
      · exact Or.inl h
      · obtain ⟨c6, hc6, hcl6⟩ := Cond.classLink_spec hown hl1 e.platform hpl
        obtain ⟨a8, b8, h1, h2, h3⟩ := hn1
        cases Option.some.inj (h1.symm.trans hcl)
        cases Option.some.inj (h2.symm.trans hc6)
        exact Or.inr ⟨hz0, _, hcl6, h3⟩)
  obtain ⟨g₀, hfr⟩ := X'.frames_eq
  have hcell9 : ((T.setVm vm').setFrames (.throwing q :: below)).heap[q]? = some ce := by
    show T.heap[q]? = some ce
    rw [hT]; exact hcell
  have hend : Ended ((T.setVm vm').setFrames (.throwing q :: below)) below (.threw q) := State.frames_setFrames _ (State.cur_lt_of_frames hfr)
  refine ⟨(T.setVm vm').setFrames (.throwing q :: below), ?_, .threw q, X'.here.running, hend, Or.inr ⟨q, rfl, E, ce, locs, hx _ hT (X'.ends _).1.alike, hcell9, hv, hcl, (X'.ends _).1, (X'.ends _).2.mono hc hs, hf⟩⟩
  rw [X.pushThrowing_eq]
  exact st
/-- a thing of a world lies in the heap -/
theorem vx_lt {D : va_G} {cl : List vw_C} {ws : va_W} {H1 : Heap} (h : va_P D cl ws H1) {k : Nat} {q : Nat × va_E} (hk : ws[k]? = some q) : q.1 < H1.size := (h k q hk).lt
end VXS
/-! ===== END ===== -/
/-! ===== BEGIN methods with a table of their own: called by a name, returning or throwing ===== -/
section VXH
/-! vx_backW, vx_callVX, vx_callSX, vx_callVW, vx_runVW, vx_runVX, vx_runSX, vx_ofWH follow the same proofs as their sisters above (Free/Laws.lean, Shelf42/LK1.lean); vx_outP calls Shelf42/NT130.lean (outThrough). -/
section
variable {l : Launch} {R : Room} {p : Program} {e : Env} {below : List Frame} {s : State} {sargs : Array Value} {y : MethodName} {len W9 : Nat}
theorem vx_backW {ws : List Cond} {rm : Room} {Pc : Array Value → State → Prop} {Qc : Array Value → State → Outcome → State → Prop} {XC : String → State → State → Prop} {mc ms : Nat} {free : Addr → Prop} {bytes : ByteArray} {maxL : Nat} {ret : Option FieldType} {hh : List (Nat × Nat × Nat × Nat)}
    (hM : vx_Met l y ws rm Pc Qc XC mc ms free) (hblind : FrameBlind Pc) (hrc : rm.cells = mc) (hrs : rm.slots = ms)
    (hframes : rm.frames + 1 ≤ R.frames) (hlocals : W9 + (maxL + 11) + rm.locals ≤ R.locals)
    (hws : ∀ w ∈ ws, ∀ a' U, s.WarmedH U.vm → w.before a' U = true) (hcode : Cond.codeWith y bytes maxL ret hh ∈ ws) (hinit : ∀ a' U, s.WarmedH U.vm → (Cond.initialized y.cls).before a' U = true) :
    vx_Back l R p e below s sargs y len W9 (PreOf R mc ms Pc) (PostOf Qc mc ms free) (vx_Post XC mc ms free) := by
  intro m meth c A g ig mk a X hg hsize hdg hW hn hp
  have h1 : (headSpec ws rm).pre.before a A.U = true := atoms_intro fun w hw => hws w hw _ _ X.warmed
  have h2 : (Cond.codeWith y bytes maxL ret hh).before a A.U = true := hws _ hcode _ _ X.warmed
  have h3 : (Cond.initialized y.cls).before a A.U = true := hinit _ _ X.warmed
  have h4 : A.cells + (headSpec ws rm).room.cells ≤ R.cells := by rw [show (headSpec ws rm).room.cells = mc from hrc]; exact hp.1
  have h5 : A.slots + (headSpec ws rm).room.slots ≤ R.slots := by rw [show (headSpec ws rm).room.slots = ms from hrs]; exact hp.2.1
  have hPc : Pc a (A.U.calling g mk a) := hblind _ _ _ _ hp.2.2
  obtain ⟨U, Ls, c0, s0⟩ := A
  dsimp only [Pt.U, Pt.locs, Pt.cells, Pt.slots] at h1 h2 h3 h4 h5 X hn hPc ⊢
  obtain ⟨m9, methY, cY, hn9, hmY, hcY, -, hlY, -⟩ := Cond.codeWith_spec h2
  cases Option.some.inj (hn9.symm.trans hn)
  obtain ⟨kY, hkY, -⟩ := className_of_methodNamed hn
  have hinitY : kY.init = .initialized := Cond.initialized_spec (findClass_of_methodNamed hn) hkY h3
  have h : At U g.method c below := by rw [hg]; exact X.here
  have hlocals9 : W9 + (maxL + 11) + (headSpec ws rm).room.locals ≤ R.locals := hlocals
  have happ : (headSpec ws rm).appliesLoose y e.platform (U.calling g mk a) = true :=
    Spec.appliesLoose_calling (g := g) h hdg hn hkY hinitY
      (X.room_calling (g := g) (R' := (headSpec ws rm).room) hsize hmY hcY hframes (by rw [hlY]; omega) h4 h5) h1
  obtain ⟨mid, hmid⟩ := h.above
  have hfr : (U.setTop g).frames = (.java g :: mid) ++ below := by rw [State.frames_setTop' g h.top, hmid]; rfl
  obtain ⟨o, s₂, hsteps, -, hend, hq⟩ := Steps.callFree hM p X.admits X.cas X.clock (acts := []) hfr happ hPc trivial
  have hq' : vx_Q Qc XC mc ms free a (U.calling g mk a) o s₂ := hq
  rw [State.frames_setTop' g h.top] at hend
  obtain ⟨g₀, hg0⟩ := Option.isSome_iff_exists.mp h.top
  obtain ⟨r, hr⟩ := State.topJava?_eq_some.mp hg0
  have hr' : (({ U with heap := s₂.heap, slotsUsed := s₂.slotsUsed } : State).setVm s₂.vm).frames = .java g₀ :: r := hr
  rcases hq' with ⟨hqc, L, hfe, hL⟩ | ⟨q, rfl, E, ce, L, hx, hce, hcv, hcl, hW₂, hsm, hL⟩
  · obtain ⟨⟨v, rfl⟩, hW₂, e2, q2, q3, q4, q5, q6⟩ := id hfe
    have e3 : s₂ = ({ (U.calling g mk a).setFrames s₂.frames with heap := s₂.heap, slotsUsed := s₂.slotsUsed } : State).setVm s₂.vm := by
      have : s₂ = ({ s₂ with vm := (U.calling g mk a).vm } : State).setVm s₂.vm := rfl
      rw [e2] at this
      exact this
    obtain ⟨c₂, i₂, len₂, hc₂, hd₂, hf₂⟩ := hend
    have hW' : U.WarmedH s₂.vm := hW₂
    have hcc : c₂ = c := by
      have h1 : s₂.code? g.method = U.code? g.method := by
        rw [State.code?_eq, State.code?_eq, hW'.alike.method?]
      exact Option.some.inj (hc₂.symm.trans (h1.trans h.code))
    subst hcc
    have hlen : len₂ = len := by rw [hdg] at hd₂; cases hd₂; rfl
    subst hlen
    have hs₂ : s₂ = (({ U with heap := s₂.heap, slotsUsed := s₂.slotsUsed } : State).setVm s₂.vm).setTop { g with pc := g.pc + len₂, stack := v.toList ++ g.stack } := by
      refine e3.trans ?_
      rw [hf₂, State.calling_eq h.top, State.setFrames_setFrames, State.setTop_of_frames _ hr', hr]
      rfl
    have hsame : U.sameButNew ({ U with heap := s₂.heap, slotsUsed := s₂.slotsUsed } : State) L mc ms := by
      refine ⟨?_, q2, q3, q4, q5, q6⟩
      obtain ⟨t, ht, -⟩ := State.frames_cons hr
      show ({ U with heap := s₂.heap, slotsUsed := s₂.slotsUsed } : State) = { U.setFrames U.frames with heap := s₂.heap, slotsUsed := s₂.slotsUsed }
      rw [State.setFrames_self ht]
    subst hg
    refine Or.inl ⟨v, ⟨(({ U with heap := s₂.heap, slotsUsed := s₂.slotsUsed } : State).setVm s₂.vm), Ls ++ L, c0 + mc, s0 + ms⟩,
      ⟨X.admits, X.cas, X.clock, X.frames, X.room, X.hears, X.method, X.code, (X.here.setHeapUsed s₂.heap s₂.slotsUsed).setVm hW'.alike, X.tail, State.WarmedH.trans X.warmed hW', X.limits, X.bytes, X.same.trans (hsame.setVm s.vm)⟩,
      ⟨g, mk, s₂, L, rfl, rfl, hqc, rfl, hL, rfl, rfl⟩, ?_⟩
    show Steps p.tables e below _ ((({ U with heap := s₂.heap, slotsUsed := s₂.slotsUsed } : State).setVm s₂.vm).setTop { g with pc := g.pc + len₂, stack := v.toList ++ g.stack })
    rw [← hs₂]
    exact hsteps
  · obtain ⟨e2, q2, q3, q4, q5, q6⟩ := id hsm
    have e3 : s₂ = ({ (U.calling g mk a).setFrames s₂.frames with heap := s₂.heap, slotsUsed := s₂.slotsUsed } : State).setVm s₂.vm := by
      have : s₂ = ({ s₂ with vm := (U.calling g mk a).vm } : State).setVm s₂.vm := rfl
      rw [e2] at this
      exact this
    have hf₂ : s₂.frames = .throwing q :: .java g :: U.frames.tail := hend
    have hW' : U.WarmedH s₂.vm := hW₂
    have hs₂ : s₂ = ((({ U with heap := s₂.heap, slotsUsed := s₂.slotsUsed } : State).setVm s₂.vm).setTop g).pushFrame (.throwing q) := by
      refine e3.trans ?_
      rw [hf₂, State.calling_eq h.top, State.setFrames_setFrames, State.pushFrame, State.frames_setTop _ hr', State.setTop_of_frames _ hr', State.setFrames_setFrames, hr]
      rfl
    have hsame : U.sameButNew ({ U with heap := s₂.heap, slotsUsed := s₂.slotsUsed } : State) L mc ms := by
      refine ⟨?_, q2, q3, q4, q5, q6⟩
      obtain ⟨t, ht, -⟩ := State.frames_cons hr
      show ({ U with heap := s₂.heap, slotsUsed := s₂.slotsUsed } : State) = { U.setFrames U.frames with heap := s₂.heap, slotsUsed := s₂.slotsUsed }
      rw [State.setFrames_self ht]
    subst hg
    refine Or.inr ⟨q, ⟨(({ U with heap := s₂.heap, slotsUsed := s₂.slotsUsed } : State).setVm s₂.vm), Ls ++ L, c0 + mc, s0 + ms⟩,
      ⟨X.admits, X.cas, X.clock, X.frames, X.room, X.hears, X.method, X.code, (X.here.setHeapUsed s₂.heap s₂.slotsUsed).setVm hW'.alike, X.tail, State.WarmedH.trans X.warmed hW', X.limits, X.bytes, X.same.trans (hsame.setVm s.vm)⟩,
      ⟨g, mk, s₂, L, E, ce, rfl, rfl, hx, hce, hcv, hcl, rfl, hL, rfl, rfl⟩, ?_⟩
    show Steps p.tables e below _ (((({ U with heap := s₂.heap, slotsUsed := s₂.slotsUsed } : State).setVm s₂.vm).setTop g).pushFrame (.throwing q))
    rw [← hs₂]
    exact hsteps
end
variable {p : Program} {l : Launch} {e : Env} {R : Room} {s : State} {m : MethodId} {args : Array Value} {below : List Frame} {meth : Method} {c : Code} {T : State} {H : Heap} {locs : List Loc} {cells slots : Nat}
theorem vx_callVX (X : Stand p l e R s m args below meth c T locs cells slots) (hexec : p.tables.exec = Jvm.exec) {own C : String} {index : Nat} {y : MethodName} {bytes : ByteArray} {maxL : Nat} {ret : Option FieldType} {hh : List (Nat × Nat × Nat × Nat)}
    (hown : s.vm.findClass own = some m.cls) (hlink : (Cond.methodLink own index y).before args s = true) (hinst : (Cond.instanceMethod y).before args s = true) (hsel : (Cond.selects C y y).before args s = true)
    (hcode : (Cond.codeWith y bytes maxL ret hh).before args s = true) (hy : y.cls ≠ "java/lang/invoke/MethodHandle" ∧ y.cls ≠ "java/lang/invoke/VarHandle")
    {W9 : Nat} {Pre : Pt → Array Value → Prop} {Post : Pt → Array Value → Option Value → Pt → Prop} {PostX : Pt → Array Value → Addr → Pt → Prop} (hK : vx_Back l R p e below s args y 3 W9 Pre Post PostX)
    {b : Addr} {cellB : Cell} (hcell : T.heap[b]? = some cellB) (hobj : cellB.vm.isStatics = false) (hcls : s.vm.findClass C = some cellB.cls)
    {g : JFrame} (hg : g.method = m) (hsize : g.locals.size = c.maxLocals) {argsL rest : List Value} (hlen : ∀ sig, parseMethodDescriptor y.desc = some sig → argsL.length = sig.parameters.length)
    (hstack : g.stack = argsL.reverse ++ .ref b :: rest) (hW : 2 * g.monitorRoom + (rest.map fun v => v.category).sum ≤ W9) (hdg : decode c.code g.pc = .ok (.invokevirtual index, 3))
    (hpre : ∀ vm₁, s.WarmedH vm₁ → Pre ⟨T.setVm vm₁, locs, cells, slots⟩ (Value.ref b :: argsL).toArray) :
    (∃ (v : Option Value) (vm₁ : Vm) (B : Pt), s.WarmedH vm₁ ∧ Stand p l e R s m args below meth c B.U B.locs B.cells B.slots ∧ Post ⟨T.setVm vm₁, locs, cells, slots⟩ (Value.ref b :: argsL).toArray v B ∧
      ∀ target, Steps p.tables e below (B.U.setTop { g with pc := g.pc + 3, stack := v.toList ++ rest }) target → Steps p.tables e below (T.setTop g) target) ∨
    (∃ (q : Addr) (vm₁ : Vm) (B : Pt), s.WarmedH vm₁ ∧ Stand p l e R s m args below meth c B.U B.locs B.cells B.slots ∧ PostX ⟨T.setVm vm₁, locs, cells, slots⟩ (Value.ref b :: argsL).toArray q B ∧
      Steps p.tables e below (T.setTop g) ((B.U.setTop { g with stack := rest }).pushFrame (.throwing q))) := by
  obtain ⟨mk, methM, hnamed, hmethM, hstM, habM⟩ := Cond.instanceMethod_spec hinst
  obtain ⟨m8, methM', cM, hn8, hmethM', -, -, -, -, -, -, hsigM⟩ := Cond.codeWith_spec hcode
  cases Option.some.inj (hn8.symm.trans hnamed)
  cases hmethM.symm.trans hmethM'
  obtain ⟨c2, r2, m2, q1, q2, q3, q4, kP, hkP, hkPi⟩ := Cond.selects_spec hsel
  cases hcls.symm.trans q1
  cases (State.methodFound?_of_named hnamed hy).symm.trans q2
  cases hnamed.symm.trans q3
  have hselP : selectMethod e.platform s.vm cellB.cls mk = .method mk := by rw [Launch.admits_selectMethod X.admits]; exact q4
  obtain ⟨vm₁, X₁, hstep₁⟩ := X.invokevirtual hexec hown hlink hnamed hmethM hstM hkP hkPi hy (a := b) (cell := cellB) hcell
    (fun z h => by rw [h] at hobj; cases hobj) hselP hmethM habM hkP hkPi (g := g) hg (argsL := argsL) (rest := rest) (hlen _ hsigM) hstack hdg
  rcases hK m meth c ⟨T.setVm vm₁, locs, cells, slots⟩ { g with stack := rest } (.invokevirtual index) mk (Value.ref b :: argsL).toArray X₁ hg hsize hdg hW (X₁.named hnamed) (hpre vm₁ X₁.warmed) with ⟨v, B, X', hpost, hsteps⟩ | ⟨q, B, X', hpost, hsteps⟩
  · exact Or.inl ⟨v, vm₁, B, X₁.warmed, X', hpost, fun target h => hstep₁ _ fun acts => by rw [doInvoke_state]; exact hsteps.trans h⟩
  · exact Or.inr ⟨q, vm₁, B, X₁.warmed, X', hpost, hstep₁ _ fun acts => by rw [doInvoke_state]; exact hsteps⟩
theorem vx_callSX (X : Stand p l e R s m args below meth c T locs cells slots) (hexec : p.tables.exec = Jvm.exec) {own : String} {index : Nat} {y : MethodName} {bytes : ByteArray} {maxL : Nat} {ret : Option FieldType} {hh : List (Nat × Nat × Nat × Nat)}
    (hown : s.vm.findClass own = some m.cls) (hlink : (Cond.methodLink own index y).before args s = true) (hstat : (Cond.static y).before args s = true) (hinit : (Cond.initialized y.cls).before args s = true)
    (hcode : (Cond.codeWith y bytes maxL ret hh).before args s = true) (hy : y.cls ≠ "java/lang/invoke/MethodHandle" ∧ y.cls ≠ "java/lang/invoke/VarHandle")
    {W9 : Nat} {Pre : Pt → Array Value → Prop} {Post : Pt → Array Value → Option Value → Pt → Prop} {PostX : Pt → Array Value → Addr → Pt → Prop} (hK : vx_Back l R p e below s args y 3 W9 Pre Post PostX)
    {g : JFrame} (hg : g.method = m) (hsize : g.locals.size = c.maxLocals) {argsL rest : List Value} (hlen : ∀ sig, parseMethodDescriptor y.desc = some sig → argsL.length = sig.parameters.length)
    (hstack : g.stack = argsL.reverse ++ rest) (hW : 2 * g.monitorRoom + (rest.map fun v => v.category).sum ≤ W9) (hdg : decode c.code g.pc = .ok (.invokestatic index, 3))
    (hpre : ∀ vm₁, s.WarmedH vm₁ → Pre ⟨T.setVm vm₁, locs, cells, slots⟩ argsL.toArray) :
    (∃ (v : Option Value) (vm₁ : Vm) (B : Pt), s.WarmedH vm₁ ∧ Stand p l e R s m args below meth c B.U B.locs B.cells B.slots ∧ Post ⟨T.setVm vm₁, locs, cells, slots⟩ argsL.toArray v B ∧
      ∀ target, Steps p.tables e below (B.U.setTop { g with pc := g.pc + 3, stack := v.toList ++ rest }) target → Steps p.tables e below (T.setTop g) target) ∨
    (∃ (q : Addr) (vm₁ : Vm) (B : Pt), s.WarmedH vm₁ ∧ Stand p l e R s m args below meth c B.U B.locs B.cells B.slots ∧ PostX ⟨T.setVm vm₁, locs, cells, slots⟩ argsL.toArray q B ∧
      Steps p.tables e below (T.setTop g) ((B.U.setTop { g with stack := rest }).pushFrame (.throwing q))) := by
  obtain ⟨mk, methM, cM, hnamed, hmethM, -, -, -, -, -, -, hsigM⟩ := Cond.codeWith_spec hcode
  have hstatic : methM.isStatic = true := Cond.static_spec hnamed hmethM hstat
  obtain ⟨kP, hkP, -⟩ := className_of_methodNamed hnamed
  have hinitP : kP.init = .initialized := Cond.initialized_spec (findClass_of_methodNamed hnamed) hkP hinit
  obtain ⟨vm₁, X₁, hstep₁⟩ := X.invokestatic hexec hown hlink hnamed hmethM hstatic hkP hinitP hy (g := g) hg (argsL := argsL) (rest := rest) (hlen _ hsigM) hstack hdg
  rcases hK m meth c ⟨T.setVm vm₁, locs, cells, slots⟩ { g with stack := rest } (.invokestatic index) mk argsL.toArray X₁ hg hsize hdg hW (X₁.named hnamed) (hpre vm₁ X₁.warmed) with ⟨v, B, X', hpost, hsteps⟩ | ⟨q, B, X', hpost, hsteps⟩
  · exact Or.inl ⟨v, vm₁, B, X₁.warmed, X', hpost, fun target h => hstep₁ _ fun acts => by rw [doInvoke_state]; exact hsteps.trans h⟩
  · exact Or.inr ⟨q, vm₁, B, X₁.warmed, X', hpost, hstep₁ _ fun acts => by rw [doInvoke_state]; exact hsteps⟩
theorem vx_callVW (X : Stand p l e R s m args below meth c T locs cells slots) (hexec : p.tables.exec = Jvm.exec) {own C : String} {index : Nat} {y : MethodName} {bytes : ByteArray} {maxL : Nat} {ret : Option FieldType} {hh : List (Nat × Nat × Nat × Nat)}
    (hown : s.vm.findClass own = some m.cls) (hlink : (Cond.methodLink own index y).before args s = true) (hinst : (Cond.instanceMethod y).before args s = true) (hsel : (Cond.selects C y y).before args s = true)
    (hcode : (Cond.codeWith y bytes maxL ret hh).before args s = true) (hy : y.cls ≠ "java/lang/invoke/MethodHandle" ∧ y.cls ≠ "java/lang/invoke/VarHandle")
    {W9 : Nat} {Pre : Pt → Array Value → Prop} {Post : Pt → Array Value → Option Value → Pt → Prop} (hK : Back l R p e below s args y 3 W9 Pre Post)
    {b : Addr} {cellB : Cell} (hcell : T.heap[b]? = some cellB) (hobj : cellB.vm.isStatics = false) (hcls : s.vm.findClass C = some cellB.cls)
    {g : JFrame} (hg : g.method = m) (hsize : g.locals.size = c.maxLocals) {argsL rest : List Value} (hlen : ∀ sig, parseMethodDescriptor y.desc = some sig → argsL.length = sig.parameters.length)
    (hstack : g.stack = argsL.reverse ++ .ref b :: rest) (hW : 2 * g.monitorRoom + (rest.map fun v => v.category).sum ≤ W9) (hdg : decode c.code g.pc = .ok (.invokevirtual index, 3))
    (hpre : ∀ vm₁, s.WarmedH vm₁ → Pre ⟨T.setVm vm₁, locs, cells, slots⟩ (Value.ref b :: argsL).toArray) :
    ∃ (v : Option Value) (vm₁ : Vm) (B : Pt), s.WarmedH vm₁ ∧ Stand p l e R s m args below meth c B.U B.locs B.cells B.slots ∧ Post ⟨T.setVm vm₁, locs, cells, slots⟩ (Value.ref b :: argsL).toArray v B ∧
      ∀ target, Steps p.tables e below (B.U.setTop { g with pc := g.pc + 3, stack := v.toList ++ rest }) target → Steps p.tables e below (T.setTop g) target := by
  obtain ⟨mk, methM, hnamed, hmethM, hstM, habM⟩ := Cond.instanceMethod_spec hinst
  obtain ⟨m8, methM', cM, hn8, hmethM', -, -, -, -, -, -, hsigM⟩ := Cond.codeWith_spec hcode
  cases Option.some.inj (hn8.symm.trans hnamed)
  cases hmethM.symm.trans hmethM'
  obtain ⟨c2, r2, m2, q1, q2, q3, q4, kP, hkP, hkPi⟩ := Cond.selects_spec hsel
  cases hcls.symm.trans q1
  cases (State.methodFound?_of_named hnamed hy).symm.trans q2
  cases hnamed.symm.trans q3
  have hselP : selectMethod e.platform s.vm cellB.cls mk = .method mk := by rw [Launch.admits_selectMethod X.admits]; exact q4
  obtain ⟨vm₁, X₁, hstep₁⟩ := X.invokevirtual hexec hown hlink hnamed hmethM hstM hkP hkPi hy (a := b) (cell := cellB) hcell
    (fun z h => by rw [h] at hobj; cases hobj) hselP hmethM habM hkP hkPi (g := g) hg (argsL := argsL) (rest := rest) (hlen _ hsigM) hstack hdg
  obtain ⟨v, B, X', hpost, hsteps⟩ := hK m meth c ⟨T.setVm vm₁, locs, cells, slots⟩ { g with stack := rest } (.invokevirtual index) mk (Value.ref b :: argsL).toArray X₁ hg hsize hdg hW (X₁.named hnamed) (hpre vm₁ X₁.warmed)
  exact ⟨v, vm₁, B, X₁.warmed, X', hpost, fun target h => hstep₁ _ fun acts => by rw [doInvoke_state]; exact hsteps.trans h⟩
abbrev vx_CVW (R : Room) (s : State) (args : Array Value) (own C : String) (index : Nat) (y : MethodName) (bytes : ByteArray) (maxL : Nat) (ret : Option FieldType) (hh : List (Nat × Nat × Nat × Nat)) (ws : List Cond) (rm : Room) (mc ms n : Nat) : Prop :=
  (rm.cells = mc ∧ rm.slots = ms ∧ rm.frames + 1 ≤ R.frames ∧ 8 + (maxL + 11) + rm.locals ≤ R.locals ∧ (∀ w ∈ ws, ∀ (a' : Array Value) (U : State), s.WarmedH U.vm → w.before a' U = true) ∧ Cond.codeWith y bytes maxL ret hh ∈ ws) ∧
  (Cond.codeWith y bytes maxL ret hh).before args s = true ∧ (Cond.initialized y.cls).before args s = true ∧ (y.cls ≠ "java/lang/invoke/MethodHandle" ∧ y.cls ≠ "java/lang/invoke/VarHandle") ∧
  (∀ sig, parseMethodDescriptor y.desc = some sig → n = sig.parameters.length) ∧ (Cond.methodLink own index y).before args s = true ∧ (Cond.instanceMethod y).before args s = true ∧ (Cond.selects C y y).before args s = true
theorem vx_cwVW {own C : String} {index maxL mc ms : Nat} {y : MethodName} {bytes : ByteArray} {ret : Option FieldType} {hh : List (Nat × Nat × Nat × Nat)} {Ts ws ws' : List Cond} {rm : Room} (n : Nat) (ht : ∀ w ∈ Ts, w.before args s = true) (hT : GoodIn Ts (wsV own index C y ws)) (hw : ws = Cond.codeWith y bytes maxL ret hh :: ws') (hrc : rm.cells = mc) (hrs : rm.slots = ms)
    (hd : y.cls = C ∧ y.cls ≠ "java/lang/invoke/MethodHandle" ∧ y.cls ≠ "java/lang/invoke/VarHandle" ∧ (parseMethodDescriptor y.desc).map (fun d => d.parameters.length) = some n) (hR : rm.frames + 1 ≤ R.frames ∧ 8 + (maxL + 11) + rm.locals ≤ R.locals) :
    vx_CVW R s args own C index y bytes maxL ret hh ws rm mc ms n := by
  obtain ⟨hC, hd⟩ := hd
  subst hC
  have ok : ∀ w ∈ wsV own index y.cls y ws, w.before args s = true := fun w h => ht w (hT w h).1
  have hG : GoodIn Ts ws := fun w h => hT w (by unfold wsV; exact List.mem_append_right _ h)
  have hc : Cond.codeWith y bytes maxL ret hh ∈ ws := by rw [hw]; exact List.mem_cons_self
  refine ⟨⟨hrc, hrs, hR.1, hR.2, pay_in ht hG, hc⟩, ht _ (hG _ hc).1, ok _ (by simp [wsV]), ⟨hd.1, hd.2.1⟩, fun sig h => ?_, ok _ (by simp [wsV]), ok _ (by simp [wsV]), ok _ (by simp [wsV])⟩
  have h2 := hd.2.2
  rw [h] at h2
  exact (Option.some.inj h2).symm
theorem vx_runVW {y : MethodName} {bytes cc : ByteArray} {maxL nL mc ms n index : Nat} {ret : Option FieldType} {hh : List (Nat × Nat × Nat × Nat)} {ws : List Cond} {rm : Room} {Pc : Array Value → State → Prop} {Qc : Array Value → State → Outcome → State → Prop} {free : Addr → Prop} {Ts : List Cond} {own C : String} {b : Addr} {As rest : List Value} {g : JFrame}
    (S : CallFix p m c cc nL s args Ts own) (hM : Met l y ws rm Pc Qc mc ms free) (cw : vx_CVW R s args own C index y bytes maxL ret hh ws rm mc ms n) (hp : PreV s H C b Pc As)
    (hg : g.method = m) (hn : As.length = n) (hsize : g.locals.size = nL) (hstack : g.stack = As.reverse ++ .ref b :: rest) (hW : 2 * g.monitorRoom + (rest.map fun v => v.category).sum ≤ 8) (hdg : decode cc g.pc = .ok (.invokevirtual index, 3)) (hf : cells + mc ≤ R.cells ∧ slots + ms ≤ R.slots) :
    va_Run p l e R s m args below meth c H locs cells slots mc ms g rest (Qc (Value.ref b :: As).toArray) free := by
  obtain ⟨⟨hrc, hrs, hfr, hlo, hws, hcw⟩, hcode, hini, hy, hlen, hl, hin, hse⟩ := cw
  have hK : Back l R p e below s args y 3 8 (PreOf R mc ms Pc) (PostOf Qc mc ms free) := va_backW (hh := hh) (bytes := bytes) (maxL := maxL) (ret := ret) hM hp.1 hrc hrs hfr hlo hws hcw (fun a' U hW => word_at hW (Or.inl (by first | rfl | simp [Cond.onTables, Cond.keeps, Cond.steady])) hini)
  obtain ⟨hx, hb, hml, ho, -⟩ := S
  obtain ⟨-, ⟨cellB, hcB, hoB, hclB⟩, hPc⟩ := hp
  intro T hT X
  obtain ⟨v, vm₁, ⟨U', l2, c2, s2⟩, hW₁, X', ⟨g', mk, t, L, e1, e2, hq, h1, hL, h2, h3⟩, st⟩ := vx_callVW X hx (C := C) (hh := hh) (bytes := bytes) (maxL := maxL) (ret := ret) ho hl hin hse hcode hy hK (by rw [hT]; exact hcB) hoB hclB hg (hsize.trans hml.symm) (argsL := As) (rest := rest) (fun sig h => hn.trans (hlen sig h)) hstack hW (by rw [hb]; exact hdg)
    (fun vm₁ hW₁ => ⟨hf.1, hf.2, hPc (T.setVm vm₁) hT hW₁⟩)
  dsimp only [Pt.U, Pt.locs, Pt.cells, Pt.slots] at X' e1 e2 h1 h2 h3 st
  subst h1; subst h2; subst h3
  exact ⟨v, (T.setVm vm₁).calling g' mk (Value.ref b :: As).toArray, t, U', L, hT, X', hL, e1, e2, hq, st⟩
section
variable {y : MethodName} {bytes cc : ByteArray} {maxL nL mc ms n index : Nat} {ret : Option FieldType} {ws : List Cond} {rm : Room} {Pc : Array Value → State → Prop} {Qc : Array Value → State → Outcome → State → Prop} {XC : String → State → State → Prop} {free : Addr → Prop} {Ts : List Cond} {own C : String} {b : Addr} {As rest : List Value} {g : JFrame}
theorem vx_runVX {hh : List (Nat × Nat × Nat × Nat)} (S : CallFix p m c cc nL s args Ts own) (hM : vx_Met l y ws rm Pc Qc XC mc ms free) (cw : vx_CVW R s args own C index y bytes maxL ret hh ws rm mc ms n) (hp : PreV s H C b Pc As)
    (hg : g.method = m) (hn : As.length = n) (hsize : g.locals.size = nL) (hstack : g.stack = As.reverse ++ .ref b :: rest) (hW : 2 * g.monitorRoom + (rest.map fun v => v.category).sum ≤ 8) (hdg : decode cc g.pc = .ok (.invokevirtual index, 3)) (hf : cells + mc ≤ R.cells ∧ slots + ms ≤ R.slots) :
    vx_Run p l e R s m args below meth c H locs cells slots mc ms g rest (Qc (Value.ref b :: As).toArray) XC free := by
  obtain ⟨⟨hrc, hrs, hfr, hlo, hws, hcw⟩, hcode, hini, hy, hlen, hl, hin, hse⟩ := cw
  have hK : vx_Back l R p e below s args y 3 8 (PreOf R mc ms Pc) (PostOf Qc mc ms free) (vx_Post XC mc ms free) := vx_backW (hh := hh) (bytes := bytes) (maxL := maxL) (ret := ret) hM hp.1 hrc hrs hfr hlo hws hcw (fun a' U hW => word_at hW (Or.inl (by first | rfl | simp [Cond.onTables, Cond.keeps, Cond.steady])) hini)
  obtain ⟨hx, hb, hml, ho, -⟩ := S
  obtain ⟨-, ⟨cellB, hcB, hoB, hclB⟩, hPc⟩ := hp
  intro T hT X
  rcases vx_callVX X hx (C := C) (hh := hh) (bytes := bytes) (maxL := maxL) (ret := ret) ho hl hin hse hcode hy hK (by rw [hT]; exact hcB) hoB hclB hg (hsize.trans hml.symm) (argsL := As) (rest := rest) (fun sig h => hn.trans (hlen sig h)) hstack hW (by rw [hb]; exact hdg)
    (fun vm₁ hW₁ => ⟨hf.1, hf.2, hPc (T.setVm vm₁) hT hW₁⟩) with ⟨v, vm₁, ⟨U', l2, c2, s2⟩, hW₁, X', ⟨g', mk, t, L, e1, e2, hq, h1, hL, h2, h3⟩, st⟩ | ⟨q, vm₁, ⟨U', l2, c2, s2⟩, hW₁, X', ⟨g', mk, t, L, E, ce, e1, e2, hq, hce, hcv, hcl, h1, hL, h2, h3⟩, st⟩
  · dsimp only [Pt.U, Pt.locs, Pt.cells, Pt.slots] at X' e1 e2 h1 h2 h3 st
    subst h1; subst h2; subst h3
    exact Or.inl ⟨v, (T.setVm vm₁).calling g' mk (Value.ref b :: As).toArray, t, U', L, hT, X', hL, e1, e2, hq, st⟩
  · dsimp only [Pt.U, Pt.locs, Pt.cells, Pt.slots] at X' e1 e2 h1 h2 h3 st hcl
    subst h1; subst h2; subst h3
    exact Or.inr ⟨q, (T.setVm vm₁).calling g' mk (Value.ref b :: As).toArray, t, U', L, E, ce, hT, X', hL, e1, e2, hq, hce, hcv, vx_cls hW₁ hcl, st⟩
theorem vx_runSX {hh : List (Nat × Nat × Nat × Nat)} (S : CallFix p m c cc nL s args Ts own) (hM : vx_Met l y ws rm Pc Qc XC mc ms free) (cw : vx_CSW R s args own index y bytes maxL ret hh ws rm mc ms n) (hp : PreS s H Pc As)
    (hg : g.method = m) (hn : As.length = n) (hsize : g.locals.size = nL) (hstack : g.stack = As.reverse ++ rest) (hW : 2 * g.monitorRoom + (rest.map fun v => v.category).sum ≤ 8) (hdg : decode cc g.pc = .ok (.invokestatic index, 3)) (hf : cells + mc ≤ R.cells ∧ slots + ms ≤ R.slots) :
    vx_Run p l e R s m args below meth c H locs cells slots mc ms g rest (Qc As.toArray) XC free := by
  obtain ⟨⟨hrc, hrs, hfr, hlo, hws, hcw⟩, hcode, hini, hy, hlen, hl, hstt⟩ := cw
  have hK : vx_Back l R p e below s args y 3 8 (PreOf R mc ms Pc) (PostOf Qc mc ms free) (vx_Post XC mc ms free) := vx_backW (hh := hh) (bytes := bytes) (maxL := maxL) (ret := ret) hM hp.1 hrc hrs hfr hlo hws hcw (fun a' U hW => word_at hW (Or.inl (by first | rfl | simp [Cond.onTables, Cond.keeps, Cond.steady])) hini)
  obtain ⟨hx, hb, hml, ho, -⟩ := S
  intro T hT X
  rcases vx_callSX X hx (hh := hh) (bytes := bytes) (maxL := maxL) (ret := ret) ho hl hstt hini hcode hy hK hg (hsize.trans hml.symm) (argsL := As) (rest := rest) (fun sig h => hn.trans (hlen sig h)) hstack hW (by rw [hb]; exact hdg)
    (fun vm₁ hW₁ => ⟨hf.1, hf.2, hp.2 (T.setVm vm₁) hT hW₁⟩) with ⟨v, vm₁, ⟨U', l2, c2, s2⟩, hW₁, X', ⟨g', mk, t, L, e1, e2, hq, h1, hL, h2, h3⟩, st⟩ | ⟨q, vm₁, ⟨U', l2, c2, s2⟩, hW₁, X', ⟨g', mk, t, L, E, ce, e1, e2, hq, hce, hcv, hcl, h1, hL, h2, h3⟩, st⟩
  · dsimp only [Pt.U, Pt.locs, Pt.cells, Pt.slots] at X' e1 e2 h1 h2 h3 st
    subst h1; subst h2; subst h3
    exact Or.inl ⟨v, (T.setVm vm₁).calling g' mk As.toArray, t, U', L, hT, X', hL, e1, e2, hq, st⟩
  · dsimp only [Pt.U, Pt.locs, Pt.cells, Pt.slots] at X' e1 e2 h1 h2 h3 st hcl
    subst h1; subst h2; subst h3
    exact Or.inr ⟨q, (T.setVm vm₁).calling g' mk As.toArray, t, U', L, E, ce, hT, X', hL, e1, e2, hq, hce, hcv, vx_cls hW₁ hcl, st⟩
end
end VXH
theorem vx_ofWH {l : Launch} {y : MethodName} {ws ws' : List Cond} {rm : Room} {Pc : Array Value → State → Prop} {Qc : Array Value → State → Outcome → State → Prop} {XC : String → State → State → Prop} {mc ms : Nat} {free : Addr → Prop} {cc : ByteArray} {maxL : Nat} {ret : Option FieldType} {hh : List (Nat × Nat × Nat × Nat)}
    (hy : plainName y.cls = true) (hw : ws = Cond.codeWith y cc maxL ret hh :: ws')
    (body : ∀ p e s m args below meth c s₁, BodyLoose p l y (headSpec ws rm) cc maxL ret e s m args below meth c s₁ → c.maxLocals = maxL → Pc args s →
      W p l e (headSpec ws rm).room s m args below meth c s.heap [] 0 0 (vx_MQ below Qc XC args s mc ms free) (entryFrame m args maxL)) : vx_Met l y ws rm Pc Qc XC mc ms free := by
  refine MetFree.of_bodyS (code := cc) (maxLocals := maxL) (ret := ret) hy ?_ ?_
  · intro args s m h hn
    obtain ⟨m9, meth, c, hn9, h1, h2, h3, h4, -, h5, h6, -⟩ := Cond.codeWith_spec (atoms_spec (ws := ws) h _ (by rw [hw]; exact List.mem_cons_self))
    cases hn.symm.trans hn9
    exact ⟨meth, c, h1, h2, h3, h4, h5, h6⟩
  · intro p e s m args below meth c s₁ B hml hP _
    have hh0 : s₁.heap = s.heap := by rw [B.state]; rfl
    obtain ⟨t, a1, o, b1, b2, b3⟩ := body p e s m args below meth c s₁ B hml hP s₁ hh0 (Stand.of_body B)
    exact ⟨t, o, a1, b1, b2, b3⟩
/-! ===== END ===== -/
end
section
def RJx4a65c : String := "java/util/ArrayList"
def TJx4a65c : u_T := fun k => match k with
  | 0 => ("java/util/AbstractList", "modCount", "I", false)
  | 1 => ("java/util/ArrayList", "elementData", "[Ljava/lang/Object;", false)
  | _ => ("java/util/ArrayList", "size", "I", false)
def tyJx4a65c : Nat → FieldType := fun k => match k with
  | 0 => .int
  | 1 => .array (.object "java/lang/Object")
  | _ => .int
abbrev wsJx4a65c0 : List Cond := u_ws RJx4a65c TJx4a65c 3
theorem nmJx4a65c : ∀ a, a < 3 → ∀ b, b < 3 → a ≠ b → (TJx4a65c a).2.1 ≠ (TJx4a65c b).2.1 := by decide +kernel
theorem tyJx4a65c_ok : ∀ k, k < 3 → parseFieldDescriptor (TJx4a65c k).2.2.1 = some (tyJx4a65c k) := by decide +kernel
def RX0 : String := "FolderRounds$Cartridge"
def TX0 : u_T := fun k => match k with
  | 0 => ("FolderRounds$Cartridge", "row", "Ljava/util/ArrayList;", true)
  | _ => ("FolderRounds$Cartridge", "table", "LFolderRounds$Table;", true)
def tyX0 : Nat → FieldType := fun k => match k with
  | 0 => .object "java/util/ArrayList"
  | _ => .object "FolderRounds$Table"
abbrev wsX00 : List Cond := u_ws RX0 TX0 2
theorem nmX0 : ∀ a, a < 2 → ∀ b, b < 2 → a ≠ b → (TX0 a).2.1 ≠ (TX0 b).2.1 := by decide +kernel
theorem tyX0_ok : ∀ k, k < 2 → parseFieldDescriptor (TX0 k).2.2.1 = some (tyX0 k) := by decide +kernel
def RX1 : String := "FolderRounds$Station"
def TX1 : u_T := fun k => match k with
  | 0 => ("FolderRounds$Station", "number", "I", true)
  | 1 => ("FolderRounds$Station", "standing", "Ljava/util/ArrayList;", true)
  | _ => ("FolderRounds$Station", "knows", "LFolderRounds$Table;", true)
def tyX1 : Nat → FieldType := fun k => match k with
  | 0 => .int
  | 1 => .object "java/util/ArrayList"
  | _ => .object "FolderRounds$Table"
abbrev wsX10 : List Cond := u_ws RX1 TX1 3
theorem nmX1 : ∀ a, a < 3 → ∀ b, b < 3 → a ≠ b → (TX1 a).2.1 ≠ (TX1 b).2.1 := by decide +kernel
theorem tyX1_ok : ∀ k, k < 3 → parseFieldDescriptor (TX1 k).2.2.1 = some (tyX1 k) := by decide +kernel
def RX2 : String := "FolderRounds$Table"
def TX2 : u_T := fun k => match k with
  | _ => ("FolderRounds$Table", "counters", "[I", true)
def tyX2 : Nat → FieldType := fun k => match k with
  | _ => .array .int
abbrev wsX20 : List Cond := u_ws RX2 TX2 1
theorem nmX2 : ∀ a, a < 1 → ∀ b, b < 1 → a ≠ b → (TX2 a).2.1 ≠ (TX2 b).2.1 := by decide +kernel
theorem tyX2_ok : ∀ k, k < 1 → parseFieldDescriptor (TX2 k).2.2.1 = some (tyX2 k) := by decide +kernel
def RX3 : String := "FolderRounds$Version"
def TX3 : u_T := fun k => match k with
  | 0 => ("FolderRounds$Version", "document", "I", true)
  | 1 => ("FolderRounds$Version", "length", "I", true)
  | 2 => ("FolderRounds$Version", "fill", "I", true)
  | _ => ("FolderRounds$Version", "vector", "[I", true)
def tyX3 : Nat → FieldType := fun k => match k with
  | 0 => .int
  | 1 => .int
  | 2 => .int
  | _ => .array .int
abbrev wsX30 : List Cond := u_ws RX3 TX3 4
theorem nmX3 : ∀ a, a < 4 → ∀ b, b < 4 → a ≠ b → (TX3 a).2.1 ≠ (TX3 b).2.1 := by decide +kernel
theorem tyX3_ok : ∀ k, k < 4 → parseFieldDescriptor (TX3 k).2.2.1 = some (tyX3 k) := by decide +kernel
def RX4 : String := "FolderRounds"
def TX4 : u_T := fun k => match k with
  | 0 => ("FolderRounds", "stations", "[LFolderRounds$Station;", true)
  | 1 => ("FolderRounds", "cartridges", "[LFolderRounds$Cartridge;", true)
  | 2 => ("FolderRounds", "toLoad", "Ljava/util/ArrayList;", true)
  | _ => ("FolderRounds", "leftOutSoFar", "I", false)
def tyX4 : Nat → FieldType := fun k => match k with
  | 0 => .array (.object "FolderRounds$Station")
  | 1 => .array (.object "FolderRounds$Cartridge")
  | 2 => .object "java/util/ArrayList"
  | _ => .int
abbrev wsX40 : List Cond := u_ws RX4 TX4 4
theorem nmX4 : ∀ a, a < 4 → ∀ b, b < 4 → a ≠ b → (TX4 a).2.1 ≠ (TX4 b).2.1 := by decide +kernel
theorem tyX4_ok : ∀ k, k < 4 → parseFieldDescriptor (TX4 k).2.2.1 = some (tyX4 k) := by decide +kernel
def RX5 : String := "FolderRoundsModel"
def TX5 : u_T := fun k => match k with
  | 0 => ("FolderRoundsModel", "thrown", "I", false)
  | 1 => ("FolderRoundsModel", "versions", "I", false)
  | 2 => ("FolderRoundsModel", "documentOf", "[I", true)
  | 3 => ("FolderRoundsModel", "makerOf", "[I", true)
  | 4 => ("FolderRoundsModel", "lengthOf", "[I", true)
  | 5 => ("FolderRoundsModel", "fillOf", "[I", true)
  | 6 => ("FolderRoundsModel", "vectorOf", "[I", true)
  | 7 => ("FolderRoundsModel", "stands", "[I", true)
  | 8 => ("FolderRoundsModel", "known", "[I", true)
  | 9 => ("FolderRoundsModel", "loaded", "[I", true)
  | 10 => ("FolderRoundsModel", "row", "[I", true)
  | _ => ("FolderRoundsModel", "leftOut", "I", false)
def tyX5 : Nat → FieldType := fun k => match k with
  | 0 => .int
  | 1 => .int
  | 2 => .array .int
  | 3 => .array .int
  | 4 => .array .int
  | 5 => .array .int
  | 6 => .array .int
  | 7 => .array .int
  | 8 => .array .int
  | 9 => .array .int
  | 10 => .array .int
  | _ => .int
abbrev wsX50 : List Cond := u_ws RX5 TX5 12
theorem nmX5 : ∀ a, a < 12 → ∀ b, b < 12 → a ≠ b → (TX5 a).2.1 ≠ (TX5 b).2.1 := by decide +kernel
theorem tyX5_ok : ∀ k, k < 12 → parseFieldDescriptor (TX5 k).2.2.1 = some (tyX5 k) := by decide +kernel
/-- the classes whose objects the abstract heap holds: 0 ArrayList, 1 Cartridge, 2 Station, 3 Table, 4 Version, 5 FolderRounds, 6 FolderRoundsModel -/
abbrev gCl : List vw_C := [(RJx4a65c, TJx4a65c, 3), (RX0, TX0, 2), (RX1, TX1, 3), (RX2, TX2, 1), (RX3, TX3, 4), (RX4, TX4, 4), (RX5, TX5, 12)]
/-- the words that keep -/
def gW : List Cond := lw_tbl.filter goodWord
theorem gW_good {w : Cond} (h : w ∈ gW) : (w.onTables && w.keeps) = true ∨ ∃ ty, w = .arrayClass ty := good_of_word (List.mem_filter.mp h).2
theorem gW_in {w : Cond} (i : Nat) (h : lw_tbl[i]? = some w) (hg : goodWord w = true) : w ∈ gW := List.mem_filter.mpr ⟨List.mem_of_getElem? h, hg⟩
/-- a list of words, each at its place -/
theorem gW_all (ws : List Cond) (ps : List Nat) (h : ws = ps.filterMap (fun i => lw_tbl[i]?)) (hg : ws.all goodWord = true) : ∀ w ∈ ws, w ∈ gW := by
  intro w hw
  have h1 := List.all_eq_true.mp hg w hw
  rw [h] at hw
  obtain ⟨i, -, hi⟩ := List.mem_filterMap.mp hw
  exact gW_in i hi h1
end
section
/-! ===== the abstract heap, the judgement GW, contracts SM ===== -/
abbrev gE : Type := (Nat × List Value) ⊕ ((Nat × (Nat → Int32)) ⊕ ((Nat × (Nat → Int64)) ⊕ (Nat × Nat × (Nat → Option Nat))))
abbrev gHp : Type := Nat → Option gE
abbrev gO (ci : Nat) (fs : List Value) : gE := .inl (ci, fs)
abbrev gI (n : Nat) (f : Nat → Int32) : gE := .inr (.inl (n, f))
abbrev gL (n : Nat) (f : Nat → Int64) : gE := .inr (.inr (.inl (n, f)))
abbrev gR (k n : Nat) (f : Nat → Option Nat) : gE := .inr (.inr (.inr (k, n, f)))
/-- the classes' numbers and slots, the array classes, the base, ArrayList's empty array, the mirror of Object[] -/
abbrev gG : Type := va_G × (Nat → ClassId) × Nat × Nat × Nat
def gCy (G : gG) : Nat → ClassId := G.2.1
def gBase (G : gG) : Nat := G.2.2.1
def gDce (G : gG) : Nat := G.2.2.2.1
def gMi (G : gG) : Nat := G.2.2.2.2
def gA (G : gG) : Nat → Prop := fun q => gBase G ≤ q
def gTys (G : gG) : List (ClassId × FieldType) := [(gCy G 0, .int), (gCy G 1, .long), (gCy G 2, .object "FolderRounds$Station"), (gCy G 3, .object "FolderRounds$Cartridge"), (gCy G 4, .object "java/lang/Object")]
def gv (G : gG) : gE → va_E
  | .inl o => .inr o
  | .inr (.inl x) => .inl (gCy G 0, x.1, .inl x.2)
  | .inr (.inr (.inl x)) => .inl (gCy G 1, x.1, .inr (.inl x.2))
  | .inr (.inr (.inr x)) => .inl (gCy G x.1, x.2.1, .inr (.inr (.inr (.inr x.2.2))))
def gRep (G : gG) (h : gHp) (H : Heap) : Prop := ∀ (a : Nat) (e : gE), h a = some e → gA G a ∧ va_at G.1 gCl (a, gv G e) H
def gUp (h : gHp) (a : Nat) (e : gE) : gHp := fun b => if b = a then some e else h b
theorem gUp_self (h : gHp) (a : Nat) (e : gE) : gUp h a e a = some e := by simp [gUp]
theorem gUp_ne (h : gHp) {a b : Nat} (e : gE) (hb : b ≠ a) : gUp h a e b = h b := by simp [gUp, hb]
theorem gRep.lt {G : gG} {h : gHp} {H : Heap} (hR : gRep G h H) {a : Nat} {e : gE} (ha : h a = some e) : a < H.size := (hR a e ha).2.lt
theorem gRep.put {G : gG} {h : gHp} {H H1 : Heap} {a : Nat} {e : gE} (hR : gRep G h H) (hA : gA G a) (he : va_at G.1 gCl (a, gv G e) H1) (ho : ∀ q : Nat, q ≠ a → H1[q]? = H[q]?) : gRep G (gUp h a e) H1 := by
  intro b x hb
  by_cases hq : b = a
  · subst hq
    rw [gUp_self] at hb
    cases hb
    exact ⟨hA, he⟩
  · rw [gUp_ne _ _ hq] at hb
    exact ⟨(hR b x hb).1, (hR b x hb).2.kept (ho b hq)⟩
theorem gRep.push {G : gG} {h : gHp} {H H1 : Heap} {e : gE} (hR : gRep G h H) (hA : gA G H.size) (he : va_at G.1 gCl (H.size, gv G e) H1) (ho : ∀ q : Nat, q < H.size → H1[q]? = H[q]?) : gRep G (gUp h H.size e) H1 := by
  intro b x hb
  by_cases hq : b = H.size
  · subst hq
    rw [gUp_self] at hb
    cases hb
    exact ⟨hA, he⟩
  · rw [gUp_ne _ _ hq] at hb
    exact ⟨(hR b x hb).1, (hR b x hb).2.kept (ho b (hR.lt hb))⟩
theorem gRep.grow {G : gG} {h : gHp} {H H1 : Heap} (hR : gRep G h H) (ho : ∀ q : Nat, q < H.size → H1[q]? = H[q]?) : gRep G h H1 :=
  fun b x hb => ⟨(hR b x hb).1, (hR b x hb).2.kept (ho b (hR.lt hb))⟩
/-- words that aren't kept by warming of themselves -/
def gNwl : List Cond := [.castable "FolderRounds$Version" "java/lang/Object", .castable "java/util/NoSuchElementException" "java/util/NoSuchElementException", .castable "java/lang/IllegalArgumentException" "java/lang/IllegalArgumentException", .castable "java/lang/UnsupportedOperationException" "java/lang/UnsupportedOperationException", .castable "java/lang/IndexOutOfBoundsException" "java/lang/IndexOutOfBoundsException", .declares ⟨"java/lang/RuntimeException", "<init>", "()V"⟩, .declares ⟨"java/lang/Exception", "<init>", "()V"⟩, .declares ⟨"java/lang/Throwable", "<init>", "()V"⟩]
def gNc : List (String × String) := [("java/lang/IllegalArgumentException", "java/util/NoSuchElementException"), ("java/lang/UnsupportedOperationException", "java/util/NoSuchElementException"), ("java/lang/UnsupportedOperationException", "java/lang/IllegalArgumentException"), ("java/lang/IndexOutOfBoundsException", "java/util/NoSuchElementException")]
def gK (G : gG) (U : State) : Prop := va_K G.1 gCl (gTys G) U ∧ (∀ c ∈ gNwl, va_Nw c U) ∧ (∀ q ∈ gNc, va_Nc q.1 q.2 U) ∧ va_Dc U ∧ (va_AO "FolderRounds$Station" U ∧ va_AO "FolderRounds$Cartridge" U ∧ va_AO "java/lang/Object" U) ∧ va_Mi "[Ljava/lang/Object;" (gMi G) U
def gS (G : gG) (U : State) (H : Heap) : Prop := va_Z "java/util/ArrayList" "DEFAULTCAPACITY_EMPTY_ELEMENTDATA" "[Ljava/lang/Object;" (.ref (gDce G)) (gA G) U H ∧ (∃ f : Nat → Value, va_T (.object "java/lang/Object") (gDce G) 0 f (gA G) U H) ∧ vx_Zq Bundle.tN "UNASSIGNED_STACK" Bundle.steD (gA G) U H ∧ vx_Zq Bundle.tN "SUPPRESSED_SENTINEL" Bundle.listD (gA G) U H
theorem gNw_castable {C T : String} {u U : State} (hvm : u.vm.Alike U.vm) (h : va_Nw (.castable C T) u) : va_Nw (.castable C T) U := va_tabs rfl (rfl : (u.setVm U.vm).vm = U.vm) (by rw [Cond.castable_setVm hvm]; exact h)
theorem gNw_declares {x : MethodName} {u U : State} (hvm : u.vm.Alike U.vm) (h : va_Nw (.declares x) u) : va_Nw (.declares x) U := va_tabs rfl (rfl : (u.setVm U.vm).vm = U.vm) (by rw [Cond.declares_setVm hvm]; exact h)
theorem gNwl_kind : ∀ c ∈ gNwl, (∃ a b, c = .castable a b) ∨ ∃ x, c = .declares x := by
  intro c hc
  simp only [gNwl, List.mem_cons, List.not_mem_nil, or_false] at hc
  rcases hc with rfl | rfl | rfl | rfl | rfl | rfl | rfl | rfl
  all_goals first | exact Or.inl ⟨_, _, rfl⟩ | exact Or.inr ⟨_, rfl⟩
theorem gNwl_moved {u U : State} (hvm : u.vm.Alike U.vm) {c : Cond} (hc : c ∈ gNwl) (h : va_Nw c u) : va_Nw c U := by
  rcases gNwl_kind c hc with ⟨a, b, rfl⟩ | ⟨x, rfl⟩
  · exact gNw_castable hvm h
  · exact gNw_declares hvm h
theorem gK.moved {G : gG} {u U : State} (hvm : u.vm.Alike U.vm) (h : gK G u) : gK G U := by
  obtain ⟨h1, h2, h3, h4, ⟨h5, h6, h7⟩, h8⟩ := h
  exact ⟨h1.moved hvm, fun q hq => gNwl_moved hvm hq (h2 q hq), fun q hq => (h3 q hq).moved hvm, h4.moved hvm, ⟨h5.moved hvm, h6.moved hvm, h7.moved hvm⟩, h8.moved hvm⟩
theorem gS.moved {G : gG} {u U : State} {H : Heap} (hvm : u.vm.Alike U.vm) (h : gS G u H) : gS G U H := by
  obtain ⟨h1, ⟨f, h2⟩, h3, h4⟩ := h
  exact ⟨h1.moved hvm, ⟨f, h2.moved hvm⟩, h3.moved hvm, h4.moved hvm⟩
theorem gS.kept {G : gG} {U : State} {H H1 : Heap} (h : gS G U H) (hq : ∀ a : Nat, a < H.size → ¬ gA G a → H1[a]? = H[a]?) : gS G U H1 := by
  obtain ⟨h1, ⟨f, h2⟩, h3, h4⟩ := h
  exact ⟨h1.kept hq, ⟨f, h2.kept hq⟩, h3.kept hq, h4.kept hq⟩
/-- locals, by place; every value takes one slot -/
def gLs (ls : Array Slot) (nL : Nat) (lv : List (Option Value)) : Prop := lv.length = nL ∧ ls.size = nL ∧ lv_wf ls ∧ ∀ (i : Nat) (v : Value), lv[i]? = some (some v) → ls[i]? = some (.val v) ∧ v.category = 1
def gAs (i : Nat) : List (Option Value) → List (Nat × Value)
  | [] => []
  | none :: r => gAs (i + 1) r
  | some v :: r => (i, v) :: gAs (i + 1) r
theorem gAs_mem : ∀ (lv : List (Option Value)) (i : Nat) (q : Nat × Value), q ∈ gAs i lv ↔ i ≤ q.1 ∧ lv[q.1 - i]? = some (some q.2)
  | [], i, q => by simp [gAs]
  | none :: r, i, q => by
    rw [gAs, gAs_mem r (i + 1) q]
    rcases Nat.lt_trichotomy q.1 i with h | h | h
    · constructor
      · rintro ⟨h1, -⟩; omega
      · rintro ⟨h1, -⟩; omega
    · subst h; simp; intro h1; omega
    · have e : q.1 - i = (q.1 - (i + 1)) + 1 := by omega
      rw [e, List.getElem?_cons_succ]
      constructor
      · rintro ⟨h1, h2⟩; exact ⟨by omega, h2⟩
      · rintro ⟨h1, h2⟩; exact ⟨by omega, h2⟩
  | some v :: r, i, q => by
    rw [gAs, List.mem_cons, gAs_mem r (i + 1) q]
    rcases Nat.lt_trichotomy q.1 i with h | h | h
    · constructor
      · rintro (rfl | ⟨h1, -⟩)
        · exact absurd h (Nat.lt_irrefl _)
        · omega
      · rintro ⟨h1, -⟩; omega
    · constructor
      · rintro (rfl | ⟨h1, -⟩)
        · simp
        · omega
      · rintro ⟨h1, h2⟩
        subst h
        simp at h2
        left
        rw [h2]
    · have e : q.1 - i = (q.1 - (i + 1)) + 1 := by omega
      rw [e, List.getElem?_cons_succ]
      constructor
      · rintro (rfl | ⟨h1, h2⟩)
        · exact absurd h (Nat.lt_irrefl _)
        · exact ⟨by omega, h2⟩
      · rintro ⟨h1, h2⟩; exact Or.inr ⟨by omega, h2⟩
theorem gLs.has {ls : Array Slot} {nL : Nat} {lv : List (Option Value)} (h : gLs ls nL lv) : lv_has ls nL (gAs 0 lv) := by
  refine ⟨h.2.1, h.2.2.1, fun q hq => ?_⟩
  have h1 := ((gAs_mem lv 0 q).mp hq).2
  exact (h.2.2.2 q.1 q.2 (by simpa using h1)).1
theorem gLs.stored {ls ls' : Array Slot} {nL : Nat} {lv : List (Option Value)} {i : Nat} {v : Value} (h : gLs ls nL lv) (hi : i < nL) (hc : v.category = 1) (h' : lv_has ls' nL ((i, v) :: (gAs 0 lv).filter (fun q => !(q.1 == i) && !(q.1 + 1 == i && q.2.category == 2)))) : gLs ls' nL (lv.set i (some v)) := by
  refine ⟨by rw [List.length_set]; exact h.1, h'.1, h'.2.1, fun j w hj => ?_⟩
  by_cases hji : j = i
  · subst hji
    rw [List.getElem?_set_self (by rw [h.1]; exact hi)] at hj
    cases hj
    exact ⟨h'.2.2 _ List.mem_cons_self, hc⟩
  · rw [List.getElem?_set_ne (Ne.symm hji)] at hj
    have hw := (h.2.2.2 j w hj).2
    refine ⟨h'.2.2 (j, w) (List.mem_cons_of_mem _ (List.mem_filter.mpr ⟨(gAs_mem lv 0 (j, w)).mpr ⟨Nat.zero_le _, by simpa using hj⟩, ?_⟩)), hw⟩
    simp [hji, hw]
/-- a method: its code, locals, class, name, handlers, result -/
abbrev gM : Type := ByteArray × Nat × String × String × List (Nat × Nat × Nat × Nat) × Option FieldType
def gFix (G : gG) (M : gM) (p : Program) (s : State) (m : MethodId) (args : Array Value) (meth : Method) (c : Code) : Prop :=
  p.tables.exec = Jvm.exec ∧ c.code = M.1 ∧ c.maxLocals = M.2.1 ∧ s.vm.findClass M.2.2.1 = some m.cls ∧ (∀ w ∈ gW, w.before args s = true) ∧ meth.name = M.2.2.2.1 ∧ c.exceptionTable.toList = tableOf M.2.2.2.2.1 ∧ meth.sig.returnType = M.2.2.2.2.2 ∧ meth.locks = false ∧ gK G s ∧ gS G s s.heap ∧ gBase G ≤ s.heap.size
def GW (G : gG) (l : Launch) (Z : State → Array Value → List Frame → State → Prop) (R : Room) (M : gM) (pc : Nat) (lv : List (Option Value)) (st : List Value) (h : gHp) (sz k w : Nat) : Prop :=
  ∀ (p : Program) (e : Env) (s : State) (m : MethodId) (args : Array Value) (below : List Frame) (meth : Method) (c : Code) (H : Heap) (locs : List Loc) (ls : Array Slot), gFix G M p s m args meth c → va_S (gA G) s.heap H locs → gRep G h H → H.size = sz → gLs ls M.2.1 lv →
    W p l e R s m args below meth c H locs k w (Z s args below) (F0 m pc ls st)
/-- the same, with an exception of class E thrown over the frame -/
def GX (G : gG) (l : Launch) (Z : State → Array Value → List Frame → State → Prop) (R : Room) (M : gM) (pc : Nat) (lv : List (Option Value)) (st : List Value) (h : gHp) (sz k w : Nat) (E : String) : Prop :=
  ∀ (p : Program) (e : Env) (s : State) (m : MethodId) (args : Array Value) (below : List Frame) (meth : Method) (c : Code) (H : Heap) (locs : List Loc) (ls : Array Slot) (q : Addr) (ce : Cell), gFix G M p s m args meth c → va_S (gA G) s.heap H locs → gRep G h H → H.size = sz → gLs ls M.2.1 lv →
    H[q]? = some ce → ce.vm = .none → s.vm.findClass E = some ce.cls → vx_W p l e R s m args below meth c H locs k w (Z s args below) (F0 m pc ls st) q
/-- what comes out of a method: an answer, or an exception by its class -/
abbrev gRs : Type := Option Value ⊕ String
def gQ (G : gG) (Q : gRs → gHp → Nat → Prop) : Array Value → State → Outcome → State → Prop := fun _ st o t => ∃ (v : Option Value) (h' : gHp), o = .returned v ∧ gRep G h' t.heap ∧ Q (.inl v) h' t.heap.size ∧ va_F (gA G) st t
def gX (G : gG) (Q : gRs → gHp → Nat → Prop) : String → State → State → Prop := fun E st t => ∃ h' : gHp, gRep G h' t.heap ∧ Q (.inr E) h' t.heap.size ∧ va_F (gA G) st t
def gZ (G : gG) (Q : gRs → gHp → Nat → Prop) (MC MS : Nat) : State → Array Value → List Frame → State → Prop := fun s args below => vx_MQ below (gQ G Q) (gX G Q) args s MC MS (gA G)
def gRoom (d MC MS : Nat) : Room := { frames := 16 * d, cells := MC, slots := MS, locals := 128 * d }
def gPc (G : gG) (av : List Value) (h : gHp) (sz : Nat) : Array Value → State → Prop := va_Pc av (fun U => gK G U ∧ gS G U U.heap ∧ gBase G ≤ U.heap.size ∧ gRep G h U.heap ∧ U.heap.size = sz)
/-- the word of a method's code -/
def gCode (y : MethodName) (M : gM) : Cond := if M.2.2.2.2.1 = [] then .code y M.1 M.2.1 M.2.2.2.2.2 else .codeWith y M.1 M.2.1 M.2.2.2.2.2 M.2.2.2.2.1
def gWs (y : MethodName) (M : gM) : List Cond := gCode y M :: gW
/-- the contract of method y at this world: it returns or throws with Q, makes at most mc cells of ms slots -/
def SM (G : gG) (l : Launch) (d : Nat) (y : MethodName) (M : gM) (av : List Value) (h : gHp) (sz mc ms : Nat) (Q : gRs → gHp → Nat → Prop) : Prop :=
  vx_Met l y (gWs y M) (gRoom d mc ms) (gPc G av h sz) (gQ G Q) (gX G Q) mc ms (gA G)
theorem gPc_blind {G : gG} {av : List Value} {h : gHp} {sz : Nat} : FrameBlind (gPc G av h sz) := by
  intro a U g mk q
  obtain ⟨q0, q1, q2, q3, q4, q5⟩ := q
  exact ⟨q0, q1.moved (u := U) (U := U.calling g mk a) (Vm.Alike.refl U.vm), q2.moved (u := U) (U := U.calling g mk a) (Vm.Alike.refl U.vm), q3, q4, q5⟩
theorem gPc_at {G : gG} {av : List Value} {h : gHp} {sz : Nat} {s : State} {H : Heap} {locs : List Loc} (hK : gK G s) (hZ : gS G s s.heap) (hb : gBase G ≤ s.heap.size) (hS : va_S (gA G) s.heap H locs) (hR : gRep G h H) (hz : H.size = sz) : ∀ U : State, U.heap = H → s.WarmedH U.vm → gPc G av h sz av.toArray U := by
  intro U hU hW
  refine ⟨rfl, hK.moved hW.alike, ?_, ?_, ?_, ?_⟩
  · rw [hU]; exact (hZ.kept hS.2.1).moved hW.alike
  · rw [hU]; exact Nat.le_trans hb hS.1
  · rw [hU]; exact hR
  · rw [hU]; exact hz
theorem gGood {y : MethodName} {M : gM} (hc : gCode y M ∈ gW) : GoodIn gW (gWs y M) := by
  intro w hw
  rcases List.mem_cons.mp hw with rfl | h
  · exact ⟨hc, gW_good hc⟩
  · exact ⟨h, gW_good h⟩
theorem vx_Met.toMet {l : Launch} {y : MethodName} {ws : List Cond} {rm : Room} {Pc : Array Value → State → Prop} {Qc : Array Value → State → Outcome → State → Prop} {XC : String → State → State → Prop} {mc ms : Nat} {free : Addr → Prop} (h : vx_Met l y ws rm Pc Qc XC mc ms free) (hX : ∀ E st t, ¬ XC E st t) : Met l y ws rm Pc Qc mc ms free := by
  intro p e h1 h2 h3 s m args below h4 h5 h6 h7
  obtain ⟨n, o, a1, a2, a3, a4⟩ := h p e h1 h2 h3 s m args below h4 h5 h6 h7
  refine ⟨n, o, a1, a2, a3, ?_⟩
  rcases a4 with a4 | ⟨q, -, E, ce, L, hx, -⟩
  · exact a4
  · exact absurd hx (hX _ _ _)
theorem SM.mono {G : gG} {l : Launch} {d : Nat} {y : MethodName} {M : gM} {av : List Value} {h : gHp} {sz mc ms : Nat} {Q Q' : gRs → gHp → Nat → Prop} (hM : SM G l d y M av h sz mc ms Q) (hQ : ∀ r h' sz', Q r h' sz' → Q' r h' sz') : SM G l d y M av h sz mc ms Q' := by
  intro p e h1 h2 h3 s m args below h4 h5 h6 h7
  obtain ⟨n, o, a1, a2, a3, a4⟩ := hM p e h1 h2 h3 s m args below h4 h5 h6 h7
  refine ⟨n, o, a1, a2, a3, ?_⟩
  rcases a4 with ⟨⟨v, h', b1, b2, b3, b4⟩, a5⟩ | ⟨q, b0, E, ce, L, ⟨h', b2, b3, b4⟩, b5⟩
  · exact Or.inl ⟨⟨v, h', b1, b2, hQ _ _ _ b3, b4⟩, a5⟩
  · exact Or.inr ⟨q, b0, E, ce, L, ⟨h', b2, hQ _ _ _ b3, b4⟩, b5⟩
end
section
/-! ===== a row an instruction, over GW ===== -/
def gD (M : gM) (pc : Nat) (i : Instr) (n pc' : Nat) : Prop := decode M.1 pc = .ok (i, n) ∧ pc + n = pc'
def gB (M : gM) (pc : Nat) (i : Instr) (off : Int) (pc' tgt : Nat) : Prop := decode M.1 pc = .ok (i, 3) ∧ pc + 3 = pc' ∧ (pc : Int) + off = (tgt : Int)
/-- a constant is pushed -/
def gN (M : gM) (pc : Nat) (v : Int32) (pc' : Nat) : Prop := (∃ n : Int, decode M.1 pc = .ok (.iconst n, 1) ∧ Int32.ofInt n = v ∧ pc + 1 = pc') ∨ (∃ n : Int, decode M.1 pc = .ok (.bipush n, 2) ∧ (Int8.ofInt n).toInt32 = v ∧ pc + 2 = pc') ∨ (∃ n : Int, decode M.1 pc = .ok (.sipush n, 3) ∧ (Int16.ofInt n).toInt32 = v ∧ pc + 3 = pc') ∨ (∃ i : Nat, decode M.1 pc = .ok (.ldc i, 2) ∧ Cond.constant M.2.2.1 i v ∈ gW ∧ pc + 2 = pc')
def gIl (M : gM) (pc i pc' : Nat) : Prop := (decode M.1 pc = .ok (.iload i, 2) ∧ pc + 2 = pc') ∨ (∃ k : Fin 4, decode M.1 pc = .ok (.iload_n k, 1) ∧ (k : Nat) = i ∧ pc + 1 = pc')
def gAl (M : gM) (pc i pc' : Nat) : Prop := (decode M.1 pc = .ok (.aload i, 2) ∧ pc + 2 = pc') ∨ (∃ k : Fin 4, decode M.1 pc = .ok (.aload_n k, 1) ∧ (k : Nat) = i ∧ pc + 1 = pc')
def gIs (M : gM) (pc i pc' : Nat) : Prop := (decode M.1 pc = .ok (.istore i, 2) ∧ pc + 2 = pc') ∨ (∃ k : Fin 4, decode M.1 pc = .ok (.istore_n k, 1) ∧ (k : Nat) = i ∧ pc + 1 = pc')
def gAst (M : gM) (pc i pc' : Nat) : Prop := (decode M.1 pc = .ok (.astore i, 2) ∧ pc + 2 = pc') ∨ (∃ k : Fin 4, decode M.1 pc = .ok (.astore_n k, 1) ∧ (k : Nat) = i ∧ pc + 1 = pc')
def gIc (M : gM) (pc i : Nat) (v : Int32) (pc' : Nat) : Prop := ∃ n : Int, decode M.1 pc = .ok (.iinc i n, 3) ∧ Int32.ofInt n = v ∧ pc + 3 = pc'
/-- the field of an instruction: number kf of class ci -/
def gFl (M : gM) (idx ci kf : Nat) : Prop := ∃ (C : String) (T : u_T) (N : Nat) (ref : String), gCl[ci]? = some (C, T, N) ∧ kf < N ∧ Cond.fieldLink M.2.2.1 idx ref (T kf).2.1 (T kf).2.2.1 ∈ gW ∧ (∀ w ∈ u_ws C T N, w ∈ gW) ∧ (ref = (T kf).1 ∨ Cond.sameField ref (T kf).1 (T kf).2.1 (T kf).2.2.1 ∈ gW)
def gGf (M : gM) (pc ci kf pc' : Nat) : Prop := ∃ idx : Nat, decode M.1 pc = .ok (.getfield idx, 3) ∧ pc + 3 = pc' ∧ gFl M idx ci kf
/-- .. that is written: its type and why it may be -/
def gPf (M : gM) (pc ci kf : Nat) (ty : FieldType) (pc' : Nat) : Prop := ∃ idx : Nat, decode M.1 pc = .ok (.putfield idx, 3) ∧ pc + 3 = pc' ∧ ∃ (C : String) (T : u_T) (N : Nat) (ref : String) (ty0 : Nat → FieldType), gCl[ci]? = some (C, T, N) ∧ kf < N ∧ Cond.fieldLink M.2.2.1 idx ref (T kf).2.1 (T kf).2.2.1 ∈ gW ∧ (∀ w ∈ u_ws C T N, w ∈ gW) ∧ (ref = (T kf).1 ∨ Cond.sameField ref (T kf).1 (T kf).2.1 (T kf).2.2.1 ∈ gW) ∧
  (∀ k, k < N → parseFieldDescriptor (T k).2.2.1 = some (ty0 k)) ∧ (∀ a, a < N → ∀ b, b < N → a ≠ b → (T a).2.1 ≠ (T b).2.1) ∧ parseFieldDescriptor (T kf).2.2.1 = some ty ∧ ((T kf).2.2.2 = false ∨ ((T kf).2.2.2 = true ∧ M.2.2.2.1 = "<init>" ∧ (T kf).1 = M.2.2.1))
section Rows
variable {G : gG} {l : Launch} {Z : State → Array Value → List Frame → State → Prop} {R : Room} {M : gM} {pc pc' : Nat} {lv : List (Option Value)} {st : List Value} {h : gHp} {sz k w : Nat}
theorem GW.wf (kk : (∀ a e, h a = some e → gBase G ≤ a ∧ a < sz) → GW G l Z R M pc lv st h sz k w) : GW G l Z R M pc lv st h sz k w := by
  intro p e s m args below meth c H locs ls F hS hR hz hl
  exact kk (fun a x hx => ⟨(hR a x hx).1, hz ▸ hR.lt hx⟩) p e s m args below meth c H locs ls F hS hR hz hl
theorem GW.base (kk : gBase G ≤ sz → GW G l Z R M pc lv st h sz k w) : GW G l Z R M pc lv st h sz k w := by
  intro p e s m args below meth c H locs ls F hS hR hz hl
  exact kk (hz ▸ Nat.le_trans F.2.2.2.2.2.2.2.2.2.2.2 hS.1) p e s m args below meth c H locs ls F hS hR hz hl
theorem GW.widen {k' w' : Nat} (h1 : k ≤ k') (h2 : w ≤ w') (kk : GW G l Z R M pc lv st h sz k' w') : GW G l Z R M pc lv st h sz k w := by
  intro p e s m args below meth c H locs ls F hS hR hz hl
  exact W.widen h1 h2 (kk p e s m args below meth c H locs ls F hS hR hz hl)
theorem GX.widen {E : String} {k' w' : Nat} (h1 : k ≤ k') (h2 : w ≤ w') (kk : GX G l Z R M pc lv st h sz k' w' E) : GX G l Z R M pc lv st h sz k w E := by
  intro p e s m args below meth c H locs ls q ce F hS hR hz hl h3 h4 h5
  exact vx_widen h1 h2 (kk p e s m args below meth c H locs ls q ce F hS hR hz hl h3 h4 h5)
/-- the world may be told otherwise -/
theorem GW.heap {h' : gHp} (he : ∀ a e, h' a = some e → h a = some e) (kk : GW G l Z R M pc lv st h' sz k w) : GW G l Z R M pc lv st h sz k w := by
  intro p e s m args below meth c H locs ls F hS hR hz hl
  exact kk p e s m args below meth c H locs ls F hS (fun a x hx => hR a x (he a x hx)) hz hl
theorem gw_push {v : Int32} (hd : gN M pc v pc') (kk : GW G l Z R M pc' lv (.int v :: st) h sz k w) : GW G l Z R M pc lv st h sz k w := by
  intro p e s m args below meth c H locs ls F hS hR hz hl
  have K := kk p e s m args below meth c H locs ls F hS hR hz hl
  rcases hd with ⟨n, h1, h2, rfl⟩ | ⟨n, h1, h2, rfl⟩ | ⟨n, h1, h2, rfl⟩ | ⟨i, h1, h2, rfl⟩
  · exact lv_iconst F.1 F.2.1 h1 h2 K
  · exact lv_bipush F.1 F.2.1 h1 h2 K
  · exact lv_sipush F.1 F.2.1 h1 h2 K
  · exact lv_ldc F.1 F.2.1 F.2.2.2.1 (F.2.2.2.2.1 _ h2) h1 K
theorem gw_iload {i : Nat} {x : Int32} (hd : gIl M pc i pc') (hv : lv[i]? = some (some (.int x))) (kk : GW G l Z R M pc' lv (.int x :: st) h sz k w) : GW G l Z R M pc lv st h sz k w := by
  intro p e s m args below meth c H locs ls F hS hR hz hl
  have K := kk p e s m args below meth c H locs ls F hS hR hz hl
  rcases hd with ⟨h1, rfl⟩ | ⟨n, h1, h2, rfl⟩
  · exact lv_iload F.1 F.2.1 h1 (hl.2.2.2 i _ hv).1 K
  · exact lv_iload_n F.1 F.2.1 h1 h2 (hl.2.2.2 i _ hv).1 K
theorem gw_aload {i : Nat} {x : Nat} (hd : gAl M pc i pc') (hv : lv[i]? = some (some (.ref x))) (kk : GW G l Z R M pc' lv (.ref x :: st) h sz k w) : GW G l Z R M pc lv st h sz k w := by
  intro p e s m args below meth c H locs ls F hS hR hz hl
  have K := kk p e s m args below meth c H locs ls F hS hR hz hl
  rcases hd with ⟨h1, rfl⟩ | ⟨n, h1, h2, rfl⟩
  · exact lv_aload F.1 F.2.1 h1 (hl.2.2.2 i _ hv).1 K
  · exact lv_aload_n F.1 F.2.1 h1 h2 (hl.2.2.2 i _ hv).1 K
theorem gw_aloadN {i : Nat} (hd : gAl M pc i pc') (hv : lv[i]? = some (some .null)) (kk : GW G l Z R M pc' lv (.null :: st) h sz k w) : GW G l Z R M pc lv st h sz k w := by
  intro p e s m args below meth c H locs ls F hS hR hz hl
  have K := kk p e s m args below meth c H locs ls F hS hR hz hl
  rcases hd with ⟨h1, rfl⟩ | ⟨n, h1, h2, rfl⟩
  · exact lv_aloadN F.1 F.2.1 h1 (hl.2.2.2 i _ hv).1 K
  · exact lv_aload_nN F.1 F.2.1 h1 h2 (hl.2.2.2 i _ hv).1 K
theorem gw_istore {i : Nat} {x : Int32} (hd : gIs M pc i pc') (hi : i < lv.length) (kk : GW G l Z R M pc' (lv.set i (some (.int x))) st h sz k w) : GW G l Z R M pc lv (.int x :: st) h sz k w := by
  intro p e s m args below meth c H locs ls F hS hR hz hl
  have hi' : i < M.2.1 := by rw [← hl.1]; exact hi
  have K := fun ls' (h' : lv_has ls' M.2.1 _) => kk p e s m args below meth c H locs ls' F hS hR hz (hl.stored hi' rfl h')
  rcases hd with ⟨h1, rfl⟩ | ⟨n, h1, h2, rfl⟩
  · exact lv_istore F.1 F.2.1 h1 hl.has hi' rfl K
  · exact lv_istore_n F.1 F.2.1 h1 h2 hl.has hi' rfl K
theorem gw_astore {i : Nat} {x : Nat} (hd : gAst M pc i pc') (hi : i < lv.length) (kk : GW G l Z R M pc' (lv.set i (some (.ref x))) st h sz k w) : GW G l Z R M pc lv (.ref x :: st) h sz k w := by
  intro p e s m args below meth c H locs ls F hS hR hz hl
  have hi' : i < M.2.1 := by rw [← hl.1]; exact hi
  have K := fun ls' (h' : lv_has ls' M.2.1 _) => kk p e s m args below meth c H locs ls' F hS hR hz (hl.stored hi' rfl h')
  rcases hd with ⟨h1, rfl⟩ | ⟨n, h1, h2, rfl⟩
  · exact lv_astore F.1 F.2.1 h1 hl.has hi' rfl K
  · exact lv_astore_n F.1 F.2.1 h1 h2 hl.has hi' rfl K
theorem gw_astoreN {i : Nat} (hd : gAst M pc i pc') (hi : i < lv.length) (kk : GW G l Z R M pc' (lv.set i (some .null)) st h sz k w) : GW G l Z R M pc lv (.null :: st) h sz k w := by
  intro p e s m args below meth c H locs ls F hS hR hz hl
  have hi' : i < M.2.1 := by rw [← hl.1]; exact hi
  have K := fun ls' (h' : lv_has ls' M.2.1 _) => kk p e s m args below meth c H locs ls' F hS hR hz (hl.stored hi' rfl h')
  rcases hd with ⟨h1, rfl⟩ | ⟨n, h1, h2, rfl⟩
  · exact lv_astoreN F.1 F.2.1 h1 hl.has hi' rfl K
  · exact lv_astore_nN F.1 F.2.1 h1 h2 hl.has hi' rfl K
theorem gw_iinc {i : Nat} {x v : Int32} (hd : gIc M pc i v pc') (hv : lv[i]? = some (some (.int x))) (kk : GW G l Z R M pc' (lv.set i (some (.int (x + v)))) st h sz k w) : GW G l Z R M pc lv st h sz k w := by
  intro p e s m args below meth c H locs ls F hS hR hz hl
  obtain ⟨n, h1, rfl, rfl⟩ := hd
  have hi : i < lv.length := (List.getElem?_eq_some_iff.mp hv).1
  have hi' : i < M.2.1 := by rw [← hl.1]; exact hi
  have K := fun ls' (h' : lv_has ls' M.2.1 _) => kk p e s m args below meth c H locs ls' F hS hR hz (hl.stored hi' rfl h')
  obtain ⟨j, hj⟩ := List.getElem?_of_mem ((gAs_mem lv 0 (i, .int x)).mpr ⟨Nat.zero_le _, by simpa using hv⟩)
  exact lv_iinc F.1 F.2.1 h1 hl.has hj rfl hi' rfl K
theorem gw_iadd {x y : Int32} (hd : gD M pc .iadd 1 pc')  (kk : GW G l Z R M pc' lv (.int (x + y) :: st) h sz k w) : GW G l Z R M pc lv (.int y :: .int x :: st) h sz k w := by
  obtain ⟨hd, rfl⟩ := hd
  intro p e s m args below meth c H locs ls F hS hR hz hl
  exact lv_iadd F.1 F.2.1 hd  (kk p e s m args below meth c H locs ls F hS hR hz hl)
theorem gw_isub {x y : Int32} (hd : gD M pc .isub 1 pc')  (kk : GW G l Z R M pc' lv (.int (x - y) :: st) h sz k w) : GW G l Z R M pc lv (.int y :: .int x :: st) h sz k w := by
  obtain ⟨hd, rfl⟩ := hd
  intro p e s m args below meth c H locs ls F hS hR hz hl
  exact lv_isub F.1 F.2.1 hd  (kk p e s m args below meth c H locs ls F hS hR hz hl)
theorem gw_imul {x y : Int32} (hd : gD M pc .imul 1 pc')  (kk : GW G l Z R M pc' lv (.int (x * y) :: st) h sz k w) : GW G l Z R M pc lv (.int y :: .int x :: st) h sz k w := by
  obtain ⟨hd, rfl⟩ := hd
  intro p e s m args below meth c H locs ls F hS hR hz hl
  exact lv_imul F.1 F.2.1 hd  (kk p e s m args below meth c H locs ls F hS hR hz hl)
theorem gw_iand {x y : Int32} (hd : gD M pc .iand 1 pc')  (kk : GW G l Z R M pc' lv (.int (x &&& y) :: st) h sz k w) : GW G l Z R M pc lv (.int y :: .int x :: st) h sz k w := by
  obtain ⟨hd, rfl⟩ := hd
  intro p e s m args below meth c H locs ls F hS hR hz hl
  exact lv_iand F.1 F.2.1 hd  (kk p e s m args below meth c H locs ls F hS hR hz hl)
theorem gw_ishr {x y : Int32} (hd : gD M pc .ishr 1 pc')  (kk : GW G l Z R M pc' lv (.int (x >>> (y &&& 31)) :: st) h sz k w) : GW G l Z R M pc lv (.int y :: .int x :: st) h sz k w := by
  obtain ⟨hd, rfl⟩ := hd
  intro p e s m args below meth c H locs ls F hS hR hz hl
  exact lv_ishr F.1 F.2.1 hd  (kk p e s m args below meth c H locs ls F hS hR hz hl)
theorem gw_idiv {x y : Int32} (hd : gD M pc .idiv 1 pc') (hne : ¬ y = 0) (kk : GW G l Z R M pc' lv (.int (x / y) :: st) h sz k w) : GW G l Z R M pc lv (.int y :: .int x :: st) h sz k w := by
  obtain ⟨hd, rfl⟩ := hd
  intro p e s m args below meth c H locs ls F hS hR hz hl
  exact lv_idiv F.1 F.2.1 hd hne (kk p e s m args below meth c H locs ls F hS hR hz hl)
theorem gw_irem {x y : Int32} (hd : gD M pc .irem 1 pc') (hne : ¬ y = 0) (kk : GW G l Z R M pc' lv (.int (x - x / y * y) :: st) h sz k w) : GW G l Z R M pc lv (.int y :: .int x :: st) h sz k w := by
  obtain ⟨hd, rfl⟩ := hd
  intro p e s m args below meth c H locs ls F hS hR hz hl
  exact lv_irem F.1 F.2.1 hd hne (kk p e s m args below meth c H locs ls F hS hR hz hl)
theorem gw_i2l {x : Int32} (hd : gD M pc .i2l 1 pc')  (kk : GW G l Z R M pc' lv (.long x.toInt64 :: st) h sz k w) : GW G l Z R M pc lv (.int x :: st) h sz k w := by
  obtain ⟨hd, rfl⟩ := hd
  intro p e s m args below meth c H locs ls F hS hR hz hl
  exact lv_i2l F.1 F.2.1 hd rfl (kk p e s m args below meth c H locs ls F hS hR hz hl)
theorem gw_dup {va : Value} (hd : gD M pc .dup 1 pc') (hva : va.category = 1) (kk : GW G l Z R M pc' lv (va :: va :: st) h sz k w) : GW G l Z R M pc lv (va :: st) h sz k w := by
  obtain ⟨hd, rfl⟩ := hd
  intro p e s m args below meth c H locs ls F hS hR hz hl
  exact lv_dup F.1 F.2.1 hd hva (kk p e s m args below meth c H locs ls F hS hR hz hl)
theorem gw_pop {va : Value} (hd : gD M pc .pop 1 pc') (hva : va.category = 1) (kk : GW G l Z R M pc' lv (st) h sz k w) : GW G l Z R M pc lv (va :: st) h sz k w := by
  obtain ⟨hd, rfl⟩ := hd
  intro p e s m args below meth c H locs ls F hS hR hz hl
  exact lv_pop F.1 F.2.1 hd hva (kk p e s m args below meth c H locs ls F hS hR hz hl)
theorem gw_dup_x1 {va vb : Value} (hd : gD M pc .dup_x1 1 pc') (hva : va.category = 1) (hvb : vb.category = 1) (kk : GW G l Z R M pc' lv (va :: vb :: va :: st) h sz k w) : GW G l Z R M pc lv (va :: vb :: st) h sz k w := by
  obtain ⟨hd, rfl⟩ := hd
  intro p e s m args below meth c H locs ls F hS hR hz hl
  exact lv_dup_x1 F.1 F.2.1 hd hva hvb (kk p e s m args below meth c H locs ls F hS hR hz hl)
theorem gw_dup2 {va vb : Value} (hd : gD M pc .dup2 1 pc') (hva : va.category = 1) (hvb : vb.category = 1) (kk : GW G l Z R M pc' lv (va :: vb :: va :: vb :: st) h sz k w) : GW G l Z R M pc lv (va :: vb :: st) h sz k w := by
  obtain ⟨hd, rfl⟩ := hd
  intro p e s m args below meth c H locs ls F hS hR hz hl
  exact lv_dup2_11 F.1 F.2.1 hd hva hvb (kk p e s m args below meth c H locs ls F hS hR hz hl)
theorem gw_null  (hd : gD M pc .aconst_null 1 pc')  (kk : GW G l Z R M pc' lv (.null :: st) h sz k w) : GW G l Z R M pc lv (st) h sz k w := by
  obtain ⟨hd, rfl⟩ := hd
  intro p e s m args below meth c H locs ls F hS hR hz hl
  exact lv_null F.1 F.2.1 hd  (kk p e s m args below meth c H locs ls F hS hR hz hl)
theorem gw_lconst {n : Fin 2} {v : Int64} (hd : gD M pc (.lconst n) 1 pc') (hv : Int64.ofNat (n : Nat) = v) (kk : GW G l Z R M pc' lv (.long v :: st) h sz k w) : GW G l Z R M pc lv st h sz k w := by
  obtain ⟨hd, rfl⟩ := hd
  intro p e s m args below meth c H locs ls F hS hR hz hl
  exact lv_lconst F.1 F.2.1 hd hv (kk p e s m args below meth c H locs ls F hS hR hz hl)
theorem gw_lcmp {x y : Int64} (hd : gD M pc .lcmp 1 pc') (kk : GW G l Z R M pc' lv (.int (lg_cmp x y) :: st) h sz k w) : GW G l Z R M pc lv (.long y :: .long x :: st) h sz k w := by
  obtain ⟨hd, rfl⟩ := hd
  intro p e s m args below meth c H locs ls F hS hR hz hl
  exact W.lcmp F.1 F.2.1 hd (kk p e s m args below meth c H locs ls F hS hR hz hl)
theorem gw_ifeq {x : Int32} {off : Int} {tgt : Nat} (hd : gB M pc (.ifCond .eq off) off pc' tgt) (kt : x = 0 → GW G l Z R M tgt lv st h sz k w) (kf : ¬ x = 0 → GW G l Z R M pc' lv st h sz k w) : GW G l Z R M pc lv (.int x :: st) h sz k w := by
  obtain ⟨hd, rfl, ht⟩ := hd
  intro p e s m args below meth c H locs ls F hS hR hz hl
  exact lv_if_eq F.1 F.2.1 hd ht (fun q => kt q p e s m args below meth c H locs ls F hS hR hz hl) (fun q => kf q p e s m args below meth c H locs ls F hS hR hz hl)
theorem gw_iceq {x y : Int32} {off : Int} {tgt : Nat} (hd : gB M pc (.if_icmp .eq off) off pc' tgt) (kt : x = y → GW G l Z R M tgt lv st h sz k w) (kf : ¬ x = y → GW G l Z R M pc' lv st h sz k w) : GW G l Z R M pc lv (.int y :: .int x :: st) h sz k w := by
  obtain ⟨hd, rfl, ht⟩ := hd
  intro p e s m args below meth c H locs ls F hS hR hz hl
  exact lv_icmp_eq F.1 F.2.1 hd ht (fun q => kt q p e s m args below meth c H locs ls F hS hR hz hl) (fun q => kf q p e s m args below meth c H locs ls F hS hR hz hl)
theorem gw_ifne {x : Int32} {off : Int} {tgt : Nat} (hd : gB M pc (.ifCond .ne off) off pc' tgt) (kt : ¬ x = 0 → GW G l Z R M tgt lv st h sz k w) (kf : x = 0 → GW G l Z R M pc' lv st h sz k w) : GW G l Z R M pc lv (.int x :: st) h sz k w := by
  obtain ⟨hd, rfl, ht⟩ := hd
  intro p e s m args below meth c H locs ls F hS hR hz hl
  exact lv_if_ne F.1 F.2.1 hd ht (fun q => kt q p e s m args below meth c H locs ls F hS hR hz hl) (fun q => kf q p e s m args below meth c H locs ls F hS hR hz hl)
theorem gw_icne {x y : Int32} {off : Int} {tgt : Nat} (hd : gB M pc (.if_icmp .ne off) off pc' tgt) (kt : ¬ x = y → GW G l Z R M tgt lv st h sz k w) (kf : x = y → GW G l Z R M pc' lv st h sz k w) : GW G l Z R M pc lv (.int y :: .int x :: st) h sz k w := by
  obtain ⟨hd, rfl, ht⟩ := hd
  intro p e s m args below meth c H locs ls F hS hR hz hl
  exact lv_icmp_ne F.1 F.2.1 hd ht (fun q => kt q p e s m args below meth c H locs ls F hS hR hz hl) (fun q => kf q p e s m args below meth c H locs ls F hS hR hz hl)
theorem gw_iflt {x : Int32} {off : Int} {tgt : Nat} (hd : gB M pc (.ifCond .lt off) off pc' tgt) (kt : x < 0 → GW G l Z R M tgt lv st h sz k w) (kf : ¬ x < 0 → GW G l Z R M pc' lv st h sz k w) : GW G l Z R M pc lv (.int x :: st) h sz k w := by
  obtain ⟨hd, rfl, ht⟩ := hd
  intro p e s m args below meth c H locs ls F hS hR hz hl
  exact lv_if_lt F.1 F.2.1 hd ht (fun q => kt q p e s m args below meth c H locs ls F hS hR hz hl) (fun q => kf q p e s m args below meth c H locs ls F hS hR hz hl)
theorem gw_iclt {x y : Int32} {off : Int} {tgt : Nat} (hd : gB M pc (.if_icmp .lt off) off pc' tgt) (kt : x < y → GW G l Z R M tgt lv st h sz k w) (kf : ¬ x < y → GW G l Z R M pc' lv st h sz k w) : GW G l Z R M pc lv (.int y :: .int x :: st) h sz k w := by
  obtain ⟨hd, rfl, ht⟩ := hd
  intro p e s m args below meth c H locs ls F hS hR hz hl
  exact lv_icmp_lt F.1 F.2.1 hd ht (fun q => kt q p e s m args below meth c H locs ls F hS hR hz hl) (fun q => kf q p e s m args below meth c H locs ls F hS hR hz hl)
theorem gw_ifge {x : Int32} {off : Int} {tgt : Nat} (hd : gB M pc (.ifCond .ge off) off pc' tgt) (kt : 0 ≤ x → GW G l Z R M tgt lv st h sz k w) (kf : ¬ 0 ≤ x → GW G l Z R M pc' lv st h sz k w) : GW G l Z R M pc lv (.int x :: st) h sz k w := by
  obtain ⟨hd, rfl, ht⟩ := hd
  intro p e s m args below meth c H locs ls F hS hR hz hl
  exact lv_if_ge F.1 F.2.1 hd ht (fun q => kt q p e s m args below meth c H locs ls F hS hR hz hl) (fun q => kf q p e s m args below meth c H locs ls F hS hR hz hl)
theorem gw_icge {x y : Int32} {off : Int} {tgt : Nat} (hd : gB M pc (.if_icmp .ge off) off pc' tgt) (kt : y ≤ x → GW G l Z R M tgt lv st h sz k w) (kf : ¬ y ≤ x → GW G l Z R M pc' lv st h sz k w) : GW G l Z R M pc lv (.int y :: .int x :: st) h sz k w := by
  obtain ⟨hd, rfl, ht⟩ := hd
  intro p e s m args below meth c H locs ls F hS hR hz hl
  exact lv_icmp_ge F.1 F.2.1 hd ht (fun q => kt q p e s m args below meth c H locs ls F hS hR hz hl) (fun q => kf q p e s m args below meth c H locs ls F hS hR hz hl)
theorem gw_ifgt {x : Int32} {off : Int} {tgt : Nat} (hd : gB M pc (.ifCond .gt off) off pc' tgt) (kt : 0 < x → GW G l Z R M tgt lv st h sz k w) (kf : ¬ 0 < x → GW G l Z R M pc' lv st h sz k w) : GW G l Z R M pc lv (.int x :: st) h sz k w := by
  obtain ⟨hd, rfl, ht⟩ := hd
  intro p e s m args below meth c H locs ls F hS hR hz hl
  exact lv_if_gt F.1 F.2.1 hd ht (fun q => kt q p e s m args below meth c H locs ls F hS hR hz hl) (fun q => kf q p e s m args below meth c H locs ls F hS hR hz hl)
theorem gw_icgt {x y : Int32} {off : Int} {tgt : Nat} (hd : gB M pc (.if_icmp .gt off) off pc' tgt) (kt : y < x → GW G l Z R M tgt lv st h sz k w) (kf : ¬ y < x → GW G l Z R M pc' lv st h sz k w) : GW G l Z R M pc lv (.int y :: .int x :: st) h sz k w := by
  obtain ⟨hd, rfl, ht⟩ := hd
  intro p e s m args below meth c H locs ls F hS hR hz hl
  exact lv_icmp_gt F.1 F.2.1 hd ht (fun q => kt q p e s m args below meth c H locs ls F hS hR hz hl) (fun q => kf q p e s m args below meth c H locs ls F hS hR hz hl)
theorem gw_ifle {x : Int32} {off : Int} {tgt : Nat} (hd : gB M pc (.ifCond .le off) off pc' tgt) (kt : x ≤ 0 → GW G l Z R M tgt lv st h sz k w) (kf : ¬ x ≤ 0 → GW G l Z R M pc' lv st h sz k w) : GW G l Z R M pc lv (.int x :: st) h sz k w := by
  obtain ⟨hd, rfl, ht⟩ := hd
  intro p e s m args below meth c H locs ls F hS hR hz hl
  exact lv_if_le F.1 F.2.1 hd ht (fun q => kt q p e s m args below meth c H locs ls F hS hR hz hl) (fun q => kf q p e s m args below meth c H locs ls F hS hR hz hl)
theorem gw_icle {x y : Int32} {off : Int} {tgt : Nat} (hd : gB M pc (.if_icmp .le off) off pc' tgt) (kt : x ≤ y → GW G l Z R M tgt lv st h sz k w) (kf : ¬ x ≤ y → GW G l Z R M pc' lv st h sz k w) : GW G l Z R M pc lv (.int y :: .int x :: st) h sz k w := by
  obtain ⟨hd, rfl, ht⟩ := hd
  intro p e s m args below meth c H locs ls F hS hR hz hl
  exact lv_icmp_le F.1 F.2.1 hd ht (fun q => kt q p e s m args below meth c H locs ls F hS hR hz hl) (fun q => kf q p e s m args below meth c H locs ls F hS hR hz hl)
theorem gw_goto {off : Int} {tgt : Nat} (hd : gB M pc (.goto off) off pc' tgt) (kk : GW G l Z R M tgt lv st h sz k w) : GW G l Z R M pc lv st h sz k w := by
  obtain ⟨hd, -, ht⟩ := hd
  intro p e s m args below meth c H locs ls F hS hR hz hl
  exact lv_goto F.1 F.2.1 hd ht (kk p e s m args below meth c H locs ls F hS hR hz hl)
theorem gw_ifnonnull {x : Nat} {off : Int} {tgt : Nat} (hd : gB M pc (.ifnonnull off) off pc' tgt) (kk : GW G l Z R M tgt lv st h sz k w) : GW G l Z R M pc lv (.ref x :: st) h sz k w := by
  obtain ⟨hd, -, ht⟩ := hd
  intro p e s m args below meth c H locs ls F hS hR hz hl
  exact lv_ifnonnull F.1 F.2.1 hd ht (kk p e s m args below meth c H locs ls F hS hR hz hl)
theorem gw_ifnonnullN {off : Int} {tgt : Nat} (hd : gB M pc (.ifnonnull off) off pc' tgt) (kk : GW G l Z R M pc' lv st h sz k w) : GW G l Z R M pc lv (.null :: st) h sz k w := by
  obtain ⟨hd, rfl, -⟩ := hd
  intro p e s m args below meth c H locs ls F hS hR hz hl
  exact lv_ifnonnullN F.1 F.2.1 hd (kk p e s m args below meth c H locs ls F hS hR hz hl)
theorem gw_acmpeq {x y : Nat} {off : Int} {tgt : Nat} (hd : gB M pc (.if_acmp .eq off) off pc' tgt) (kt : x = y → GW G l Z R M tgt lv st h sz k w) (kf : ¬ x = y → GW G l Z R M pc' lv st h sz k w) : GW G l Z R M pc lv (.ref y :: .ref x :: st) h sz k w := by
  obtain ⟨hd, rfl, ht⟩ := hd
  intro p e s m args below meth c H locs ls F hS hR hz hl
  exact lv_acmp_eq (rx := some x) (ry := some y) F.1 F.2.1 hd ht (fun q => kt (Option.some.inj q) p e s m args below meth c H locs ls F hS hR hz hl) (fun q => kf (fun z => q (congrArg some z)) p e s m args below meth c H locs ls F hS hR hz hl)
theorem gw_acmpne {x y : Nat} {off : Int} {tgt : Nat} (hd : gB M pc (.if_acmp .ne off) off pc' tgt) (kt : ¬ x = y → GW G l Z R M tgt lv st h sz k w) (kf : x = y → GW G l Z R M pc' lv st h sz k w) : GW G l Z R M pc lv (.ref y :: .ref x :: st) h sz k w := by
  obtain ⟨hd, rfl, ht⟩ := hd
  intro p e s m args below meth c H locs ls F hS hR hz hl
  exact lv_acmp_ne (rx := some x) (ry := some y) F.1 F.2.1 hd ht (fun q => kt (fun z => q (congrArg some z)) p e s m args below meth c H locs ls F hS hR hz hl) (fun q => kf (Option.some.inj q) p e s m args below meth c H locs ls F hS hR hz hl)
/-- fields -/
theorem gw_get {a ci kf : Nat} {fs : List Value} {v : Value} (hd : gGf M pc ci kf pc') (ha : h a = some (gO ci fs)) (hv : fs[kf]? = some v) (kk : GW G l Z R M pc' lv (v :: st) h sz k w) : GW G l Z R M pc lv (.ref a :: st) h sz k w := by
  obtain ⟨idx, hd, rfl, C, T, N, ref, hc, hk, hlink, hin, hsame⟩ := hd
  intro p e s m args below meth c H locs ls F hS hR hz hl
  have hP : va_P G.1 gCl [(a, .inr (ci, fs))] H := fun i q hq => by
    have hz : i < 1 := (List.getElem?_eq_some_iff.mp hq).1
    rw [show i = 0 by omega] at hq
    cases hq
    exact (hR a _ ha).2
  refine va_get (D := G.1) (cl := gCl) F.1 F.2.1 F.2.2.2.2.1 hin F.2.2.2.1 F.2.2.2.2.2.2.2.2.2.1.1 hP 0 rfl hc kf hk (F.2.2.2.2.1 _ hlink) ?_ hv hd (kk p e s m args below meth c H locs ls F hS hR hz hl)
  rcases hsame with rfl | hs
  · exact fun _ q => q
  · exact fun x q => u_same (F.2.2.2.2.1 _ hs) x q
theorem gw_put {a ci kf : Nat} {fs : List Value} {v : Value} {ty : FieldType} (hd : gPf M pc ci kf ty pc') (ha : h a = some (gO ci fs)) (hl9 : kf < fs.length) (hn : narrow ty v = v) (hf : fits ty v = true) (kk : GW G l Z R M pc' lv st (gUp h a (gO ci (fs.set kf v))) sz k w) : GW G l Z R M pc lv (v :: .ref a :: st) h sz k w := by
  obtain ⟨idx, hd, rfl, C, T, N, ref, ty0, hc, hk, hlink, hin, hsame, hty, hnm, hpd, hfin⟩ := hd
  intro p e s m args below meth c H locs ls F hS hR hz hl
  have hK := F.2.2.2.2.2.2.2.2.2.1.1
  have hap := va_apart (own := M.2.2.1) F.2.2.2.2.1 hin ty0 hty hnm hK hc
  obtain ⟨hA, r, h1, cell, q1, q2, q3, q4⟩ := hR a _ ha
  have hr : r = (C, T, N) := Option.some.inj (h1.symm.trans hc)
  subst hr
  obtain ⟨hSl, hfc, kC, hkC, hkind⟩ := hK.1 ci _ hc
  obtain ⟨cf, kf', fi, f, hi, hsl⟩ := hSl kf hk
  have hlay := F.2.2.2.2.1 _ (hin _ (u_in_lay hk))
  have hst := (u_facts hfc hkC (u_lays F.2.2.2.2.1 hin hk) hi).1
  have hsm : ∀ x, s.fieldFound? (T kf).1 (T kf).2.1 (T kf).2.2.1 = some x → s.fieldFound? ref (T kf).2.1 (T kf).2.2.1 = some x := by
    rcases hsame with rfl | hs
    · exact fun _ q => q
    · exact fun x q => u_same (F.2.2.2.2.1 _ hs) x q
  have fin : ∀ (H1 : Heap) (i9 : Nat), H1[a]? = some (cell.setSlot f.slot v) → H1.size = H.size → (∀ q, q ≠ a → H1[q]? = H[q]?) → W p l e R s m args below meth c H1 (locs ++ [⟨a, f.slot⟩]) k w (Z s args below) (F0 m (pc + 3) ls st) := by
    intro H1 _ e1 e2 e3
    refine kk p e s m args below meth c H1 _ ls F (hS.put e2 e3 hA) (hR.put hA ?_ e3) (e2.trans hz) hl
    rw [hsl] at e1
    exact ⟨_, hc, t_OB.to (V := updV (vp_V fs) kf v) ⟨_, e1, q2, q3, t_set q4 hap hk v⟩ (fun j _ => vp_updV_set hl9 v j)⟩
  rcases hfin with hfin | ⟨hfin, hin2, hdecl⟩
  · unfold u_lay at hlay
    rw [if_neg (by rw [hfin]; decide)] at hlay
    have h6 := u_store hfc hkC hkind hlay hi hpd hn hf
    exact W.putK F.1 F.2.1 (f := f) ⟨F.2.2.2.1, F.2.2.2.2.1 _ hlink, ⟨_, _, _, hsm _ hi⟩, hst⟩ (by rw [q2]; exact h6) q1 q3 (by rw [hsl]; exact k2_hasslot (q4 kf hk)) rfl rfl hd (fun H1 e1 e2 e3 => fin H1 0 e1 e2 e3)
  · unfold u_lay at hlay
    rw [if_pos hfin] at hlay
    have hcf : m.cls = cf := by
      obtain ⟨_, _, c', _, _, _, -, -, hf', -, -, -, hown2, -⟩ := Cond.laysFinal_spec hlay
      have e1 : c' = cf := by have := hi.symm.trans hf'; simp at this; exact this.1.symm
      rw [hdecl] at hown2
      rw [← e1]; exact Option.some.inj (F.2.2.2.1.symm.trans hown2)
    have h6 := u_fits hfc hkC hkind (Or.inr hlay) hi hpd hn hf
    exact W.putFinK F.1 F.2.1 F.2.2.2.1 (F.2.2.2.2.1 _ hlink) (hsm _ hi) hst hcf (F.2.2.2.2.2.1.trans hin2) (by rw [q2]; exact h6) q1 q3 (by rw [hsl]; exact k2_hasslot (q4 kf hk)) rfl rfl hd (fun H1 e1 e2 e3 => fin H1 0 e1 e2 e3)
end Rows
end
section
/-! ===== rows: arrays, objects, statics, calls, ends ===== -/
theorem gP1 {G : gG} {h : gHp} {H : Heap} {a : Nat} {e : gE} (hR : gRep G h H) (ha : h a = some e) : va_P G.1 gCl [(a, gv G e)] H := by
  intro i q hq
  have hz : i < 1 := (List.getElem?_eq_some_iff.mp hq).1
  rw [show i = 0 by omega] at hq
  cases hq
  exact (hR a _ ha).2
theorem g_ix {i : Int32} {j n : Nat} (hi : i = nI j) (hj : j < n) (hn : j < 2147483648) : vp_in i n ∧ i.toNatClampNeg = j := by
  subst hi
  have e := nI_clamp (n := j) hn
  refine ⟨?_, e⟩
  intro q
  rcases q with q | q
  · exact nI_pos hn q
  · rw [e] at q; omega
section Rows2
variable {G : gG} {l : Launch} {Z : State → Array Value → List Frame → State → Prop} {R : Room} {M : gM} {pc pc' : Nat} {lv : List (Option Value)} {st : List Value} {h : gHp} {sz k w : Nat}
theorem gw_iald {a n : Nat} {f : Nat → Int32} {i : Int32} (hd : gD M pc .iaload 1 pc') (ha : h a = some (gI n f)) (j : Nat) (hi : i = nI j) (hj : j < n) (hn : j < 2147483648) (kk : GW G l Z R M pc' lv (.int (f j) :: st) h sz k w) : GW G l Z R M pc lv (.int i :: .ref a :: st) h sz k w := by
  obtain ⟨hd, rfl⟩ := hd
  intro p e s m args below meth c H locs ls F hS hR hz hl
  obtain ⟨h1, h2⟩ := g_ix hi hj hn
  have K := kk p e s m args below meth c H locs ls F hS hR hz hl
  rw [← h2] at K
  exact va_iald F.1 F.2.1 F.2.2.2.2.2.2.2.2.2.1.1 (gP1 hR ha) 0 0 rfl rfl h1 hd K
theorem gw_lald {a n : Nat} {f : Nat → Int64} {i : Int32} (hd : gD M pc .laload 1 pc') (ha : h a = some (gL n f)) (j : Nat) (hi : i = nI j) (hj : j < n) (hn : j < 2147483648) (kk : GW G l Z R M pc' lv (.long (f j) :: st) h sz k w) : GW G l Z R M pc lv (.int i :: .ref a :: st) h sz k w := by
  obtain ⟨hd, rfl⟩ := hd
  intro p e s m args below meth c H locs ls F hS hR hz hl
  obtain ⟨h1, h2⟩ := g_ix hi hj hn
  have K := kk p e s m args below meth c H locs ls F hS hR hz hl
  rw [← h2] at K
  exact va_lald F.1 F.2.1 F.2.2.2.2.2.2.2.2.2.1.1 (gP1 hR ha) 0 1 rfl rfl h1 hd K
/-- which array kinds hold references -/
def gKd (kd : Nat) : Prop := kd = 2 ∨ kd = 3 ∨ kd = 4
theorem gKd_ty (G : gG) {kd : Nat} (hk : gKd kd) : ∃ C : String, (gTys G)[kd]? = some (gCy G kd, .object C) := by
  rcases hk with rfl | rfl | rfl
  · exact ⟨_, rfl⟩
  · exact ⟨_, rfl⟩
  · exact ⟨_, rfl⟩
theorem gw_aald {a n kd : Nat} {f : Nat → Option Nat} {i : Int32} (hd : gD M pc .aaload 1 pc') (ha : h a = some (gR kd n f)) (hkd : gKd kd) (j y : Nat) (hi : i = nI j) (hj : j < n) (hn : j < 2147483648) (hy : f j = some y) (kk : GW G l Z R M pc' lv (.ref y :: st) h sz k w) : GW G l Z R M pc lv (.int i :: .ref a :: st) h sz k w := by
  obtain ⟨hd, rfl⟩ := hd
  intro p e s m args below meth c H locs ls F hS hR hz hl
  obtain ⟨h1, h2⟩ := g_ix hi hj hn
  have K := kk p e s m args below meth c H locs ls F hS hR hz hl
  have e9 : va_rf (f i.toNatClampNeg) = .ref y := by rw [h2, hy]; rfl
  rw [← e9] at K
  obtain ⟨C, hC⟩ := gKd_ty G hkd
  exact va_aldq F.1 F.2.1 F.2.2.2.2.2.2.2.2.2.1.1 (gP1 hR ha) 0 kd rfl hC h1 hd K
theorem gw_alenI {a n : Nat} {f : Nat → Int32} (hd : gD M pc .arraylength 1 pc') (ha : h a = some (gI n f)) (kk : GW G l Z R M pc' lv (.int (nI n) :: st) h sz k w) : GW G l Z R M pc lv (.ref a :: st) h sz k w := by
  obtain ⟨hd, rfl⟩ := hd
  intro p e s m args below meth c H locs ls F hS hR hz hl
  exact va_alen F.1 F.2.1 F.2.2.2.2.2.2.2.2.2.1.1 (gP1 hR ha) 0 0 rfl rfl rfl hd (kk p e s m args below meth c H locs ls F hS hR hz hl)
theorem gw_alenR {a n kd : Nat} {f : Nat → Option Nat} (hd : gD M pc .arraylength 1 pc') (ha : h a = some (gR kd n f)) (hkd : gKd kd) (kk : GW G l Z R M pc' lv (.int (nI n) :: st) h sz k w) : GW G l Z R M pc lv (.ref a :: st) h sz k w := by
  obtain ⟨hd, rfl⟩ := hd
  intro p e s m args below meth c H locs ls F hS hR hz hl
  obtain ⟨C, hC⟩ := gKd_ty G hkd
  exact va_alen F.1 F.2.1 F.2.2.2.2.2.2.2.2.2.1.1 (gP1 hR ha) 0 kd rfl hC rfl hd (kk p e s m args below meth c H locs ls F hS hR hz hl)
/-- ArrayList's empty array -/
theorem gw_alenD {a : Nat} (hd : gD M pc .arraylength 1 pc') (ha : a = gDce G) (kk : GW G l Z R M pc' lv (.int 0 :: st) h sz k w) : GW G l Z R M pc lv (.ref a :: st) h sz k w := by
  subst ha
  obtain ⟨hd, rfl⟩ := hd
  intro p e s m args below meth c H locs ls F hS hR hz hl
  obtain ⟨-, ⟨f, cell, h1, h2, h3, h4, h5, h6, h7⟩, -⟩ := F.2.2.2.2.2.2.2.2.2.2.1
  have hlt : gDce G < s.heap.size := (Array.getElem?_eq_some_iff.mp h1).1
  exact W.alen (n := 0) F.1 F.2.1 (by rw [hS.2.1 _ hlt h7]; exact h1) h2 h5 rfl rfl hd (kk p e s m args below meth c H locs ls F hS hR hz hl)
theorem gw_iast {a n : Nat} {f : Nat → Int32} {i x : Int32} (hd : gD M pc .iastore 1 pc') (ha : h a = some (gI n f)) (j : Nat) (hi : i = nI j) (hj : j < n) (hn : j < 2147483648) (kk : GW G l Z R M pc' lv st (gUp h a (gI n (upd f j x))) sz k w) : GW G l Z R M pc lv (.int x :: .int i :: .ref a :: st) h sz k w := by
  obtain ⟨hd, rfl⟩ := hd
  intro p e s m args below meth c H locs ls F hS hR hz hl
  obtain ⟨h1, h2⟩ := g_ix hi hj hn
  have hA := (hR a _ ha).1
  refine W.iast F.1 F.2.1 (hR a _ ha).2 ((F.2.2.2.2.2.2.2.2.2.1.1.2 0 _ rfl).1 n (fun j => .int (f j))) (fun q => by cases q) (by show ¬ (i < 0 ∨ (arrV _ _ _).slots.size ≤ _); rw [arrV_size]; exact h1) rfl rfl hd fun H1 e1 z oq => ?_
  refine kk p e s m args below meth c H1 _ ls F (hS.put z oq hA) (hR.put hA ?_ oq) (z.trans hz) hl
  show H1[a]? = some (vp_cell _ _)
  rw [e1, h2]
  show some ((vp_cell _ _).setSlot _ _) = _
  rw [vp_cell_i, vp_cell_i, arrV_store]
  congr 2
  funext q
  by_cases hq : q = j
  · subst hq
    simp [updV, upd]
  · simp [updV, upd, hq]
theorem gw_last {a n : Nat} {f : Nat → Int64} {i : Int32} {x : Int64} (hd : gD M pc .lastore 1 pc') (ha : h a = some (gL n f)) (j : Nat) (hi : i = nI j) (hj : j < n) (hn : j < 2147483648) (kk : GW G l Z R M pc' lv st (gUp h a (gL n (vp_updL f j x))) sz k w) : GW G l Z R M pc lv (.long x :: .int i :: .ref a :: st) h sz k w := by
  obtain ⟨hd, rfl⟩ := hd
  intro p e s m args below meth c H locs ls F hS hR hz hl
  obtain ⟨h1, h2⟩ := g_ix hi hj hn
  have hA := (hR a _ ha).1
  refine W.last F.1 F.2.1 (hR a _ ha).2 ((F.2.2.2.2.2.2.2.2.2.1.1.2 1 _ rfl).1 n (fun j => .long (f j))) (fun q => by cases q) (by show ¬ (i < 0 ∨ (arrV _ _ _).slots.size ≤ _); rw [arrV_size]; exact h1) rfl rfl hd fun H1 e1 z oq => ?_
  refine kk p e s m args below meth c H1 _ ls F (hS.put z oq hA) (hR.put hA ?_ oq) (z.trans hz) hl
  show H1[a]? = some (vp_cell _ _)
  rw [e1, h2]
  show some ((vp_cell _ _).setSlot _ _) = _
  rw [vp_cell_l, vp_cell_l, arrV_store]
  congr 2
  funext q
  by_cases hq : q = j
  · subst hq
    simp [updV, vp_updL]
  · simp [updV, vp_updL, hq]
/-- a reference into an array: kind 2 takes Stations, 3 Cartridges, 4 Versions -/
def gFt (kd ci : Nat) : Prop := (kd = 2 ∧ ci = 2) ∨ (kd = 3 ∧ ci = 1) ∨ (kd = 4 ∧ ci = 4)
theorem gw_aast {a n kd ci v : Nat} {vs : List Value} {f : Nat → Option Nat} {i : Int32} (hd : gD M pc .aastore 1 pc') (ha : h a = some (gR kd n f)) (hv : h v = some (gO ci vs)) (hkd : gFt kd ci) (j : Nat) (hi : i = nI j) (hj : j < n) (hn : j < 2147483648) (kk : GW G l Z R M pc' lv st (gUp h a (gR kd n (va_up f j (some v)))) sz k w) : GW G l Z R M pc lv (.ref v :: .int i :: .ref a :: st) h sz k w := by
  obtain ⟨hd, rfl⟩ := hd
  intro p e s m args below meth c H locs ls F hS hR hz hl
  obtain ⟨h1, h2⟩ := g_ix hi hj hn
  have hA := (hR a _ ha).1
  have hK := F.2.2.2.2.2.2.2.2.2.1.1
  have hlt : i.toNatClampNeg < n := by rw [h2]; exact hj
  have h0 : ¬ i < 0 := fun q => h1 (Or.inl q)
  obtain ⟨-, r', hr', cellV, g1, g2, g3, -⟩ := hR v _ hv
  have hcls := (hK.1 ci r' hr').2
  obtain ⟨kC, hkC, -⟩ := hcls.2
  have hty : ∃ (E : String) (comp : ClassId) (kA : Class) (kE : Class), s.vm.classes[gCy G kd]? = some kA ∧ kA.kind = .array comp (.object E) ∧ s.vm.classes[comp]? = some kE ∧ s.vm.assignable (G.1.1 ci) comp = true := by
    rcases hkd with ⟨rfl, rfl⟩ | ⟨rfl, rfl⟩ | ⟨rfl, rfl⟩
    · obtain ⟨kA, comp, k1, k2, k3, -⟩ := (hK.2 2 _ rfl).2
      cases hr'
      have hcomp : comp = G.1.1 2 := Option.some.inj (k3.symm.trans hcls.1)
      subst hcomp
      exact ⟨_, _, kA, kC, k1, k2, hkC, va_assign hcls⟩
    · obtain ⟨kA, comp, k1, k2, k3, -⟩ := (hK.2 3 _ rfl).2
      cases hr'
      have hcomp : comp = G.1.1 1 := Option.some.inj (k3.symm.trans hcls.1)
      subst hcomp
      exact ⟨_, _, kA, kC, k1, k2, hkC, va_assign hcls⟩
    · obtain ⟨kA, comp, k1, k2, k3, -⟩ := (hK.2 4 _ rfl).2
      cases hr'
      obtain ⟨kE, hkE, -⟩ := Vm.findClass_spec k3
      obtain ⟨c0, t1, f1, f2, f3⟩ := Cond.castable_spec (va_Nw.use (A := args) rfl (F.2.2.2.2.2.2.2.2.2.1.2.1 (.castable "FolderRounds$Version" "java/lang/Object") (by simp [gNwl])))
      have q1 : G.1.1 4 = c0 := Option.some.inj (hcls.1.symm.trans f1)
      have q2 : comp = t1 := Option.some.inj (k3.symm.trans f2)
      subst q1 q2
      exact ⟨_, _, kA, kE, k1, k2, hkE, f3⟩
  obtain ⟨E, comp, kA, kE, k1, k2, k3, k4⟩ := hty
  refine W.aast F.1 F.2.1 (hR a _ ha).2 (fun q h => by cases h) (fun h => by cases h) k1 k2 rfl k3 ⟨h0, by show _ < (arrV _ _ _).slots.size; rw [arrV_size]; exact hlt⟩ g1 (fun q h => by rw [g3] at h; cases h) (by rw [g2]; exact hkC) (by rw [g2]; exact k4) rfl rfl hd fun H1 e1 z oq => ?_
  refine kk p e s m args below meth c H1 _ ls F (hS.put z oq hA) (hR.put hA ?_ oq) (z.trans hz) hl
  show H1[a]? = some (vp_cell _ _)
  rw [e1, h2]
  show some ((vp_cell _ _).setSlot _ _) = _
  rw [vp_cell_q, vp_cell_q, arrV_store]
  congr 2
  funext q
  by_cases hq : q = j
  · subst hq
    simp [updV, va_up, va_rf]
  · simp [updV, va_up, hq]
theorem gw_aastN {a n kd : Nat} {f : Nat → Option Nat} {i : Int32} (hd : gD M pc .aastore 1 pc') (ha : h a = some (gR kd n f)) (hkd : gKd kd) (j : Nat) (hi : i = nI j) (hj : j < n) (hn : j < 2147483648) (kk : GW G l Z R M pc' lv st (gUp h a (gR kd n (va_up f j none))) sz k w) : GW G l Z R M pc lv (.null :: .int i :: .ref a :: st) h sz k w := by
  obtain ⟨hd, rfl⟩ := hd
  intro p e s m args below meth c H locs ls F hS hR hz hl
  obtain ⟨h1, h2⟩ := g_ix hi hj hn
  have hA := (hR a _ ha).1
  have hK := F.2.2.2.2.2.2.2.2.2.1.1
  obtain ⟨C, hC⟩ := gKd_ty G hkd
  refine va_WaastN (C := C) F.1 F.2.1 (hR a _ ha).2 ((hK.2 kd _ hC).1 n (fun j => va_rf (f j))) (fun h => by cases h) (by show ¬ (i < 0 ∨ (arrV _ _ _).slots.size ≤ _); rw [arrV_size]; exact h1) rfl rfl hd fun H1 e1 z oq => ?_
  refine kk p e s m args below meth c H1 _ ls F (hS.put z oq hA) (hR.put hA ?_ oq) (z.trans hz) hl
  show H1[a]? = some (vp_cell _ _)
  rw [e1, h2]
  show some ((vp_cell _ _).setSlot _ _) = _
  rw [vp_cell_q, vp_cell_q, arrV_store]
  congr 2
  funext q
  by_cases hq : q = j
  · subst hq
    simp [updV, va_up, va_rf]
  · simp [updV, va_up, hq]
/-- new arrays -/
theorem gw_newI {i : Int32} (hd : gD M pc (.newarray .int) 2 pc') (hw : Cond.arrayClass .int ∈ gW) (n : Nat) (hi : i = nI n) (hn : n ≤ 100000) (hc : k + 1 ≤ R.cells) (hs : w + n ≤ R.slots) (kk : GW G l Z R M pc' lv (.ref sz :: st) (gUp h sz (gI n (fun _ => 0))) (sz + 1) (k + 1) (w + n)) : GW G l Z R M pc lv (.int i :: st) h sz k w := by
  obtain ⟨hd, rfl⟩ := hd
  intro p e s m args below meth c H locs ls F hS hR hz hl
  subst hz hi
  refine va_newaK F.1 F.2.1 (atype := .int) (F.2.2.2.2.1 _ hw) rfl hd rfl (nI_pos (by omega)) (nI_clamp (by omega)) (by show n * 4 ≤ _; omega) hc hs rfl fun H1 cA e1 z1 o1 hAr hNm => ?_
  have hcA : gCy G 0 = cA := Option.some.inj ((F.2.2.2.2.2.2.2.2.2.1.1.2 0 _ rfl).2.symm.trans hNm)
  have hA : gA G H.size := Nat.le_trans F.2.2.2.2.2.2.2.2.2.2.2 hS.1
  refine kk p e s m args below meth c H1 locs ls F ⟨Nat.le_trans hS.1 (by omega), fun x h1 h2 => (o1 x (Nat.lt_of_lt_of_le h1 hS.1)).trans (hS.2.1 x h1 h2), hS.2.2⟩ (hR.push hA ?_ o1) z1 hl
  show H1[H.size]? = some (vp_cell (gCy G 0) (n, .inl (fun _ => 0)))
  rw [vp_cell_i, hcA]
  exact e1
theorem gw_newL {i : Int32} (hd : gD M pc (.newarray .long) 2 pc') (hw : Cond.arrayClass .long ∈ gW) (n : Nat) (hi : i = nI n) (hn : n ≤ 100000) (hc : k + 1 ≤ R.cells) (hs : w + n ≤ R.slots) (kk : GW G l Z R M pc' lv (.ref sz :: st) (gUp h sz (gL n (fun _ => 0))) (sz + 1) (k + 1) (w + n)) : GW G l Z R M pc lv (.int i :: st) h sz k w := by
  obtain ⟨hd, rfl⟩ := hd
  intro p e s m args below meth c H locs ls F hS hR hz hl
  subst hz hi
  refine va_newaK F.1 F.2.1 (atype := .long) (F.2.2.2.2.1 _ hw) rfl hd rfl (nI_pos (by omega)) (nI_clamp (by omega)) (by show n * 8 ≤ _; omega) hc hs rfl fun H1 cA e1 z1 o1 hAr hNm => ?_
  have hcA : gCy G 1 = cA := Option.some.inj ((F.2.2.2.2.2.2.2.2.2.1.1.2 1 _ rfl).2.symm.trans hNm)
  have hA : gA G H.size := Nat.le_trans F.2.2.2.2.2.2.2.2.2.2.2 hS.1
  refine kk p e s m args below meth c H1 locs ls F ⟨Nat.le_trans hS.1 (by omega), fun x h1 h2 => (o1 x (Nat.lt_of_lt_of_le h1 hS.1)).trans (hS.2.1 x h1 h2), hS.2.2⟩ (hR.push hA ?_ o1) z1 hl
  show H1[H.size]? = some (vp_cell (gCy G 1) (n, .inr (.inl (fun _ => 0))))
  rw [vp_cell_l, hcA]
  exact e1
theorem gw_newR {i : Int32} {idx kd : Nat} {C : String} (hd : gD M pc (.anewarray idx) 3 pc') (hkd : (kd = 2 ∧ C = "FolderRounds$Station") ∨ (kd = 3 ∧ C = "FolderRounds$Cartridge") ∨ (kd = 4 ∧ C = "java/lang/Object")) (hw : Cond.classLink M.2.2.1 idx C ∈ gW) (n : Nat) (hi : i = nI n) (hn : n ≤ 100000) (hc : k + 1 ≤ R.cells) (hs : w + n ≤ R.slots) (kk : GW G l Z R M pc' lv (.ref sz :: st) (gUp h sz (gR kd n (fun _ => none))) (sz + 1) (k + 1) (w + n)) : GW G l Z R M pc lv (.int i :: st) h sz k w := by
  obtain ⟨hd, rfl⟩ := hd
  intro p e s m args below meth c H locs ls F hS hR hz hl
  subst hz hi
  have hK := F.2.2.2.2.2.2.2.2.2.1
  have hO : va_AO C s ∧ ((gTys G)[kd]? = some (gCy G kd, .object C)) := by
    rcases hkd with ⟨rfl, rfl⟩ | ⟨rfl, rfl⟩ | ⟨rfl, rfl⟩
    · exact ⟨hK.2.2.2.2.1.1, rfl⟩
    · exact ⟨hK.2.2.2.2.1.2.1, rfl⟩
    · exact ⟨hK.2.2.2.2.1.2.2, rfl⟩
  have hcl : (nI n).toNatClampNeg = n := nI_clamp (by omega)
  refine W.anew F.1 F.2.1 F.2.2.2.1 (F.2.2.2.2.1 _ hw) (va_AO.use hO.1) rfl hd rfl (nI_pos (by omega)) (by rw [hcl]; omega) hc (by rw [hcl]; exact hs) fun cA kA comp f1 f2 f3 f4 => ?_
  rw [hcl]
  generalize hH1 : H.push ({ cls := cA, slots := Array.replicate n .null, vm := .none } : Cell) = H1
  have z1 : H1.size = H.size + 1 := by rw [← hH1, Array.size_push]
  have e1 : H1[H.size]? = some (arrV cA n (fun _ => .null)) := by rw [← hH1, Array.getElem?_push_size, ← arrV_new]
  have o1 : ∀ q : Nat, q < H.size → H1[q]? = H[q]? := fun q hq => by rw [← hH1, Array.getElem?_push, if_neg (Nat.ne_of_lt hq)]
  have hcA : gCy G kd = cA := by
    obtain ⟨-, -, -, -, -, r4⟩ := (hK.1.2 kd _ hO.2).2
    exact Option.some.inj (r4.symm.trans f1)
  have hA : gA G H.size := Nat.le_trans F.2.2.2.2.2.2.2.2.2.2.2 hS.1
  refine kk p e s m args below meth c H1 locs ls F ⟨Nat.le_trans hS.1 (by omega), fun x h1 h2 => (o1 x (Nat.lt_of_lt_of_le h1 hS.1)).trans (hS.2.1 x h1 h2), hS.2.2⟩ (hR.push hA ?_ o1) z1 hl
  show H1[H.size]? = some (vp_cell (gCy G kd) (n, .inr (.inr (.inr (.inr (fun _ => none))))))
  rw [vp_cell_q, hcA]
  exact e1
/-- a new object -/
def gNew (M : gM) (idx ci : Nat) (fs : List Value) : Prop := ∃ (C : String) (T : u_T) (N : Nat) (ty : Nat → FieldType), gCl[ci]? = some (C, T, N) ∧ fs.length = N ∧ Cond.classLink M.2.2.1 idx C ∈ gW ∧ Cond.instantiable C N ∈ gW ∧ Cond.initialized C ∈ gW ∧ (∀ w ∈ u_ws C T N, w ∈ gW) ∧ (∀ k, k < N → parseFieldDescriptor (T k).2.2.1 = some (ty k)) ∧ (∀ j, j < N → defaultValue (ty j) = vp_V fs j)
theorem gw_new {idx ci : Nat} (fs : List Value) (hd : gD M pc (.new idx) 3 pc') (hN : gNew M idx ci fs) (hc : k + 1 ≤ R.cells) (hs : w + fs.length ≤ R.slots) (kk : GW G l Z R M pc' lv (.ref sz :: st) (gUp h sz (gO ci fs)) (sz + 1) (k + 1) (w + fs.length)) : GW G l Z R M pc lv st h sz k w := by
  obtain ⟨hd, rfl⟩ := hd
  obtain ⟨C, T, N, ty, hcl, rfl, hlk, hins, hini, hin, hty, hfs⟩ := hN
  intro p e s m args below meth c H locs ls F hS hR hz hl
  subst hz
  have hKn := F.2.2.2.2.2.2.2.2.2.1.1.1 ci _ hcl
  refine W.newcK F.1 F.2.1 F.2.2.2.1 (F.2.2.2.2.1 _ hlk) (F.2.2.2.2.1 _ hins) (F.2.2.2.2.1 _ hini) rfl hd hc hs hKn.2.1 rfl fun H1 kC hkC e1 z1 o1 => ?_
  have hA : gA G H.size := Nat.le_trans F.2.2.2.2.2.2.2.2.2.2.2 hS.1
  refine kk p e s m args below meth c H1 locs ls F ⟨Nat.le_trans hS.1 (by omega), fun x h1 h2 => (o1 x (Nat.lt_of_lt_of_le h1 hS.1)).trans (hS.2.1 x h1 h2), hS.2.2⟩ (hR.push hA ?_ o1) z1 hl
  exact ⟨_, hcl, (u_born ty F.2.2.2.2.1 hin hKn hkC e1 hty).to hfs⟩
/-- Object.<init>, a static field, casts, class objects -/
theorem gw_objInit {a idx : Nat} (hd : gD M pc (.invokespecial idx) 3 pc') (hw : Cond.methodLink M.2.2.1 idx objectInit ∈ gW ∧ Cond.instanceMethod objectInit ∈ gW ∧ Cond.code objectInit ⟨#[0xb1]⟩ 1 none ∈ gW) (hf : 1 ≤ R.frames) (hlo : (st.map fun v => v.category).sum + 12 ≤ R.locals) (kk : GW G l Z R M pc' lv st h sz k w) : GW G l Z R M pc lv (.ref a :: st) h sz k w := by
  obtain ⟨hd, rfl⟩ := hd
  intro p e s m args below meth c H locs ls F hS hR hz hl
  refine W.objInit F.1 F.2.1 F.2.2.2.1 (F.2.2.2.2.1 _ hw.1) (F.2.2.2.2.1 _ hw.2.1) (F.2.2.2.2.1 _ hw.2.2) rfl (by show ls.size = _; rw [hl.2.1, F.2.2.1]) rfl hd hf (by show 2 * 0 + _ + 12 ≤ _; omega) (kk p e s m args below meth c H locs ls F hS hR hz hl)
theorem gw_getsD {idx : Nat} (hd : gD M pc (.getstatic idx) 3 pc') (hw : Cond.fieldLink M.2.2.1 idx "java/util/ArrayList" "DEFAULTCAPACITY_EMPTY_ELEMENTDATA" "[Ljava/lang/Object;" ∈ gW) (kk : GW G l Z R M pc' lv (.ref (gDce G) :: st) h sz k w) : GW G l Z R M pc lv st h sz k w := by
  obtain ⟨hd, rfl⟩ := hd
  intro p e s m args below meth c H locs ls F hS hR hz hl
  exact va_gets F.1 F.2.1 F.2.2.2.2.2.2.2.2.2.2.1.1 hS F.2.2.2.1 (F.2.2.2.2.1 _ hw) (fun _ q => q) hd (kk p e s m args below meth c H locs ls F hS hR hz hl)
theorem gw_castV {a idx : Nat} {fs : List Value} (hd : gD M pc (.checkcast idx) 3 pc') (hw : Cond.classLink M.2.2.1 idx "FolderRounds$Version" ∈ gW) (ha : h a = some (gO 4 fs)) (kk : GW G l Z R M pc' lv (.ref a :: st) h sz k w) : GW G l Z R M pc lv (.ref a :: st) h sz k w := by
  obtain ⟨hd, rfl⟩ := hd
  intro p e s m args below meth c H locs ls F hS hR hz hl
  have hK := F.2.2.2.2.2.2.2.2.2.1.1
  exact va_castS F.1 F.2.1 F.2.2.2.1 (F.2.2.2.2.1 _ hw) (hK.1 4 _ rfl).2 (va_recv hK (gP1 hR ha) (ci := 4) (q0 := 0) rfl rfl) hd (kk p e s m args below meth c H locs ls F hS hR hz hl)
theorem gw_castN {idx : Nat} (hd : gD M pc (.checkcast idx) 3 pc') (kk : GW G l Z R M pc' lv (.null :: st) h sz k w) : GW G l Z R M pc lv (.null :: st) h sz k w := by
  obtain ⟨hd, rfl⟩ := hd
  intro p e s m args below meth c H locs ls F hS hR hz hl
  exact lv_castN F.1 F.2.1 hd (kk p e s m args below meth c H locs ls F hS hR hz hl)
theorem gw_ldcM {idx : Nat} (hd : gD M pc (.ldc idx) 2 pc') (hw : Cond.classLink M.2.2.1 idx "[Ljava/lang/Object;" ∈ gW) (kk : GW G l Z R M pc' lv (.ref (gMi G) :: st) h sz k w) : GW G l Z R M pc lv st h sz k w := by
  obtain ⟨hd, rfl⟩ := hd
  intro p e s m args below meth c H locs ls F hS hR hz hl
  exact va_ldcM F.1 F.2.1 F.2.2.2.1 (F.2.2.2.2.1 _ hw) F.2.2.2.2.2.2.2.2.2.1.2.2.2.2.2 hd (kk p e s m args below meth c H locs ls F hS hR hz hl)
theorem gw_getC {a idx n : Nat} {f : Nat → Option Nat} (hd : gD M pc (.invokevirtual idx) 3 pc') (hw : Cond.methodLink M.2.2.1 idx ⟨"java/lang/Object", "getClass", "()Ljava/lang/Class;"⟩ ∈ gW ∧ Cond.selects "[Ljava/lang/Object;" ⟨"java/lang/Object", "getClass", "()Ljava/lang/Class;"⟩ ⟨"java/lang/Object", "getClass", "()Ljava/lang/Class;"⟩ ∈ gW ∧ Cond.instanceMethod ⟨"java/lang/Object", "getClass", "()Ljava/lang/Class;"⟩ ∈ gW ∧ Cond.native ⟨"java/lang/Object", "getClass", "()Ljava/lang/Class;"⟩ ∈ gW) (ha : h a = some (gR 4 n f)) (hf : 1 ≤ R.frames) (hlo : (st.map fun v => v.category).sum + 14 ≤ R.locals) (kk : GW G l Z R M pc' lv (.ref (gMi G) :: st) h sz k w) : GW G l Z R M pc lv (.ref a :: st) h sz k w := by
  obtain ⟨hd, rfl⟩ := hd
  intro p e s m args below meth c H locs ls F hS hR hz hl
  have hK := F.2.2.2.2.2.2.2.2.2.1
  refine va_getC F.1 F.2.1 (by rw [hl.2.1]; exact F.2.2.1) F.2.2.2.1 (F.2.2.2.2.1 _ hw.1) (va_Dc.use hK.2.2.2.1) (F.2.2.2.2.1 _ hw.2.1) (F.2.2.2.2.1 _ hw.2.2.1) (F.2.2.2.2.1 _ hw.2.2.2) hK.2.2.2.2.2 ⟨_, (hR a _ ha).2, rfl, ?_⟩ hf hlo hd (kk p e s m args below meth c H locs ls F hS hR hz hl)
  exact va_nmO (hK.1.2 4 _ rfl).2 rfl
end Rows2
end
section
/-! ===== rows: System.arraycopy, calls, ends, throws, entries ===== -/
theorem g_nn (z : Int32) (hz : ¬ z < 0) : z.toInt = (z.toNatClampNeg : Int) := by
  have hz0 : (0 : Int) ≤ z.toInt := by
    have := Int32.not_lt.mp hz
    simpa using Int32.le_iff_toInt_le.mp this
  show z.toInt = ((z.toInt.toNat : Nat) : Int)
  omega
def gCpW (M : gM) (idx : Nat) : Prop := Cond.methodLink M.2.2.1 idx arraycopyName ∈ gW ∧ Cond.native arraycopyName ∈ gW ∧ Cond.static arraycopyName ∈ gW ∧ Cond.initialized "java/lang/System" ∈ gW
section Rows3
variable {G : gG} {l : Launch} {Z : State → Array Value → List Frame → State → Prop} {R : Room} {M : gM} {pc pc' : Nat} {lv : List (Option Value)} {st : List Value} {h : gHp} {sz k w : Nat}
theorem gw_copyI {a0 a n0 n1 : Nat} {f g : Nat → Int32} {sp dp n : Int32} {idx : Nat} (hd : gD M pc (.invokestatic idx) 3 pc') (hw : gCpW M idx) (ha0 : h a0 = some (gI n0 f)) (ha : h a = some (gI n1 g)) (sp' dp' n' : Nat) (e1 : sp = nI sp') (e2 : dp = nI dp') (e3 : n = nI n') (h1 : sp' + n' ≤ n0) (h2 : dp' + n' ≤ n1) (h3 : sp' + dp' + n' < 2147483648) (hf : 1 ≤ R.frames) (hlo : (st.map fun v => v.category).sum + 64 ≤ R.locals)
    (kk : GW G l Z R M pc' lv st (gUp h a (gI n1 (va_cpy f g sp' dp' n'))) sz k w) : GW G l Z R M pc lv (.int n :: .int dp :: .ref a :: .int sp :: .ref a0 :: st) h sz k w := by
  obtain ⟨hd, rfl⟩ := hd
  intro p e s m args below meth c H locs ls F hS hR hz hl
  have hK := F.2.2.2.2.2.2.2.2.2.1.1
  have hA := (hR a _ ha).1
  have q1 : ¬ sp < 0 := by rw [e1]; exact nI_pos (by omega)
  have q2 : ¬ dp < 0 := by rw [e2]; exact nI_pos (by omega)
  have q3 : ¬ n < 0 := by rw [e3]; exact nI_pos (by omega)
  have c1 : sp.toNatClampNeg = sp' := by rw [e1]; exact nI_clamp (by omega)
  have c2 : dp.toNatClampNeg = dp' := by rw [e2]; exact nI_clamp (by omega)
  have c3 : n.toNatClampNeg = n' := by rw [e3]; exact nI_clamp (by omega)
  intro T hT X
  have hc0 : H[a0]? = some (vp_cell (gCy G 0) (n0, .inl f)) := (hR a0 _ ha0).2
  have hc1 : H[a]? = some (vp_cell (gCy G 0) (n1, .inl g)) := (hR a _ ha).2
  obtain ⟨-, k0, hk0, cm0, hkk0⟩ := (hK.2 0 _ rfl).1 n0 (fun j => .int (f j))
  obtain ⟨-, k1, hk1, cm1, hkk1⟩ := (hK.2 0 _ rfl).1 n1 (fun j => .int (g j))
  obtain ⟨vm', X', step⟩ := X.arraycopy F.1 F.2.2.2.1 (F.2.2.2.2.1 _ hw.1) (F.2.2.2.2.1 _ hw.2.1) (F.2.2.2.2.1 _ hw.2.2.1) (F.2.2.2.2.1 _ hw.2.2.2) (src := a0) (dst := a) (cs := vp_cell (gCy G 0) (n0, .inl f)) (cd := vp_cell (gCy G 0) (n1, .inl g)) (srcPos := sp) (destPos := dp) (n := n) (by rw [hT]; exact hc0) (by rw [hT]; exact hc1)
    (fun _ h => by cases h) (fun _ h => by cases h) (fun h => by cases h) (fun h => by cases h) hk0 hk1 hkk0 hkk1 (by first | rfl | simp [refKind]) q1 q2 q3
    (by rw [g_nn sp q1, g_nn n q3]; show ¬ _ > ((arrV (gCy G 0) n0 (fun j => .int (f j))).slots.size : Int); rw [arrV_size]; omega)
    (by rw [g_nn dp q2, g_nn n q3]; show ¬ _ > ((arrV (gCy G 0) n1 (fun j => .int (g j))).slots.size : Int); rw [arrV_size]; omega)
    (fun vm₁ _ i hi => by
      have e : (vp_cell (gCy G 0) (n0, .inl f)).slots.getD (sp.toNatClampNeg + i) .null = .int (f (sp.toNatClampNeg + i)) := by
        show (arrV (gCy G 0) n0 (fun j => .int (f j))).slots.getD _ _ = _
        rw [Array.getD_eq_getD_getElem?, arrV_read _ _ (by omega)]
        rfl
      refine ⟨?_, ?_⟩
      · rw [e]
        rfl
      · rw [e]
        exact trivial)
    (g := F0 m pc ls (.int n :: .int dp :: .ref a :: .int sp :: .ref a0 :: st)) rfl (by show ls.size = _; rw [hl.2.1, F.2.2.1]) (rest := st) rfl (by rw [F.2.1]; exact hd) hf (by
      have hw9 : nativeFrameWords "java/lang/System" "arraycopy" 5 + 11 ≤ 64 := by decide
      show 2 * 0 + _ + _ ≤ _; omega)
  have e9 : copied (vp_cell (gCy G 0) (n0, .inl f)) (vp_cell (gCy G 0) (n1, .inl g)) sp dp n = vp_cell (gCy G 0) (n1, .inl (va_cpy f g sp' dp' n')) := by
    rw [← c1, ← c2, ← c3]
    exact va_copied (fun z => .int z) (gCy G 0) (gCy G 0) f g (by omega)
  rw [e9] at X' step
  have hla : a < H.size := (Array.getElem?_eq_some_iff.mp hc1).1
  have hheap : ((T.setVm vm').setCell a (vp_cell (gCy G 0) (n1, .inl (va_cpy f g sp' dp' n')))).heap = H.setIfInBounds a (vp_cell (gCy G 0) (n1, .inl (va_cpy f g sp' dp' n'))) := by rw [← hT]; rfl
  have oq : ∀ q : Nat, q ≠ a → (H.setIfInBounds a (vp_cell (gCy G 0) (n1, .inl (va_cpy f g sp' dp' n'))))[q]? = H[q]? := fun q hq => by simp [Array.getElem?_setIfInBounds, Ne.symm hq]
  obtain ⟨t, a1, b1⟩ := kk p e s m args below meth c _ _ ls F ⟨by simp; exact hS.1, fun q g1 g2 => by
      rw [oq q (fun e => g2 (by rw [e]; exact hA))]
      exact hS.2.1 q g1 g2, fun q hq => by
      rcases List.mem_append.mp hq with h | h
      · exact hS.2.2 q h
      · obtain ⟨z, -, hz⟩ := List.mem_map.mp h
        rw [← hz]
        exact hA⟩ (hR.put hA (show (H.setIfInBounds a _)[a]? = some _ by simp [Array.getElem?_setIfInBounds, hla]) oq) (by simp; exact hz) hl _ hheap X'
  exact ⟨t, step t a1, b1⟩
theorem gw_copyR {a0 a n0 n1 : Nat} {f g : Nat → Option Nat} {sp dp n : Int32} {idx : Nat} (hd : gD M pc (.invokestatic idx) 3 pc') (hw : gCpW M idx) (ha0 : h a0 = some (gR 4 n0 f)) (ha : h a = some (gR 4 n1 g)) (sp' dp' n' : Nat) (e1 : sp = nI sp') (e2 : dp = nI dp') (e3 : n = nI n') (h1 : sp' + n' ≤ n0) (h2 : dp' + n' ≤ n1) (h3 : sp' + dp' + n' < 2147483648) (hel : ∀ i, i < n' → ∀ y, f (sp' + i) = some y → ∃ fs, h y = some (gO 4 fs)) (hf : 1 ≤ R.frames) (hlo : (st.map fun v => v.category).sum + 64 ≤ R.locals)
    (kk : GW G l Z R M pc' lv st (gUp h a (gR 4 n1 (va_cpy f g sp' dp' n'))) sz k w) : GW G l Z R M pc lv (.int n :: .int dp :: .ref a :: .int sp :: .ref a0 :: st) h sz k w := by
  obtain ⟨hd, rfl⟩ := hd
  intro p e s m args below meth c H locs ls F hS hR hz hl
  have hK := F.2.2.2.2.2.2.2.2.2.1.1
  have hA := (hR a _ ha).1
  have q1 : ¬ sp < 0 := by rw [e1]; exact nI_pos (by omega)
  have q2 : ¬ dp < 0 := by rw [e2]; exact nI_pos (by omega)
  have q3 : ¬ n < 0 := by rw [e3]; exact nI_pos (by omega)
  have c1 : sp.toNatClampNeg = sp' := by rw [e1]; exact nI_clamp (by omega)
  have c2 : dp.toNatClampNeg = dp' := by rw [e2]; exact nI_clamp (by omega)
  have c3 : n.toNatClampNeg = n' := by rw [e3]; exact nI_clamp (by omega)
  intro T hT X
  have hc0 : H[a0]? = some (vp_cell (gCy G 4) (n0, .inr (.inr (.inr (.inr f))))) := (hR a0 _ ha0).2
  have hc1 : H[a]? = some (vp_cell (gCy G 4) (n1, .inr (.inr (.inr (.inr g))))) := (hR a _ ha).2
  obtain ⟨-, k0, hk0, cm0, hkk0⟩ := (hK.2 4 _ rfl).1 n0 (fun j => va_rf (f j))
  obtain ⟨-, k1, hk1, cm1, hkk1⟩ := (hK.2 4 _ rfl).1 n1 (fun j => va_rf (g j))
  obtain ⟨vm', X', step⟩ := X.arraycopy F.1 F.2.2.2.1 (F.2.2.2.2.1 _ hw.1) (F.2.2.2.2.1 _ hw.2.1) (F.2.2.2.2.1 _ hw.2.2.1) (F.2.2.2.2.1 _ hw.2.2.2) (src := a0) (dst := a) (cs := vp_cell (gCy G 4) (n0, .inr (.inr (.inr (.inr f))))) (cd := vp_cell (gCy G 4) (n1, .inr (.inr (.inr (.inr g))))) (srcPos := sp) (destPos := dp) (n := n) (by rw [hT]; exact hc0) (by rw [hT]; exact hc1)
    (fun _ h => by cases h) (fun _ h => by cases h) (fun h => by cases h) (fun h => by cases h) hk0 hk1 hkk0 hkk1 rfl q1 q2 q3
    (by rw [g_nn sp q1, g_nn n q3]; show ¬ _ > ((arrV (gCy G 4) n0 (fun j => va_rf (f j))).slots.size : Int); rw [arrV_size]; omega)
    (by rw [g_nn dp q2, g_nn n q3]; show ¬ _ > ((arrV (gCy G 4) n1 (fun j => va_rf (g j))).slots.size : Int); rw [arrV_size]; omega)
    (fun vm₁ hal i hi => by
      have e : (vp_cell (gCy G 4) (n0, .inr (.inr (.inr (.inr f))))).slots.getD (sp.toNatClampNeg + i) .null = va_rf (f (sp.toNatClampNeg + i)) := by
        show (arrV (gCy G 4) n0 (fun j => va_rf (f j))).slots.getD _ _ = _
        rw [Array.getD_eq_getD_getElem?, arrV_read _ _ (by omega)]
        rfl
      rw [e]
      cases hy : f (sp.toNatClampNeg + i) with
      | none => exact ⟨rfl, trivial⟩
      | some y =>
        obtain ⟨fs, hfs⟩ := hel i (by omega) y (by rw [← c1]; exact hy)
        obtain ⟨cellV, g1, g2, g3⟩ := va_recv hK (gP1 hR hfs) (ci := 4) (q0 := 0) rfl rfl
        obtain ⟨kA, comp, r1, r2, r3, -⟩ := (hK.2 4 _ rfl).2
        cases hk1.symm.trans r1
        cases hkk1.symm.trans r2
        obtain ⟨kC, hkC, -⟩ := Vm.findClass_spec g3
        obtain ⟨kE, hkE, -⟩ := Vm.findClass_spec r3
        obtain ⟨kC', hkC', -⟩ := hal.2.2 _ _ hkC
        obtain ⟨kE', hkE', -⟩ := hal.2.2 _ _ hkE
        refine ⟨rfl, cellV, (show T.heap[y]? = some cellV by rw [hT]; exact g1), (fun q h => by rw [h] at g2; cases g2), ⟨kC', hkC'⟩, ?_, ?_⟩
        · exact ⟨kE', hkE'⟩
        · show vm₁.assignable _ _ = true
          rw [hal.assignable]
          obtain ⟨d0, t1, f1, f2, f3⟩ := Cond.castable_spec (va_Nw.use (A := args) rfl (F.2.2.2.2.2.2.2.2.2.1.2.1 (.castable "FolderRounds$Version" "java/lang/Object") (by simp [gNwl])))
          have w1 : cellV.cls = d0 := Option.some.inj (g3.symm.trans f1)
          have w2 := Option.some.inj (r3.symm.trans f2)
          rw [w1, w2]
          exact f3)
    (g := F0 m pc ls (.int n :: .int dp :: .ref a :: .int sp :: .ref a0 :: st)) rfl (by show ls.size = _; rw [hl.2.1, F.2.2.1]) (rest := st) rfl (by rw [F.2.1]; exact hd) hf (by
      have hw9 : nativeFrameWords "java/lang/System" "arraycopy" 5 + 11 ≤ 64 := by decide
      show 2 * 0 + _ + _ ≤ _; omega)
  have e9 : copied (vp_cell (gCy G 4) (n0, .inr (.inr (.inr (.inr f))))) (vp_cell (gCy G 4) (n1, .inr (.inr (.inr (.inr g))))) sp dp n = vp_cell (gCy G 4) (n1, .inr (.inr (.inr (.inr (va_cpy f g sp' dp' n'))))) := by
    rw [← c1, ← c2, ← c3, vp_cell_q, vp_cell_q, vp_cell_q]
    exact va_copied (fun z => va_rf z) (gCy G 4) (gCy G 4) f g (by omega)
  rw [e9] at X' step
  have hla : a < H.size := (Array.getElem?_eq_some_iff.mp hc1).1
  have hheap : ((T.setVm vm').setCell a (vp_cell (gCy G 4) (n1, .inr (.inr (.inr (.inr (va_cpy f g sp' dp' n'))))))).heap = H.setIfInBounds a (vp_cell (gCy G 4) (n1, .inr (.inr (.inr (.inr (va_cpy f g sp' dp' n')))))) := by rw [← hT]; rfl
  have oq : ∀ q : Nat, q ≠ a → (H.setIfInBounds a (vp_cell (gCy G 4) (n1, .inr (.inr (.inr (.inr (va_cpy f g sp' dp' n')))))))[q]? = H[q]? := fun q hq => by simp [Array.getElem?_setIfInBounds, Ne.symm hq]
  obtain ⟨t, a1, b1⟩ := kk p e s m args below meth c _ _ ls F ⟨by simp; exact hS.1, fun q g1 g2 => by
      rw [oq q (fun e => g2 (by rw [e]; exact hA))]
      exact hS.2.1 q g1 g2, fun q hq => by
      rcases List.mem_append.mp hq with h | h
      · exact hS.2.2 q h
      · obtain ⟨z, -, hz⟩ := List.mem_map.mp h
        rw [← hz]
        exact hA⟩ (hR.put hA (show (H.setIfInBounds a _)[a]? = some _ by simp [Array.getElem?_setIfInBounds, hla]) oq) (by simp; exact hz) hl _ hheap X'
  exact ⟨t, step t a1, b1⟩
/-- what a call of method y at pool index idx needs -/
def gCl0 (M : gM) (idx : Nat) (y : MethodName) (M' : gM) (n : Nat) : Prop := Cond.methodLink M.2.2.1 idx y ∈ gW ∧ Cond.initialized y.cls ∈ gW ∧ gCode y M' ∈ gW ∧ (y.cls ≠ "java/lang/invoke/MethodHandle" ∧ y.cls ≠ "java/lang/invoke/VarHandle") ∧ (parseMethodDescriptor y.desc).map (fun d => d.parameters.length) = some n
def gClV (M : gM) (idx ci : Nat) (y : MethodName) (M' : gM) (n : Nat) : Prop := gCl0 M idx y M' n ∧ M'.2.2.2.2.1 = [] ∧ Cond.instanceMethod y ∈ gW ∧ Cond.selects y.cls y y ∈ gW ∧ ∃ (T : u_T) (N : Nat), gCl[ci]? = some (y.cls, T, N)
def gClS (M : gM) (idx : Nat) (y : MethodName) (M' : gM) (n : Nat) : Prop := gCl0 M idx y M' n ∧ Cond.static y ∈ gW
def gClI (M : gM) (idx : Nat) (y : MethodName) (M' : gM) (n : Nat) : Prop := gCl0 M idx y M' n ∧ M'.2.2.2.2.1 = [] ∧ Cond.instanceMethod y ∈ gW ∧ y.name = "<init>" ∧ M'.2.2.2.2.2 = none
def gRm (R : Room) (d : Nat) (M' : gM) : Prop := 16 * d + 1 ≤ R.frames ∧ 8 + (M'.2.1 + 11) + 128 * d ≤ R.locals
theorem gCode_nil {y : MethodName} {M' : gM} (h : M'.2.2.2.2.1 = []) : gCode y M' = .code y M'.1 M'.2.1 M'.2.2.2.2.2 := by unfold gCode; rw [if_pos h]
theorem gCode_cons {y : MethodName} {M' : gM} (h : ¬ M'.2.2.2.2.1 = []) : gCode y M' = .codeWith y M'.1 M'.2.1 M'.2.2.2.2.2 M'.2.2.2.2.1 := by unfold gCode; rw [if_neg h]
theorem gCallB {M : gM} {p : Program} {s : State} {m : MethodId} {args : Array Value} {meth : Method} {c : Code} {idx n d mc ms : Nat} {y : MethodName} {M' : gM} (F : gFix G M p s m args meth c) (hc : gCl0 M idx y M' n) (hn : M'.2.2.2.2.1 = []) (hR : gRm R d M') : CallB R s args M.2.2.1 idx y M'.1 M'.2.1 M'.2.2.2.2.2 (gWs y M') (gRoom d mc ms) mc ms n :=
  callB_of n F.2.2.2.2.1 (gGood hc.2.2.1) (by unfold gWs; rw [gCode_nil hn]) rfl rfl (F.2.2.2.2.1 _ hc.2.1) (F.2.2.2.2.1 _ hc.1) ⟨hc.2.2.2.1.1, hc.2.2.2.1.2, hc.2.2.2.2⟩ hR
/-- what follows a call that may return or throw -/
theorem gw_after {p : Program} {e : Env} {s : State} {m : MethodId} {args : Array Value} {below : List Frame} {meth : Method} {c : Code} {H : Heap} {locs : List Loc} {ls : Array Slot} {mc ms : Nat} {st0 : List Value} {Q : gRs → gHp → Nat → Prop} {as : Array Value}
    (F : gFix G M p s m args meth c) (hS : va_S (gA G) s.heap H locs) (hz : H.size = sz) (hl : gLs ls M.2.1 lv) (hpc : pc + 3 = pc')
    (hr : vx_Run p l e R s m args below meth c H locs k w mc ms (F0 m pc ls st0) st (gQ G Q as) (gX G Q) (gA G))
    (kr : ∀ v h' sz', Q (.inl v) h' sz' → sz ≤ sz' → GW G l Z R M pc' lv (v.toList ++ st) h' sz' (k + mc) (w + ms))
    (kx : ∀ E h' sz', Q (.inr E) h' sz' → sz ≤ sz' → GX G l Z R M pc lv st h' sz' (k + mc) (w + ms) E) : W p l e R s m args below meth c H locs k w (Z s args below) (F0 m pc ls st0) := by
  subst hpc
  intro T hT X
  rcases hr T hT X with ⟨v, st₀, t, T', L, h0, X', hL, e1, e2, ⟨v', h', hv, hrep, hQ, hF⟩, step⟩ | ⟨q, st₀, t, T', L, E, ce, h0, X', hL, e1, e2, ⟨h', hrep, hQ, hF⟩, hce, hcv, hcl, step⟩
  · cases hv
    obtain ⟨k1, k2, k3⟩ := vx_keep h0 e1 hS (fun _ _ z => z) (fun _ z => z) hL hF
    obtain ⟨t2, a1, b1⟩ := kr v h' t.heap.size hQ (by rw [← hz, ← e1]; exact k1) p e s m args below meth c T'.heap (locs ++ L) ls F k3 (by rw [e1]; exact hrep) (by rw [e1]) hl T' rfl X'
    exact ⟨t2, step t2 a1, b1⟩
  · obtain ⟨k1, k2, k3⟩ := vx_keep h0 e1 hS (fun _ _ z => z) (fun _ z => z) hL hF
    obtain ⟨t2, a1, b1⟩ := kx E h' t.heap.size hQ (by rw [← hz, ← e1]; exact k1) p e s m args below meth c T'.heap (locs ++ L) ls q ce F k3 (by rw [e1]; exact hrep) (by rw [e1]) hl (by rw [e1]; exact hce) hcv hcl T' rfl X'
    exact ⟨t2, step.trans a1, b1⟩
theorem gw_callV {b ci idx n d mc ms : Nat} {y : MethodName} {M' : gM} {fs As st0 : List Value} {Q : gRs → gHp → Nat → Prop} (hd : gD M pc (.invokevirtual idx) 3 pc') (hc : gClV M idx ci y M' n) (hb : h b = some (gO ci fs)) (hst : st0 = As.reverse ++ .ref b :: st) (hn : As.length = n) (hsum : (st.map fun v => v.category).sum ≤ 8) (hR : gRm R d M') (hcs : k + mc ≤ R.cells) (hss : w + ms ≤ R.slots)
    (hM : SM G l d y M' (.ref b :: As) h sz mc ms Q)
    (kr : ∀ v h' sz', Q (.inl v) h' sz' → sz ≤ sz' → GW G l Z R M pc' lv (v.toList ++ st) h' sz' (k + mc) (w + ms))
    (kx : ∀ E h' sz', Q (.inr E) h' sz' → sz ≤ sz' → GX G l Z R M pc lv st h' sz' (k + mc) (w + ms) E) : GW G l Z R M pc lv st0 h sz k w := by
  obtain ⟨hd, hpc⟩ := hd
  obtain ⟨hc0, hhn, hi, hsel, T, N, hci⟩ := hc
  intro p e s m args below meth c H locs ls F hS hRp hz hl
  subst hst
  have hK := F.2.2.2.2.2.2.2.2.2.1
  refine gw_after F hS hz hl hpc (vx_runV (As := As) (rest := st) (b := b) ⟨F.1, F.2.1, F.2.2.1, F.2.2.2.1, F.2.2.2.2.1⟩ hM ⟨gCallB F hc0 hhn hR, F.2.2.2.2.1 _ hi, F.2.2.2.2.1 _ hsel⟩ ⟨gPc_blind, va_recv hK.1 (gP1 hRp hb) (q0 := 0) hci rfl, gPc_at hK F.2.2.2.2.2.2.2.2.2.2.1 F.2.2.2.2.2.2.2.2.2.2.2 hS hRp hz⟩ rfl hn hl.2.1 rfl (by show 2 * 0 + _ ≤ 8; omega) hd ⟨hcs, hss⟩) kr kx
theorem gw_callS {idx n d mc ms : Nat} {y : MethodName} {M' : gM} {As st0 : List Value} {Q : gRs → gHp → Nat → Prop} (hd : gD M pc (.invokestatic idx) 3 pc') (hc : gClS M idx y M' n) (hst : st0 = As.reverse ++ st) (hn : As.length = n) (hsum : (st.map fun v => v.category).sum ≤ 8) (hR : gRm R d M') (hcs : k + mc ≤ R.cells) (hss : w + ms ≤ R.slots)
    (hM : SM G l d y M' As h sz mc ms Q)
    (kr : ∀ v h' sz', Q (.inl v) h' sz' → sz ≤ sz' → GW G l Z R M pc' lv (v.toList ++ st) h' sz' (k + mc) (w + ms))
    (kx : ∀ E h' sz', Q (.inr E) h' sz' → sz ≤ sz' → GX G l Z R M pc lv st h' sz' (k + mc) (w + ms) E) : GW G l Z R M pc lv st0 h sz k w := by
  obtain ⟨hd, hpc⟩ := hd
  obtain ⟨hc0, hstt⟩ := hc
  intro p e s m args below meth c H locs ls F hS hRp hz hl
  subst hst
  have hK := F.2.2.2.2.2.2.2.2.2.1
  by_cases hhn : M'.2.2.2.2.1 = []
  · exact gw_after F hS hz hl hpc (vx_runS (As := As) (rest := st) ⟨F.1, F.2.1, F.2.2.1, F.2.2.2.1, F.2.2.2.2.1⟩ hM ⟨gCallB F hc0 hhn hR, F.2.2.2.2.1 _ hstt⟩ ⟨gPc_blind, gPc_at hK F.2.2.2.2.2.2.2.2.2.2.1 F.2.2.2.2.2.2.2.2.2.2.2 hS hRp hz⟩ rfl hn hl.2.1 rfl (by show 2 * 0 + _ ≤ 8; omega) hd ⟨hcs, hss⟩) kr kx
  · have hcode := hc0.2.2.1
    have hG := gGood hcode
    rw [gCode_cons hhn] at hcode
    refine gw_after F hS hz hl hpc (vx_runSX (hh := M'.2.2.2.2.1) (bytes := M'.1) (maxL := M'.2.1) (ret := M'.2.2.2.2.2) (As := As) (rest := st) ⟨F.1, F.2.1, F.2.2.1, F.2.2.2.1, F.2.2.2.2.1⟩ hM ⟨⟨rfl, rfl, hR.1, hR.2, pay_in F.2.2.2.2.1 hG, ?_⟩, F.2.2.2.2.1 _ hcode, F.2.2.2.2.1 _ hc0.2.1, hc0.2.2.2.1, fun sig hsg => ?_, F.2.2.2.2.1 _ hc0.1, F.2.2.2.2.1 _ hstt⟩ ⟨gPc_blind, gPc_at hK F.2.2.2.2.2.2.2.2.2.2.1 F.2.2.2.2.2.2.2.2.2.2.2 hS hRp hz⟩ rfl hn hl.2.1 rfl (by show 2 * 0 + _ ≤ 8; omega) hd ⟨hcs, hss⟩) kr kx
    · unfold gWs; rw [gCode_cons hhn]; exact List.mem_cons_self
    · have h2 := hc0.2.2.2.2
      rw [hsg] at h2
      exact (Option.some.inj h2).symm
theorem gw_callI {b idx n d mc ms : Nat} {y : MethodName} {M' : gM} {As st0 : List Value} {Q : gRs → gHp → Nat → Prop} (hd : gD M pc (.invokespecial idx) 3 pc') (hc : gClI M idx y M' n) (hst : st0 = As.reverse ++ .ref b :: st) (hn : As.length = n) (hsum : (st.map fun v => v.category).sum ≤ 8) (hR : gRm R d M') (hcs : k + mc ≤ R.cells) (hss : w + ms ≤ R.slots)
    (hM : SM G l d y M' (.ref b :: As) h sz mc ms Q) (hx : ∀ E h' sz', ¬ Q (.inr E) h' sz')
    (kr : ∀ v h' sz', Q (.inl v) h' sz' → sz ≤ sz' → GW G l Z R M pc' lv (v.toList ++ st) h' sz' (k + mc) (w + ms)) : GW G l Z R M pc lv st0 h sz k w := by
  obtain ⟨hd, hpc⟩ := hd
  obtain ⟨hc0, hhn, hi, hnm, hrt⟩ := hc
  intro p e s m args below meth c H locs ls F hS hRp hz hl
  subst hst
  have hK := F.2.2.2.2.2.2.2.2.2.1
  have hM' := vx_Met.toMet hM (fun E st t q => hx _ _ _ q.choose_spec.2.1)
  have hB := gCallB (mc := mc) (ms := ms) F hc0 hhn hR
  rw [hrt] at hB
  have hr := va_runI (As := As) (rest := st) (b := b) (g := F0 m pc ls (As.reverse ++ .ref b :: st)) ⟨F.1, F.2.1, F.2.2.1, F.2.2.2.1, F.2.2.2.2.1⟩ hM' ⟨hB, hnm, F.2.2.2.2.1 _ hi⟩ (⟨gPc_blind, gPc_at hK F.2.2.2.2.2.2.2.2.2.2.1 F.2.2.2.2.2.2.2.2.2.2.2 hS hRp hz⟩ : PreS s H (gPc G (.ref b :: As) h sz) (.ref b :: As)) rfl hn hl.2.1 rfl (by show 2 * 0 + _ ≤ 8; omega) hd (p := p) (e := e) (below := below) (meth := meth) (locs := locs) (R := R) (cells := k) (slots := w) ⟨hcs, hss⟩
  refine gw_after F hS hz hl hpc (Q := Q) (as := (Value.ref b :: As).toArray) ?_ kr (fun E h' sz' q => absurd q (hx _ _ _))
  intro T hT X
  exact Or.inl (hr T hT X)
/-- an exception leaves a method that has no handlers -/
theorem gx_out {Q : gRs → gHp → Nat → Prop} {MC MS : Nat} {E : String} (hh : M.2.2.2.2.1 = []) (hQ : Q (.inr E) h sz) (hk : k ≤ MC) (hw : w ≤ MS) : GX G l (gZ G Q MC MS) R M pc lv st h sz k w E := by
  intro p e s m args below meth c H locs ls q ce F hS hR hz hl h3 h4 h5
  refine vx_out (fun x hx => ?_) F.2.2.2.2.2.2.2.2.1 h3 h4 h5 (fun t ht ha => ⟨h, by rw [ht]; exact hR, by rw [ht, hz]; exact hQ, hS.F ht⟩) hS.2.2 hk hw
  rw [F.2.2.2.2.2.2.1, hh] at hx
  cases hx
/-- .. or is caught -/
theorem gx_catch {E nm : String} (pre : List ExceptionTableEntry) (x : ExceptionTableEntry) (suf : List ExceptionTableEntry) (hsplit : tableOf M.2.2.2.2.1 = pre ++ x :: suf) (hpass : ∀ z ∈ pre, z.catchType ≠ 0 ∧ ∃ nm : String, Cond.classLink M.2.2.1 z.catchType nm ∈ gW ∧ (E, nm) ∈ gNc) (hx : covers x pc = true) (h0 : x.catchType ≠ 0) (hlink : Cond.classLink M.2.2.1 x.catchType nm ∈ gW) (hcast : Cond.castable E nm ∈ gNwl)
    (kk : ∀ q : Nat, GW G l Z R M x.handlerPc lv [.ref q] h sz k w) : GX G l Z R M pc lv st h sz k w E := by
  intro p e s m args below meth c H locs ls q ce F hS hR hz hl h3 h4 h5
  have hK := F.2.2.2.2.2.2.2.2.2.1
  refine vx_catch F.2.2.2.1 pre x suf (by rw [F.2.2.2.2.2.2.1]; exact hsplit) (fun z hz => ?_) hx h0 (F.2.2.2.2.1 _ hlink) (va_Nw.use rfl (hK.2.1 _ hcast)) h3 h4 h5 (kk q p e s m args below meth c H locs ls F hS hR hz hl)
  obtain ⟨z0, nm', q1, q2⟩ := hpass z hz
  exact Or.inr ⟨z0, nm', F.2.2.2.2.1 _ q1, hK.2.2.1 _ q2⟩
/-- returns -/
theorem gw_iret {Q : gRs → gHp → Nat → Prop} {MC MS : Nat} {v : Int32} (hd : gD M pc .ireturn 1 pc') (hr : M.2.2.2.2.2 = some .int) (hk : k ≤ MC) (hw : w ≤ MS) (hQ : Q (.inl (some (.int v))) h sz) : GW G l (gZ G Q MC MS) R M pc lv [.int v] h sz k w := by
  intro p e s m args below meth c H locs ls F hS hR hz hl
  have hlocks := F.2.2.2.2.2.2.2.2.1
  exact W.widen hk hw (vx_ret (W.iret F.1 F.2.1 (F.2.2.2.2.2.2.2.1.trans hr) (fun t ht hW => ⟨_, h, rfl, by rw [ht]; exact hR, by rw [ht, hz]; exact hQ, hS.F ht⟩) hS.2.2 hd.1 hlocks))
theorem gw_zret {Q : gRs → gHp → Nat → Prop} {MC MS : Nat} {v : Int32} (hd : gD M pc .ireturn 1 pc') (hr : M.2.2.2.2.2 = some .boolean) (hv : v = 0 ∨ v = 1) (hk : k ≤ MC) (hw : w ≤ MS) (hQ : Q (.inl (some (.int v))) h sz) : GW G l (gZ G Q MC MS) R M pc lv [.int v] h sz k w := by
  intro p e s m args below meth c H locs ls F hS hR hz hl
  have hlocks := F.2.2.2.2.2.2.2.2.1
  have hn : narrow .boolean (.int v) = .int v := by rcases hv with rfl | rfl <;> decide
  exact W.widen hk hw (vx_ret (W.zret F.1 F.2.1 (F.2.2.2.2.2.2.2.1.trans hr) hn (fun t ht hW => ⟨_, h, rfl, by rw [ht]; exact hR, by rw [ht, hz]; exact hQ, hS.F ht⟩) hS.2.2 hd.1 hlocks))
theorem gw_aret {Q : gRs → gHp → Nat → Prop} {MC MS : Nat} {v : Value} {rt : FieldType} (hd : gD M pc .areturn 1 pc') (hr : M.2.2.2.2.2 = some rt) (hrt : (∃ n, rt = .object n) ∨ ∃ t, rt = .array t) (hv : v = .null ∨ ∃ a, v = .ref a) (hk : k ≤ MC) (hw : w ≤ MS) (hQ : Q (.inl (some v)) h sz) : GW G l (gZ G Q MC MS) R M pc lv [v] h sz k w := by
  intro p e s m args below meth c H locs ls F hS hR hz hl
  have hlocks := F.2.2.2.2.2.2.2.2.1
  exact W.widen hk hw (vx_ret (W.aret F.1 F.2.1 (F.2.2.2.2.2.2.2.1.trans hr) hrt hv (fun t ht hW => ⟨_, h, rfl, by rw [ht]; exact hR, by rw [ht, hz]; exact hQ, hS.F ht⟩) hS.2.2 hd.1 hlocks))
theorem gw_vret {Q : gRs → gHp → Nat → Prop} {MC MS : Nat} (hd : gD M pc .return_ 1 pc') (hr : M.2.2.2.2.2 = none) (hk : k ≤ MC) (hw : w ≤ MS) (hQ : Q (.inl none) h sz) : GW G l (gZ G Q MC MS) R M pc lv [] h sz k w := by
  intro p e s m args below meth c H locs ls F hS hR hz hl
  have hlocks := F.2.2.2.2.2.2.2.2.1
  exact W.widen hk hw (vx_ret (W.vret F.1 F.2.1 (F.2.2.2.2.2.2.2.1.trans hr) (fun t ht hW => ⟨_, h, rfl, by rw [ht]; exact hR, by rw [ht, hz]; exact hQ, hS.F ht⟩) hS.2.2 hd.1 hlocks))
/-- throw new E() -/
def gTh (M : gM) (pc : Nat) (E : String) : Prop := ∃ (ik ic : Nat), decode M.1 pc = .ok (.new ik, 3) ∧ decode M.1 (pc + 3) = .ok (.dup, 1) ∧ decode M.1 (pc + 4) = .ok (.invokespecial ic, 3) ∧ decode M.1 (pc + 7) = .ok (.athrow, 1) ∧ Bundle.fit E = true ∧ Cond.classLink M.2.2.1 ik E ∈ gW ∧ Cond.initialized E ∈ gW ∧ (∀ c ∈ vx_at0 M.2.2.1 ic E ["java/lang/RuntimeException", "java/lang/Exception"], c ∈ gW ∨ c ∈ gNwl) ∧ (∀ c ∈ Cond.classLink M.2.2.1 ik E :: Cond.initialized E :: vx_at0 M.2.2.1 ic E ["java/lang/RuntimeException", "java/lang/Exception"], vx_ot c = true)
theorem gw_throw {Q : gRs → gHp → Nat → Prop} {MC MS d : Nat} {E : String} (hd : gTh M pc E) (htr : l.stackTraces = false) (hh : M.2.2.2.2.1 = []) (hdd : 1 ≤ d) (hsum : (st.map fun v => v.category).sum ≤ 8) (hk : k + 1 ≤ MC) (hw : w + 6 ≤ MS) (hQ : ∀ sz', sz ≤ sz' → Q (.inr E) h sz') : GW G l (gZ G Q MC MS) (gRoom d MC MS) M pc lv st h sz k w := by
  obtain ⟨ik, ic, d0, d3, d4, d7, hfit, hkl, hini, hat, hot⟩ := hd
  intro p e s m args below meth c H locs ls F hS hR hz hl
  have hK := F.2.2.2.2.2.2.2.2.2.1
  obtain ⟨-, -, hU, hN⟩ := F.2.2.2.2.2.2.2.2.2.2.1
  refine vx_throw0 F.1 F.2.1 htr (names := ["java/lang/RuntimeException", "java/lang/Exception"]) F.2.2.2.1 hfit (by decide +kernel) (F.2.2.2.2.1 _ hkl) (F.2.2.2.2.1 _ hini) (fun c hc => ?_) hot hU hN hS (by rw [hl.2.1, F.2.2.1]) d0 d3 d4 d7 (fun x hx => ?_) (by show 2 + 3 < 16 * d; omega) (by show _ + (13 * (2 + 1) + 42) ≤ 128 * d; omega) hk hw F.2.2.2.2.2.2.2.2.1 (fun t ha h1 h2 => ⟨h, hR.grow h2, hQ _ (by rw [← hz]; exact h1), Nat.le_trans hS.1 h1, fun q g1 g2 => (h2 q (Nat.lt_of_lt_of_le g1 hS.1)).trans (hS.2.1 q g1 g2)⟩) hS.2.2 hk hw
  · rcases hat c hc with q | q
    · exact F.2.2.2.2.1 _ q
    · refine va_Nw.use ?_ (hK.2.1 _ q)
      rcases gNwl_kind c q with ⟨a, b, rfl⟩ | ⟨x, rfl⟩ <;> rfl
  · rw [F.2.2.2.2.2.2.1, hh] at hx
    cases hx
end Rows3
/-- entries -/
theorem vx_ofWF {l : Launch} {y : MethodName} {ws ws' : List Cond} {rm : Room} {Pc : Array Value → State → Prop} {Qc : Array Value → State → Outcome → State → Prop} {XC : String → State → State → Prop} {mc ms : Nat} {free : Addr → Prop} {cc : ByteArray} {maxL : Nat} {ret : Option FieldType}
    (hy : plainFor y = true) (hw : ws = Cond.code y cc maxL ret :: ws')
    (body : ∀ p e s m args below meth c s₁, BodyLoose p l y (headSpec ws rm) cc maxL ret e s m args below meth c s₁ → c.maxLocals = maxL → c.exceptionTable.toList = [] → Pc args s →
      W p l e (headSpec ws rm).room s m args below meth c s.heap [] 0 0 (vx_MQ below Qc XC args s mc ms free) (entryFrame m args maxL)) : vx_Met l y ws rm Pc Qc XC mc ms free := by
  refine MetFree.of_bodySF (code := cc) (maxLocals := maxL) (ret := ret) hy ?_ ?_
  · intro args s m h hn
    obtain ⟨meth, c, h1, h2, h3, h4, h5, h6, -, -⟩ := Cond.code_spec hn (atoms_spec (ws := ws) h _ (by rw [hw]; exact List.mem_cons_self))
    exact ⟨meth, c, h1, h2, h3, h4, h5, h6⟩
  · intro p e s m args below meth c s₁ B hml hP _
    have hh0 : s₁.heap = s.heap := by rw [B.state]; rfl
    have ht : c.exceptionTable.toList = [] := by
      obtain ⟨meth9, c9, h1, h2, -, -, -, -, h7, -⟩ := Cond.code_spec B.named (atoms_spec (ws := ws) B.pre _ (by rw [hw]; exact List.mem_cons_self))
      cases Option.some.inj (h1.symm.trans B.method)
      cases Option.some.inj (h2.symm.trans (Stand.of_body B).code)
      rw [Array.isEmpty_iff.mp h7]
    obtain ⟨t, a1, o, b1, b2, b3⟩ := body p e s m args below meth c s₁ B hml ht hP s₁ hh0 (Stand.of_body B)
    exact ⟨t, o, a1, b1, b2, b3⟩
theorem gLs_entry {av : List Value} {nL : Nat} (hc : ∀ v ∈ av, v.category = 1) (hle : av.length ≤ nL) : gLs ((lg_sl av ++ List.replicate (nL - (lg_sl av).length) Slot.unset).toArray) nL (av.map some ++ List.replicate (nL - av.length) none) := by
  have hsl : ∀ av : List Value, (∀ v ∈ av, v.category = 1) → lg_sl av = av.map Slot.val := by
    intro av
    induction av with
    | nil => intro _; rfl
    | cons v r ih =>
      intro h
      have h1 := h v List.mem_cons_self
      have h2 := ih (fun x hx => h x (List.mem_cons_of_mem _ hx))
      simp only [lg_sl, List.flatMap_cons] at h2 ⊢
      rw [h2, if_neg (by omega)]
      rfl
  have hh := lv_entry av (n := nL) (by rw [hsl av hc, List.length_map]; exact hle)
  refine ⟨by simp; omega, hh.1, hh.2.1, fun i v hi => ?_⟩
  by_cases hlt : i < av.length
  · rw [List.getElem?_append_left (by simpa using hlt), List.getElem?_map] at hi
    have hv : av[i]? = some v := by
      cases hq : av[i]? with
      | none => rw [hq] at hi; cases hi
      | some x => rw [hq] at hi; simp at hi; rw [hi]
    refine ⟨?_, hc v (List.mem_of_getElem? hv)⟩
    rw [hsl av hc]
    simp only [List.getElem?_toArray]
    rw [List.getElem?_append_left (by simpa using hlt), List.getElem?_map, hv]
    rfl
  · rw [List.getElem?_append_right (by simpa using hlt), List.getElem?_replicate] at hi
    split at hi <;> simp at hi
theorem SM.of {G : gG} {l : Launch} {d : Nat} {y : MethodName} {M : gM} {av : List Value} {h : gHp} {sz mc ms : Nat} {Q : gRs → gHp → Nat → Prop} {lv0 : List (Option Value)} (hy : plainFor y = true) (hh : M.2.2.2.2.1 = []) (hyc : y.cls = M.2.2.1 ∧ y.name = M.2.2.2.1) (hlv : av.map some ++ List.replicate (M.2.1 - av.length) none = lv0) (hc : ∀ v ∈ av, v.category = 1) (hle : av.length ≤ M.2.1)
    (body : GW G l (gZ G Q mc ms) (gRoom d mc ms) M 0 lv0 [] h sz 0 0) : SM G l d y M av h sz mc ms Q := by
  subst hlv
  refine vx_ofWF (cc := M.1) (maxL := M.2.1) (ret := M.2.2.2.2.2) (ws' := gW) hy (by unfold gWs; rw [gCode_nil hh]) ?_
  intro p e s m args below meth c s₁ B hml hxt hP
  obtain ⟨rfl, hK, hS, hb, hR, hz⟩ := hP
  have hts := atoms_spec (ws := gWs y M) B.pre
  rw [lg_entry_eq]
  exact body p e s m _ below meth c s.heap [] _ ⟨B.exec, B.bytes, hml, by rw [← hyc.1]; exact findClass_of_methodNamed B.named, fun w hw => hts w (List.mem_cons_of_mem _ hw), by rw [← hyc.2]; exact (name_of_methodNamed B.named B.method).1, by rw [hxt, hh]; rfl, B.returns, B.notSynchronized, hK, hS, hb⟩ va_S.rf hR hz (gLs_entry hc hle)
theorem SM.ofH {G : gG} {l : Launch} {d : Nat} {y : MethodName} {M : gM} {av : List Value} {h : gHp} {sz mc ms : Nat} {Q : gRs → gHp → Nat → Prop} {lv0 : List (Option Value)} (hy : plainName y.cls = true) (hh : ¬ M.2.2.2.2.1 = []) (hyc : y.cls = M.2.2.1 ∧ y.name = M.2.2.2.1) (hlv : av.map some ++ List.replicate (M.2.1 - av.length) none = lv0) (hc : ∀ v ∈ av, v.category = 1) (hle : av.length ≤ M.2.1)
    (body : GW G l (gZ G Q mc ms) (gRoom d mc ms) M 0 lv0 [] h sz 0 0) : SM G l d y M av h sz mc ms Q := by
  subst hlv
  refine vx_ofWH (cc := M.1) (maxL := M.2.1) (ret := M.2.2.2.2.2) (hh := M.2.2.2.2.1) (ws' := gW) hy (by unfold gWs; rw [gCode_cons hh]) ?_
  intro p e s m args below meth c s₁ B hml hP
  obtain ⟨rfl, hK, hS, hb, hR, hz⟩ := hP
  have hts := atoms_spec (ws := gWs y M) B.pre
  have hxt := vx_table (x := y) B (by have h9 := hts _ List.mem_cons_self; rw [gCode_cons hh] at h9; exact h9)
  rw [lg_entry_eq]
  exact body p e s m _ below meth c s.heap [] _ ⟨B.exec, B.bytes, hml, by rw [← hyc.1]; exact findClass_of_methodNamed B.named, fun w hw => hts w (List.mem_cons_of_mem _ hw), by rw [← hyc.2]; exact (name_of_methodNamed B.named B.method).1, hxt, B.returns, B.notSynchronized, hK, hS, hb⟩ va_S.rf hR hz (gLs_entry hc hle)
end
section
/-! ===== names: methods, links ===== -/
theorem gW_c0 {w : Cond} (i : Nat) (h : (k2_sels lw_privs)[i]? = some w) (hg : goodWord w = true) : w ∈ gW := List.mem_filter.mpr ⟨List.mem_append_left _ (List.mem_of_getElem? h), hg⟩
theorem gW_t {w : Cond} (h : w ∈ tables_1) (hg : goodWord w = true) : w ∈ gW := List.mem_filter.mpr ⟨List.mem_append_right _ h, hg⟩
theorem gW_c1 {w : Cond} (i : Nat) (h : tables_1_1[i]? = some w) (hg : goodWord w = true) : w ∈ gW := gW_t (List.mem_append_left _ (List.mem_of_getElem? h)) hg
theorem gW_c2 {w : Cond} (i : Nat) (h : tables_1_2[i]? = some w) (hg : goodWord w = true) : w ∈ gW := gW_t (List.mem_append_right _ (List.mem_append_left _ (List.mem_of_getElem? h))) hg
theorem gW_c3 {w : Cond} (i : Nat) (h : tables_1_3[i]? = some w) (hg : goodWord w = true) : w ∈ gW := gW_t (List.mem_append_right _ (List.mem_append_right _ (List.mem_append_left _ (List.mem_of_getElem? h)))) hg
theorem gW_c4 {w : Cond} (i : Nat) (h : tables_1_4[i]? = some w) (hg : goodWord w = true) : w ∈ gW := gW_t (List.mem_append_right _ (List.mem_append_right _ (List.mem_append_right _ (List.mem_append_left _ (List.mem_of_getElem? h))))) hg
theorem gW_c5 {w : Cond} (i : Nat) (h : tables_1_5[i]? = some w) (hg : goodWord w = true) : w ∈ gW := gW_t (List.mem_append_right _ (List.mem_append_right _ (List.mem_append_right _ (List.mem_append_right _ (List.mem_of_getElem? h))))) hg
theorem gws_0 : ∀ w ∈ u_ws RJx4a65c TJx4a65c 3, w ∈ gW := by
  have h : ∀ w ∈ u_ws RJx4a65c TJx4a65c 3, w ∈ lw_tbl ∧ goodWord w = true := by decide +kernel
  exact fun w hw => List.mem_filter.mpr (h w hw)
theorem gws_1 : ∀ w ∈ u_ws RX0 TX0 2, w ∈ gW := by
  have h : ∀ w ∈ u_ws RX0 TX0 2, w ∈ lw_tbl ∧ goodWord w = true := by decide +kernel
  exact fun w hw => List.mem_filter.mpr (h w hw)
theorem gws_2 : ∀ w ∈ u_ws RX1 TX1 3, w ∈ gW := by
  have h : ∀ w ∈ u_ws RX1 TX1 3, w ∈ lw_tbl ∧ goodWord w = true := by decide +kernel
  exact fun w hw => List.mem_filter.mpr (h w hw)
theorem gws_3 : ∀ w ∈ u_ws RX2 TX2 1, w ∈ gW := by
  have h : ∀ w ∈ u_ws RX2 TX2 1, w ∈ lw_tbl ∧ goodWord w = true := by decide +kernel
  exact fun w hw => List.mem_filter.mpr (h w hw)
theorem gws_4 : ∀ w ∈ u_ws RX3 TX3 4, w ∈ gW := by
  have h : ∀ w ∈ u_ws RX3 TX3 4, w ∈ lw_tbl ∧ goodWord w = true := by decide +kernel
  exact fun w hw => List.mem_filter.mpr (h w hw)
theorem gws_5 : ∀ w ∈ u_ws RX4 TX4 4, w ∈ gW := by
  have h : ∀ w ∈ u_ws RX4 TX4 4, w ∈ lw_tbl ∧ goodWord w = true := by decide +kernel
  exact fun w hw => List.mem_filter.mpr (h w hw)
theorem gws_6 : ∀ w ∈ u_ws RX5 TX5 12, w ∈ gW := by
  have h : ∀ w ∈ u_ws RX5 TX5 12, w ∈ lw_tbl ∧ goodWord w = true := by decide +kernel
  exact fun w hw => List.mem_filter.mpr (h w hw)
def y_F_init : MethodName := ⟨"FolderRounds", "<init>", "()V"⟩
def M_F_init : gM := (prog_1_method_1_code, 2, "FolderRounds", "<init>", [], none)
theorem cd_F_init : gCode y_F_init M_F_init ∈ gW := gW_c1 34 rfl rfl
def y_S_init : MethodName := ⟨"FolderRounds$Station", "<init>", "(I)V"⟩
def M_S_init : gM := (prog_3_method_1_code, 2, "FolderRounds$Station", "<init>", [], none)
theorem cd_S_init : gCode y_S_init M_S_init ∈ gW := gW_c1 43 rfl rfl
def y_A_init : MethodName := ⟨"java/util/ArrayList", "<init>", "()V"⟩
def M_A_init : gM := (prog_33_method_2_code, 1, "java/util/ArrayList", "<init>", [], none)
theorem cd_A_init : gCode y_A_init M_A_init ∈ gW := gW_c1 49 rfl rfl
def y_J_listInit : MethodName := ⟨"java/util/AbstractList", "<init>", "()V"⟩
def M_J_listInit : gM := (prog_32_method_1_code, 1, "java/util/AbstractList", "<init>", [], none)
theorem cd_J_listInit : gCode y_J_listInit M_J_listInit ∈ gW := gW_c1 52 rfl rfl
def y_J_collInit : MethodName := ⟨"java/util/AbstractCollection", "<init>", "()V"⟩
def M_J_collInit : gM := (prog_31_method_1_code, 1, "java/util/AbstractCollection", "<init>", [], none)
theorem cd_J_collInit : gCode y_J_collInit M_J_collInit ∈ gW := gW_c1 55 rfl rfl
def y_T_init : MethodName := ⟨"FolderRounds$Table", "<init>", "()V"⟩
def M_T_init : gM := (prog_4_method_1_code, 1, "FolderRounds$Table", "<init>", [], none)
theorem cd_T_init : gCode y_T_init M_T_init ∈ gW := gW_c1 75 rfl rfl
def y_C_init : MethodName := ⟨"FolderRounds$Cartridge", "<init>", "()V"⟩
def M_C_init : gM := (prog_2_method_1_code, 1, "FolderRounds$Cartridge", "<init>", [], none)
theorem cd_C_init : gCode y_C_init M_C_init ∈ gW := gW_c1 99 rfl rfl
def y_F_leftOut : MethodName := ⟨"FolderRounds", "leftOut", "()I"⟩
def M_F_leftOut : gM := (prog_1_method_17_code, 1, "FolderRounds", "leftOut", [], (Option.some FieldType.int))
theorem cd_F_leftOut : gCode y_F_leftOut M_F_leftOut ∈ gW := gW_c1 132 rfl rfl
def y_L_edit : MethodName := ⟨"FolderRoundsLaw", "edit", "(LFolderRounds;IIII)I"⟩
def M_L_edit : gM := (method_3_code, 6, "FolderRoundsLaw", "edit", [((0), (9), (12), (13)), ((0), (9), (16), (15)), ((0), (9), (20), (17))], (Option.some FieldType.int))
theorem cd_L_edit : gCode y_L_edit M_L_edit ∈ gW := gW_c1 135 rfl rfl
def y_F_edit : MethodName := ⟨"FolderRounds", "edit", "(IIII)V"⟩
def M_F_edit : gM := (prog_1_method_2_code, 6, "FolderRounds", "edit", [], none)
theorem cd_F_edit : gCode y_F_edit M_F_edit ∈ gW := gW_c1 142 rfl rfl
def y_F_stationAt : MethodName := ⟨"FolderRounds", "stationAt", "(I)LFolderRounds$Station;"⟩
def M_F_stationAt : gM := (prog_1_method_21_code, 2, "FolderRounds", "stationAt", [], (Option.some (FieldType.object "FolderRounds$Station")))
theorem cd_F_stationAt : gCode y_F_stationAt M_F_stationAt ∈ gW := gW_c1 146 rfl rfl
def y_F_checkStation : MethodName := ⟨"FolderRounds", "checkStation", "(I)V"⟩
def M_F_checkStation : gM := (prog_1_method_18_code, 1, "FolderRounds", "checkStation", [], none)
theorem cd_F_checkStation : gCode y_F_checkStation M_F_checkStation ∈ gW := gW_c1 149 rfl rfl
def y_F_checkDocument : MethodName := ⟨"FolderRounds", "checkDocument", "(I)V"⟩
def M_F_checkDocument : gM := (prog_1_method_19_code, 1, "FolderRounds", "checkDocument", [], none)
theorem cd_F_checkDocument : gCode y_F_checkDocument M_F_checkDocument ∈ gW := gW_c1 217 rfl rfl
def y_F_makeVersion : MethodName := ⟨"FolderRounds", "makeVersion", "(LFolderRounds$Station;III)V"⟩
def M_F_makeVersion : gM := (prog_1_method_24_code, 4, "FolderRounds", "makeVersion", [], none)
theorem cd_F_makeVersion : gCode y_F_makeVersion M_F_makeVersion ∈ gW := gW_c1 235 rfl rfl
def y_S_ownCounter : MethodName := ⟨"FolderRounds$Station", "ownCounter", "(I)I"⟩
def M_S_ownCounter : gM := (prog_3_method_2_code, 2, "FolderRounds$Station", "ownCounter", [], (Option.some FieldType.int))
theorem cd_S_ownCounter : gCode y_S_ownCounter M_S_ownCounter ∈ gW := gW_c1 239 rfl rfl
def y_T_counterAt : MethodName := ⟨"FolderRounds$Table", "counterAt", "(III)I"⟩
def M_T_counterAt : gM := (prog_4_method_3_code, 4, "FolderRounds$Table", "counterAt", [], (Option.some FieldType.int))
theorem cd_T_counterAt : gCode y_T_counterAt M_T_counterAt ∈ gW := gW_c2 3 rfl rfl
def y_T_startOf : MethodName := ⟨"FolderRounds$Table", "startOf", "(II)I"⟩
def M_T_startOf : gM := (prog_4_method_2_code, 2, "FolderRounds$Table", "startOf", [], (Option.some FieldType.int))
theorem cd_T_startOf : gCode y_T_startOf M_T_startOf ∈ gW := gW_c2 6 rfl rfl
def y_S_nextVersion : MethodName := ⟨"FolderRounds$Station", "nextVersion", "(III)LFolderRounds$Version;"⟩
def M_S_nextVersion : gM := (prog_3_method_3_code, 5, "FolderRounds$Station", "nextVersion", [], (Option.some (FieldType.object "FolderRounds$Version")))
theorem cd_S_nextVersion : gCode y_S_nextVersion M_S_nextVersion ∈ gW := gW_c2 25 rfl rfl
def y_T_vectorAt : MethodName := ⟨"FolderRounds$Table", "vectorAt", "(II)[I"⟩
def M_T_vectorAt : gM := (prog_4_method_4_code, 4, "FolderRounds$Table", "vectorAt", [], (Option.some (FieldType.array FieldType.int)))
theorem cd_T_vectorAt : gCode y_T_vectorAt M_T_vectorAt ∈ gW := gW_c2 29 rfl rfl
def y_J_copyOfRange : MethodName := ⟨"java/util/Arrays", "copyOfRange", "([III)[I"⟩
def M_J_copyOfRange : gM := (prog_34_method_136_code, 3, "java/util/Arrays", "copyOfRange", [], (Option.some (FieldType.array FieldType.int)))
theorem cd_J_copyOfRange : gCode y_J_copyOfRange M_J_copyOfRange ∈ gW := gW_c2 32 rfl rfl
def y_J_newLength : MethodName := ⟨"jdk/internal/util/ArraysSupport", "newLength", "(III)I"⟩
def M_J_newLength : gM := (prog_41_method_27_code, 4, "jdk/internal/util/ArraysSupport", "newLength", [], (Option.some FieldType.int))
theorem cd_J_newLength : gCode y_J_newLength M_J_newLength ∈ gW := gW_c2 92 rfl rfl
def y_J_max : MethodName := ⟨"java/lang/Math", "max", "(II)I"⟩
def M_J_max : gM := (prog_19_method_65_code, 2, "java/lang/Math", "max", [], (Option.some FieldType.int))
theorem cd_J_max : gCode y_J_max M_J_max ∈ gW := gW_c2 95 rfl rfl
def y_J_min : MethodName := ⟨"java/lang/Math", "min", "(II)I"⟩
def M_J_min : gM := (prog_19_method_69_code, 2, "java/lang/Math", "min", [], (Option.some FieldType.int))
theorem cd_J_min : gCode y_J_min M_J_min ∈ gW := gW_c2 113 rfl rfl
def y_V_init : MethodName := ⟨"FolderRounds$Version", "<init>", "(III[I)V"⟩
def M_V_init : gM := (prog_5_method_1_code, 5, "FolderRounds$Version", "<init>", [], none)
theorem cd_V_init : gCode y_V_init M_V_init ∈ gW := gW_c3 56 rfl rfl
def y_S_takeIn : MethodName := ⟨"FolderRounds$Station", "takeIn", "(LFolderRounds$Version;)Z"⟩
def M_S_takeIn : gM := (prog_3_method_5_code, 2, "FolderRounds$Station", "takeIn", [], (Option.some FieldType.boolean))
theorem cd_S_takeIn : gCode y_S_takeIn M_S_takeIn ∈ gW := gW_c3 80 rfl rfl
def y_S_bytesWith : MethodName := ⟨"FolderRounds$Station", "bytesWith", "(LFolderRounds$Version;)I"⟩
def M_S_bytesWith : gM := (prog_3_method_6_code, 5, "FolderRounds$Station", "bytesWith", [], (Option.some FieldType.int))
theorem cd_S_bytesWith : gCode y_S_bytesWith M_S_bytesWith ∈ gW := gW_c3 84 rfl rfl
def y_V_byteCount : MethodName := ⟨"FolderRounds$Version", "byteCount", "()I"⟩
def M_V_byteCount : gM := (prog_5_method_4_code, 1, "FolderRounds$Version", "byteCount", [], (Option.some FieldType.int))
theorem cd_V_byteCount : gCode y_V_byteCount M_V_byteCount ∈ gW := gW_c3 88 rfl rfl
def y_V_isMark : MethodName := ⟨"FolderRounds$Version", "isMark", "()Z"⟩
def M_V_isMark : gM := (prog_5_method_2_code, 1, "FolderRounds$Version", "isMark", [], (Option.some FieldType.boolean))
theorem cd_V_isMark : gCode y_V_isMark M_V_isMark ∈ gW := gW_c3 92 rfl rfl
def y_A_size : MethodName := ⟨"java/util/ArrayList", "size", "()I"⟩
def M_A_size : gM := (prog_33_method_8_code, 1, "java/util/ArrayList", "size", [], (Option.some FieldType.int))
theorem cd_A_size : gCode y_A_size M_A_size ∈ gW := gW_c3 96 rfl rfl
def y_A_get : MethodName := ⟨"java/util/ArrayList", "get", "(I)Ljava/lang/Object;"⟩
def M_A_get : gM := (prog_33_method_20_code, 2, "java/util/ArrayList", "get", [], (Option.some (FieldType.object "java/lang/Object")))
theorem cd_A_get : gCode y_A_get M_A_get ∈ gW := gW_c3 100 rfl rfl
def y_J_checkIndex : MethodName := ⟨"java/util/Objects", "checkIndex", "(II)I"⟩
def M_J_checkIndex : gM := (prog_38_method_17_code, 2, "java/util/Objects", "checkIndex", [], (Option.some FieldType.int))
theorem cd_J_checkIndex : gCode y_J_checkIndex M_J_checkIndex ∈ gW := gW_c3 103 rfl rfl
def y_J_pCheckIndex : MethodName := ⟨"jdk/internal/util/Preconditions", "checkIndex", "(IILjava/util/function/BiFunction;)I"⟩
def M_J_pCheckIndex : gM := (prog_42_method_11_code, 3, "jdk/internal/util/Preconditions", "checkIndex", [], (Option.some FieldType.int))
theorem cd_J_pCheckIndex : gCode y_J_pCheckIndex M_J_pCheckIndex ∈ gW := gW_c3 106 rfl rfl
def y_A_elementData : MethodName := ⟨"java/util/ArrayList", "elementData", "(I)Ljava/lang/Object;"⟩
def M_A_elementData : gM := (prog_33_method_18_code, 2, "java/util/ArrayList", "elementData", [], (Option.some (FieldType.object "java/lang/Object")))
theorem cd_A_elementData : gCode y_A_elementData M_A_elementData ∈ gW := gW_c3 110 rfl rfl
def y_V_replaces : MethodName := ⟨"FolderRounds$Version", "replaces", "(LFolderRounds$Version;)Z"⟩
def M_V_replaces : gM := (prog_5_method_7_code, 3, "FolderRounds$Version", "replaces", [], (Option.some FieldType.boolean))
theorem cd_V_replaces : gCode y_V_replaces M_V_replaces ∈ gW := gW_c3 114 rfl rfl
def y_S_removeReplaced : MethodName := ⟨"FolderRounds$Station", "removeReplaced", "(LFolderRounds$Version;)V"⟩
def M_S_removeReplaced : gM := (prog_3_method_7_code, 3, "FolderRounds$Station", "removeReplaced", [], none)
theorem cd_S_removeReplaced : gCode y_S_removeReplaced M_S_removeReplaced ∈ gW := gW_c3 118 rfl rfl
def y_A_remove : MethodName := ⟨"java/util/ArrayList", "remove", "(I)Ljava/lang/Object;"⟩
def M_A_remove : gM := (prog_33_method_29_code, 4, "java/util/ArrayList", "remove", [], (Option.some (FieldType.object "java/lang/Object")))
theorem cd_A_remove : gCode y_A_remove M_A_remove ∈ gW := gW_c3 122 rfl rfl
def y_A_fastRemove : MethodName := ⟨"java/util/ArrayList", "fastRemove", "([Ljava/lang/Object;I)V"⟩
def M_A_fastRemove : gM := (prog_33_method_39_code, 4, "java/util/ArrayList", "fastRemove", [], none)
theorem cd_A_fastRemove : gCode y_A_fastRemove M_A_fastRemove ∈ gW := gW_c3 126 rfl rfl
def y_S_insert : MethodName := ⟨"FolderRounds$Station", "insert", "(LFolderRounds$Version;)V"⟩
def M_S_insert : gM := (prog_3_method_8_code, 3, "FolderRounds$Station", "insert", [], none)
theorem cd_S_insert : gCode y_S_insert M_S_insert ∈ gW := gW_c3 131 rfl rfl
def y_V_compareWith : MethodName := ⟨"FolderRounds$Version", "compareWith", "(LFolderRounds$Version;)I"⟩
def M_V_compareWith : gM := (prog_5_method_8_code, 4, "FolderRounds$Version", "compareWith", [], (Option.some FieldType.int))
theorem cd_V_compareWith : gCode y_V_compareWith M_V_compareWith ∈ gW := gW_c3 135 rfl rfl
def y_J_compare : MethodName := ⟨"java/lang/Integer", "compare", "(II)I"⟩
def M_J_compare : gM := (prog_17_method_40_code, 2, "java/lang/Integer", "compare", [], (Option.some FieldType.int))
theorem cd_J_compare : gCode y_J_compare M_J_compare ∈ gW := gW_c3 138 rfl rfl
def y_A_addAt : MethodName := ⟨"java/util/ArrayList", "add", "(ILjava/lang/Object;)V"⟩
def M_A_addAt : gM := (prog_33_method_26_code, 5, "java/util/ArrayList", "add", [], none)
theorem cd_A_addAt : gCode y_A_addAt M_A_addAt ∈ gW := gW_c3 142 rfl rfl
def y_A_rangeCheckForAdd : MethodName := ⟨"java/util/ArrayList", "rangeCheckForAdd", "(I)V"⟩
def M_A_rangeCheckForAdd : gM := (prog_33_method_45_code, 2, "java/util/ArrayList", "rangeCheckForAdd", [], none)
theorem cd_A_rangeCheckForAdd : gCode y_A_rangeCheckForAdd M_A_rangeCheckForAdd ∈ gW := gW_c3 146 rfl rfl
def y_A_grow0 : MethodName := ⟨"java/util/ArrayList", "grow", "()[Ljava/lang/Object;"⟩
def M_A_grow0 : gM := (prog_33_method_7_code, 1, "java/util/ArrayList", "grow", [], (Option.some (FieldType.array (FieldType.object "java/lang/Object"))))
theorem cd_A_grow0 : gCode y_A_grow0 M_A_grow0 ∈ gW := gW_c3 176 rfl rfl
def y_A_grow : MethodName := ⟨"java/util/ArrayList", "grow", "(I)[Ljava/lang/Object;"⟩
def M_A_grow : gM := (prog_33_method_6_code, 4, "java/util/ArrayList", "grow", [], (Option.some (FieldType.array (FieldType.object "java/lang/Object"))))
theorem cd_A_grow : gCode y_A_grow M_A_grow ∈ gW := gW_c3 180 rfl rfl
def y_J_copyOf : MethodName := ⟨"java/util/Arrays", "copyOf", "([Ljava/lang/Object;I)[Ljava/lang/Object;"⟩
def M_J_copyOf : gM := (prog_34_method_119_code, 2, "java/util/Arrays", "copyOf", [], (Option.some (FieldType.array (FieldType.object "java/lang/Object"))))
theorem cd_J_copyOf : gCode y_J_copyOf M_J_copyOf ∈ gW := gW_c3 184 rfl rfl
def y_J_copyOf3 : MethodName := ⟨"java/util/Arrays", "copyOf", "([Ljava/lang/Object;ILjava/lang/Class;)[Ljava/lang/Object;"⟩
def M_J_copyOf3 : gM := (prog_34_method_120_code, 4, "java/util/Arrays", "copyOf", [], (Option.some (FieldType.array (FieldType.object "java/lang/Object"))))
theorem cd_J_copyOf3 : gCode y_J_copyOf3 M_J_copyOf3 ∈ gW := gW_c3 204 rfl rfl
def y_T_joinVersion : MethodName := ⟨"FolderRounds$Table", "joinVersion", "(ILFolderRounds$Version;)V"⟩
def M_T_joinVersion : gM := (prog_4_method_6_code, 5, "FolderRounds$Table", "joinVersion", [], none)
theorem cd_T_joinVersion : gCode y_T_joinVersion M_T_joinVersion ∈ gW := gW_c3 213 rfl rfl
def y_L_erase : MethodName := ⟨"FolderRoundsLaw", "erase", "(LFolderRounds;II)I"⟩
def M_L_erase : gM := (method_4_code, 4, "FolderRoundsLaw", "erase", [((0), (6), (9), (13)), ((0), (6), (12), (17))], (Option.some FieldType.int))
theorem cd_L_erase : gCode y_L_erase M_L_erase ∈ gW := gW_c3 217 rfl rfl
def y_F_erase : MethodName := ⟨"FolderRounds", "erase", "(II)V"⟩
def M_F_erase : gM := (prog_1_method_3_code, 4, "FolderRounds", "erase", [], none)
theorem cd_F_erase : gCode y_F_erase M_F_erase ∈ gW := gW_c3 221 rfl rfl
def y_L_siblings : MethodName := ⟨"FolderRoundsLaw", "siblings", "(LFolderRounds;II[J)I"⟩
def M_L_siblings : gM := (method_5_code, 5, "FolderRoundsLaw", "siblings", [((0), (10), (13), (13))], (Option.some FieldType.int))
theorem cd_L_siblings : gCode y_L_siblings M_L_siblings ∈ gW := gW_c3 224 rfl rfl
def y_F_siblings : MethodName := ⟨"FolderRounds", "siblings", "(II)I"⟩
def M_F_siblings : gM := (prog_1_method_4_code, 4, "FolderRounds", "siblings", [], (Option.some FieldType.int))
theorem cd_F_siblings : gCode y_F_siblings M_F_siblings ∈ gW := gW_c3 228 rfl rfl
def y_S_countSiblings : MethodName := ⟨"FolderRounds$Station", "countSiblings", "(I)I"⟩
def M_S_countSiblings : gM := (prog_3_method_13_code, 4, "FolderRounds$Station", "countSiblings", [], (Option.some FieldType.int))
theorem cd_S_countSiblings : gCode y_S_countSiblings M_S_countSiblings ∈ gW := gW_c3 232 rfl rfl
def y_V_hasBytesOf : MethodName := ⟨"FolderRounds$Version", "hasBytesOf", "(I)Z"⟩
def M_V_hasBytesOf : gM := (prog_5_method_3_code, 2, "FolderRounds$Version", "hasBytesOf", [], (Option.some FieldType.boolean))
theorem cd_V_hasBytesOf : gCode y_V_hasBytesOf M_V_hasBytesOf ∈ gW := gW_c3 236 rfl rfl
def y_L_counter : MethodName := ⟨"FolderRoundsLaw", "counter", "(LFolderRounds;IIII[J)I"⟩
def M_L_counter : gM := (method_6_code, 7, "FolderRoundsLaw", "counter", [((0), (14), (17), (13)), ((0), (14), (21), (31))], (Option.some FieldType.int))
theorem cd_L_counter : gCode y_L_counter M_L_counter ∈ gW := gW_c3 239 rfl rfl
def y_F_counter : MethodName := ⟨"FolderRounds", "counter", "(IIII)I"⟩
def M_F_counter : gM := (prog_1_method_5_code, 6, "FolderRounds", "counter", [], (Option.some FieldType.int))
theorem cd_F_counter : gCode y_F_counter M_F_counter ∈ gW := gW_c4 4 rfl rfl
def y_F_siblingAt : MethodName := ⟨"FolderRounds", "siblingAt", "(III)LFolderRounds$Version;"⟩
def M_F_siblingAt : gM := (prog_1_method_23_code, 6, "FolderRounds", "siblingAt", [], (Option.some (FieldType.object "FolderRounds$Version")))
theorem cd_F_siblingAt : gCode y_F_siblingAt M_F_siblingAt ∈ gW := gW_c4 8 rfl rfl
def y_S_findSibling : MethodName := ⟨"FolderRounds$Station", "findSibling", "(II)LFolderRounds$Version;"⟩
def M_S_findSibling : gM := (prog_3_method_14_code, 6, "FolderRounds$Station", "findSibling", [], (Option.some (FieldType.object "FolderRounds$Version")))
theorem cd_S_findSibling : gCode y_S_findSibling M_S_findSibling ∈ gW := gW_c4 12 rfl rfl
def y_F_checkCounter : MethodName := ⟨"FolderRounds", "checkCounter", "(I)V"⟩
def M_F_checkCounter : gM := (prog_1_method_20_code, 1, "FolderRounds", "checkCounter", [], none)
theorem cd_F_checkCounter : gCode y_F_checkCounter M_F_checkCounter ∈ gW := gW_c4 15 rfl rfl
def y_L_byteOf : MethodName := ⟨"FolderRoundsLaw", "byteOf", "(LFolderRounds;IIII[J)I"⟩
def M_L_byteOf : gM := (method_7_code, 7, "FolderRoundsLaw", "byteOf", [((0), (14), (17), (13)), ((0), (14), (21), (31))], (Option.some FieldType.int))
theorem cd_L_byteOf : gCode y_L_byteOf M_L_byteOf ∈ gW := gW_c4 23 rfl rfl
def y_F_byteOf : MethodName := ⟨"FolderRounds", "byteOf", "(IIII)I"⟩
def M_F_byteOf : gM := (prog_1_method_6_code, 6, "FolderRounds", "byteOf", [], (Option.some FieldType.int))
theorem cd_F_byteOf : gCode y_F_byteOf M_F_byteOf ∈ gW := gW_c4 27 rfl rfl
def y_L_visit : MethodName := ⟨"FolderRoundsLaw", "visit", "(LFolderRounds;III[J)I"⟩
def M_L_visit : gM := (method_8_code, 6, "FolderRoundsLaw", "visit", [((0), (12), (15), (13))], (Option.some FieldType.int))
theorem cd_L_visit : gCode y_L_visit M_L_visit ∈ gW := gW_c4 30 rfl rfl
def y_F_visit : MethodName := ⟨"FolderRounds", "visit", "(III)I"⟩
def M_F_visit : gM := (prog_1_method_7_code, 4, "FolderRounds", "visit", [], (Option.some FieldType.int))
theorem cd_F_visit : gCode y_F_visit M_F_visit ∈ gW := gW_c4 34 rfl rfl
def y_F_cartridgeAt : MethodName := ⟨"FolderRounds", "cartridgeAt", "(I)LFolderRounds$Cartridge;"⟩
def M_F_cartridgeAt : gM := (prog_1_method_22_code, 2, "FolderRounds", "cartridgeAt", [], (Option.some (FieldType.object "FolderRounds$Cartridge")))
theorem cd_F_cartridgeAt : gCode y_F_cartridgeAt M_F_cartridgeAt ∈ gW := gW_c4 38 rfl rfl
def y_F_goThrough : MethodName := ⟨"FolderRounds", "goThrough", "(LFolderRounds$Cartridge;LFolderRounds$Station;II)I"⟩
def M_F_goThrough : gM := (prog_1_method_25_code, 6, "FolderRounds", "goThrough", [], (Option.some FieldType.int))
theorem cd_F_goThrough : gCode y_F_goThrough M_F_goThrough ∈ gW := gW_c4 43 rfl rfl
def y_F_unload : MethodName := ⟨"FolderRounds", "unload", "(LFolderRounds$Cartridge;LFolderRounds$Station;I)I"⟩
def M_F_unload : gM := (prog_1_method_26_code, 7, "FolderRounds", "unload", [], (Option.some FieldType.int))
theorem cd_F_unload : gCode y_F_unload M_F_unload ∈ gW := gW_c4 47 rfl rfl
def y_A_isEmpty : MethodName := ⟨"java/util/ArrayList", "isEmpty", "()Z"⟩
def M_A_isEmpty : gM := (prog_33_method_9_code, 1, "java/util/ArrayList", "isEmpty", [], (Option.some FieldType.boolean))
theorem cd_A_isEmpty : gCode y_A_isEmpty M_A_isEmpty ∈ gW := gW_c4 53 rfl rfl
def y_S_lacks : MethodName := ⟨"FolderRounds$Station", "lacks", "(LFolderRounds$Version;)Z"⟩
def M_S_lacks : gM := (prog_3_method_4_code, 2, "FolderRounds$Station", "lacks", [], (Option.some FieldType.boolean))
theorem cd_S_lacks : gCode y_S_lacks M_S_lacks ∈ gW := gW_c4 59 rfl rfl
def y_T_covers : MethodName := ⟨"FolderRounds$Table", "covers", "(ILFolderRounds$Version;)Z"⟩
def M_T_covers : gM := (prog_4_method_5_code, 5, "FolderRounds$Table", "covers", [], (Option.some FieldType.boolean))
theorem cd_T_covers : gCode y_T_covers M_T_covers ∈ gW := gW_c4 63 rfl rfl
def y_S_learn : MethodName := ⟨"FolderRounds$Station", "learn", "(LFolderRounds$Table;)V"⟩
def M_S_learn : gM := (prog_3_method_9_code, 3, "FolderRounds$Station", "learn", [], none)
theorem cd_S_learn : gCode y_S_learn M_S_learn ∈ gW := gW_c4 67 rfl rfl
def y_T_joinStation : MethodName := ⟨"FolderRounds$Table", "joinStation", "(ILFolderRounds$Table;)V"⟩
def M_T_joinStation : gM := (prog_4_method_7_code, 5, "FolderRounds$Table", "joinStation", [], none)
theorem cd_T_joinStation : gCode y_T_joinStation M_T_joinStation ∈ gW := gW_c4 71 rfl rfl
def y_S_dropMarksThatAllHave : MethodName := ⟨"FolderRounds$Station", "dropMarksThatAllHave", "()V"⟩
def M_S_dropMarksThatAllHave : gM := (prog_3_method_10_code, 3, "FolderRounds$Station", "dropMarksThatAllHave", [], none)
theorem cd_S_dropMarksThatAllHave : gCode y_S_dropMarksThatAllHave M_S_dropMarksThatAllHave ∈ gW := gW_c4 75 rfl rfl
def y_S_allHave : MethodName := ⟨"FolderRounds$Station", "allHave", "(LFolderRounds$Version;)Z"⟩
def M_S_allHave : gM := (prog_3_method_11_code, 3, "FolderRounds$Station", "allHave", [], (Option.some FieldType.boolean))
theorem cd_S_allHave : gCode y_S_allHave M_S_allHave ∈ gW := gW_c4 80 rfl rfl
def y_T_become : MethodName := ⟨"FolderRounds$Table", "become", "(LFolderRounds$Table;)V"⟩
def M_T_become : gM := (prog_4_method_8_code, 2, "FolderRounds$Table", "become", [], none)
theorem cd_T_become : gCode y_T_become M_T_become ∈ gW := gW_c4 84 rfl rfl
def y_F_load : MethodName := ⟨"FolderRounds", "load", "(LFolderRounds$Cartridge;LFolderRounds$Station;II)I"⟩
def M_F_load : gM := (prog_1_method_27_code, 8, "FolderRounds", "load", [], (Option.some FieldType.int))
theorem cd_F_load : gCode y_F_load M_F_load ∈ gW := gW_c4 89 rfl rfl
def y_F_chooseWhatToLoad : MethodName := ⟨"FolderRounds", "chooseWhatToLoad", "(LFolderRounds$Station;I)V"⟩
def M_F_chooseWhatToLoad : gM := (prog_1_method_28_code, 5, "FolderRounds", "chooseWhatToLoad", [], none)
theorem cd_F_chooseWhatToLoad : gCode y_F_chooseWhatToLoad M_F_chooseWhatToLoad ∈ gW := gW_c4 93 rfl rfl
def y_A_clear : MethodName := ⟨"java/util/ArrayList", "clear", "()V"⟩
def M_A_clear : gM := (prog_33_method_40_code, 4, "java/util/ArrayList", "clear", [], none)
theorem cd_A_clear : gCode y_A_clear M_A_clear ∈ gW := gW_c4 97 rfl rfl
def y_S_knowsLackAmong : MethodName := ⟨"FolderRounds$Station", "knowsLackAmong", "(ILFolderRounds$Version;)Z"⟩
def M_S_knowsLackAmong : gM := (prog_3_method_12_code, 5, "FolderRounds$Station", "knowsLackAmong", [], (Option.some FieldType.boolean))
theorem cd_S_knowsLackAmong : gCode y_S_knowsLackAmong M_S_knowsLackAmong ∈ gW := gW_c4 102 rfl rfl
def y_F_addBySum : MethodName := ⟨"FolderRounds", "addBySum", "(LFolderRounds$Version;)V"⟩
def M_F_addBySum : gM := (prog_1_method_29_code, 4, "FolderRounds", "addBySum", [], none)
theorem cd_F_addBySum : gCode y_F_addBySum M_F_addBySum ∈ gW := gW_c4 106 rfl rfl
def y_V_sumOfCounters : MethodName := ⟨"FolderRounds$Version", "sumOfCounters", "()I"⟩
def M_V_sumOfCounters : gM := (prog_5_method_6_code, 3, "FolderRounds$Version", "sumOfCounters", [], (Option.some FieldType.int))
theorem cd_V_sumOfCounters : gCode y_V_sumOfCounters M_V_sumOfCounters ∈ gW := gW_c4 110 rfl rfl
def y_V_roomTaken : MethodName := ⟨"FolderRounds$Version", "roomTaken", "()I"⟩
def M_V_roomTaken : gM := (prog_5_method_5_code, 1, "FolderRounds$Version", "roomTaken", [], (Option.some FieldType.int))
theorem cd_V_roomTaken : gCode y_V_roomTaken M_V_roomTaken ∈ gW := gW_c4 115 rfl rfl
def y_C_roomLeft : MethodName := ⟨"FolderRounds$Cartridge", "roomLeft", "()I"⟩
def M_C_roomLeft : gM := (prog_2_method_2_code, 3, "FolderRounds$Cartridge", "roomLeft", [], (Option.some FieldType.int))
theorem cd_C_roomLeft : gCode y_C_roomLeft M_C_roomLeft ∈ gW := gW_c4 120 rfl rfl
def y_A_add : MethodName := ⟨"java/util/ArrayList", "add", "(Ljava/lang/Object;)Z"⟩
def M_A_add : gM := (prog_33_method_25_code, 2, "java/util/ArrayList", "add", [], (Option.some FieldType.boolean))
theorem cd_A_add : gCode y_A_add M_A_add ∈ gW := gW_c4 128 rfl rfl
def y_A_add3 : MethodName := ⟨"java/util/ArrayList", "add", "(Ljava/lang/Object;[Ljava/lang/Object;I)V"⟩
def M_A_add3 : gM := (prog_33_method_24_code, 4, "java/util/ArrayList", "add", [], none)
theorem cd_A_add3 : gCode y_A_add3 M_A_add3 ∈ gW := gW_c4 132 rfl rfl
def y_L_cut : MethodName := ⟨"FolderRoundsLaw", "cut", "(LFolderRounds;IIII[J)I"⟩
def M_L_cut : gM := (method_9_code, 7, "FolderRoundsLaw", "cut", [((0), (14), (17), (13)), ((0), (14), (21), (15))], (Option.some FieldType.int))
theorem cd_L_cut : gCode y_L_cut M_L_cut ∈ gW := gW_c4 135 rfl rfl
def y_F_cut : MethodName := ⟨"FolderRounds", "cut", "(IIII)I"⟩
def M_F_cut : gM := (prog_1_method_8_code, 7, "FolderRounds", "cut", [], (Option.some FieldType.int))
theorem cd_F_cut : gCode y_F_cut M_F_cut ∈ gW := gW_c4 139 rfl rfl
def y_L_lose : MethodName := ⟨"FolderRoundsLaw", "lose", "(LFolderRounds;I[J)I"⟩
def M_L_lose : gM := (method_10_code, 4, "FolderRoundsLaw", "lose", [((0), (9), (12), (13))], (Option.some FieldType.int))
theorem cd_L_lose : gCode y_L_lose M_L_lose ∈ gW := gW_c4 142 rfl rfl
def y_F_lose : MethodName := ⟨"FolderRounds", "lose", "(I)I"⟩
def M_F_lose : gM := (prog_1_method_9_code, 4, "FolderRounds", "lose", [], (Option.some FieldType.int))
theorem cd_F_lose : gCode y_F_lose M_F_lose ∈ gW := gW_c4 146 rfl rfl
def y_T_becomeZeros : MethodName := ⟨"FolderRounds$Table", "becomeZeros", "()V"⟩
def M_T_becomeZeros : gM := (prog_4_method_9_code, 1, "FolderRounds$Table", "becomeZeros", [], none)
theorem cd_T_becomeZeros : gCode y_T_becomeZeros M_T_becomeZeros ∈ gW := gW_c4 150 rfl rfl
def y_J_fill : MethodName := ⟨"java/util/Arrays", "fill", "([II)V"⟩
def M_J_fill : gM := (prog_34_method_103_code, 4, "java/util/Arrays", "fill", [], none)
theorem cd_J_fill : gCode y_J_fill M_J_fill ∈ gW := gW_c4 153 rfl rfl
def y_L_copy : MethodName := ⟨"FolderRoundsLaw", "copy", "(LFolderRounds;II)I"⟩
def M_L_copy : gM := (method_11_code, 4, "FolderRoundsLaw", "copy", [((0), (6), (9), (13))], (Option.some FieldType.int))
theorem cd_L_copy : gCode y_L_copy M_L_copy ∈ gW := gW_c4 156 rfl rfl
def y_F_copy : MethodName := ⟨"FolderRounds", "copy", "(II)V"⟩
def M_F_copy : gM := (prog_1_method_10_code, 5, "FolderRounds", "copy", [], none)
theorem cd_F_copy : gCode y_F_copy M_F_copy ∈ gW := gW_c4 160 rfl rfl
def y_C_become : MethodName := ⟨"FolderRounds$Cartridge", "become", "(LFolderRounds$Cartridge;)V"⟩
def M_C_become : gM := (prog_2_method_3_code, 3, "FolderRounds$Cartridge", "become", [], none)
theorem cd_C_become : gCode y_C_become M_C_become ∈ gW := gW_c4 164 rfl rfl
def y_L_known : MethodName := ⟨"FolderRoundsLaw", "known", "(LFolderRounds;IIII[J)I"⟩
def M_L_known : gM := (method_12_code, 7, "FolderRoundsLaw", "known", [((0), (14), (17), (13)), ((0), (14), (21), (31))], (Option.some FieldType.int))
theorem cd_L_known : gCode y_L_known M_L_known ∈ gW := gW_c4 170 rfl rfl
def y_F_known : MethodName := ⟨"FolderRounds", "known", "(IIII)I"⟩
def M_F_known : gM := (prog_1_method_11_code, 6, "FolderRounds", "known", [], (Option.some FieldType.int))
theorem cd_F_known : gCode y_F_known M_F_known ∈ gW := gW_c4 174 rfl rfl
def y_L_marks : MethodName := ⟨"FolderRoundsLaw", "marks", "(LFolderRounds;I[J)I"⟩
def M_L_marks : gM := (method_13_code, 4, "FolderRoundsLaw", "marks", [((0), (9), (12), (13))], (Option.some FieldType.int))
theorem cd_L_marks : gCode y_L_marks M_L_marks ∈ gW := gW_c4 178 rfl rfl
def y_F_marks : MethodName := ⟨"FolderRounds", "marks", "(I)I"⟩
def M_F_marks : gM := (prog_1_method_12_code, 2, "FolderRounds", "marks", [], (Option.some FieldType.int))
theorem cd_F_marks : gCode y_F_marks M_F_marks ∈ gW := gW_c4 182 rfl rfl
def y_S_countMarks : MethodName := ⟨"FolderRounds$Station", "countMarks", "()I"⟩
def M_S_countMarks : gM := (prog_3_method_15_code, 3, "FolderRounds$Station", "countMarks", [], (Option.some FieldType.int))
theorem cd_S_countMarks : gCode y_S_countMarks M_S_countMarks ∈ gW := gW_c4 186 rfl rfl
def y_L_bytes : MethodName := ⟨"FolderRoundsLaw", "bytes", "(LFolderRounds;I[J)I"⟩
def M_L_bytes : gM := (method_14_code, 4, "FolderRoundsLaw", "bytes", [((0), (9), (12), (13))], (Option.some FieldType.int))
theorem cd_L_bytes : gCode y_L_bytes M_L_bytes ∈ gW := gW_c4 189 rfl rfl
def y_F_bytes : MethodName := ⟨"FolderRounds", "bytes", "(I)I"⟩
def M_F_bytes : gM := (prog_1_method_13_code, 2, "FolderRounds", "bytes", [], (Option.some FieldType.int))
theorem cd_F_bytes : gCode y_F_bytes M_F_bytes ∈ gW := gW_c4 193 rfl rfl
def y_S_countBytes : MethodName := ⟨"FolderRounds$Station", "countBytes", "()I"⟩
def M_S_countBytes : gM := (prog_3_method_16_code, 3, "FolderRounds$Station", "countBytes", [], (Option.some FieldType.int))
theorem cd_S_countBytes : gCode y_S_countBytes M_S_countBytes ∈ gW := gW_c4 197 rfl rfl
def y_L_same : MethodName := ⟨"FolderRoundsLaw", "same", "(LFolderRounds;II[J)I"⟩
def M_L_same : gM := (method_15_code, 5, "FolderRoundsLaw", "same", [((0), (17), (20), (13))], (Option.some FieldType.int))
theorem cd_L_same : gCode y_L_same M_L_same ∈ gW := gW_c4 200 rfl rfl
def y_F_same : MethodName := ⟨"FolderRounds", "same", "(II)Z"⟩
def M_F_same : gM := (prog_1_method_14_code, 5, "FolderRounds", "same", [], (Option.some FieldType.boolean))
theorem cd_F_same : gCode y_F_same M_F_same ∈ gW := gW_c4 204 rfl rfl
def y_S_hasSameSiblingsAs : MethodName := ⟨"FolderRounds$Station", "hasSameSiblingsAs", "(LFolderRounds$Station;)Z"⟩
def M_S_hasSameSiblingsAs : gM := (prog_3_method_17_code, 5, "FolderRounds$Station", "hasSameSiblingsAs", [], (Option.some FieldType.boolean))
theorem cd_S_hasSameSiblingsAs : gCode y_S_hasSameSiblingsAs M_S_hasSameSiblingsAs ∈ gW := gW_c4 208 rfl rfl
def y_S_skipMarks : MethodName := ⟨"FolderRounds$Station", "skipMarks", "(I)I"⟩
def M_S_skipMarks : gM := (prog_3_method_18_code, 3, "FolderRounds$Station", "skipMarks", [], (Option.some FieldType.int))
theorem cd_S_skipMarks : gCode y_S_skipMarks M_S_skipMarks ∈ gW := gW_c4 212 rfl rfl
def y_L_room : MethodName := ⟨"FolderRoundsLaw", "room", "(LFolderRounds;I[J)I"⟩
def M_L_room : gM := (method_16_code, 4, "FolderRoundsLaw", "room", [((0), (9), (12), (13))], (Option.some FieldType.int))
theorem cd_L_room : gCode y_L_room M_L_room ∈ gW := gW_c4 215 rfl rfl
def y_F_room : MethodName := ⟨"FolderRounds", "room", "(I)I"⟩
def M_F_room : gM := (prog_1_method_15_code, 2, "FolderRounds", "room", [], (Option.some FieldType.int))
theorem cd_F_room : gCode y_F_room M_F_room ∈ gW := gW_c4 219 rfl rfl
def y_L_item : MethodName := ⟨"FolderRoundsLaw", "item", "(LFolderRounds;III[J)I"⟩
def M_L_item : gM := (method_17_code, 6, "FolderRoundsLaw", "item", [((0), (12), (15), (13)), ((0), (12), (19), (31))], (Option.some FieldType.int))
theorem cd_L_item : gCode y_L_item M_L_item ∈ gW := gW_c4 222 rfl rfl
def y_F_item : MethodName := ⟨"FolderRounds", "item", "(III)I"⟩
def M_F_item : gM := (prog_1_method_16_code, 6, "FolderRounds", "item", [], (Option.some FieldType.int))
theorem cd_F_item : gCode y_F_item M_F_item ∈ gW := gW_c4 226 rfl rfl
def y_R_init : MethodName := ⟨"FolderRoundsModel", "<init>", "()V"⟩
def M_R_init : gM := (prog_7_method_1_code, 1, "FolderRoundsModel", "<init>", [], none)
theorem cd_R_init : gCode y_R_init M_R_init ∈ gW := gW_c4 231 rfl rfl
def y_R_thrown : MethodName := ⟨"FolderRoundsModel", "thrown", "()I"⟩
def M_R_thrown : gM := (prog_7_method_2_code, 1, "FolderRoundsModel", "thrown", [], (Option.some FieldType.int))
theorem cd_R_thrown : gCode y_R_thrown M_R_thrown ∈ gW := gW_c5 33 rfl rfl
def y_R_edit : MethodName := ⟨"FolderRoundsModel", "edit", "(IIII)V"⟩
def M_R_edit : gM := (prog_7_method_17_code, 5, "FolderRoundsModel", "edit", [], none)
theorem cd_R_edit : gCode y_R_edit M_R_edit ∈ gW := gW_c5 37 rfl rfl
def y_R_isPlace : MethodName := ⟨"FolderRoundsModel", "isPlace", "(II)Z"⟩
def M_R_isPlace : gM := (prog_7_method_16_code, 2, "FolderRoundsModel", "isPlace", [], (Option.some FieldType.boolean))
theorem cd_R_isPlace : gCode y_R_isPlace M_R_isPlace ∈ gW := gW_c5 40 rfl rfl
def y_R_within : MethodName := ⟨"FolderRoundsModel", "within", "(III)Z"⟩
def M_R_within : gM := (prog_7_method_3_code, 3, "FolderRoundsModel", "within", [], (Option.some FieldType.boolean))
theorem cd_R_within : gCode y_R_within M_R_within ∈ gW := gW_c5 43 rfl rfl
def y_R_make : MethodName := ⟨"FolderRoundsModel", "make", "(IIII)I"⟩
def M_R_make : gM := (prog_7_method_15_code, 8, "FolderRoundsModel", "make", [], (Option.some FieldType.int))
theorem cd_R_make : gCode y_R_make M_R_make ∈ gW := gW_c5 47 rfl rfl
def y_R_at : MethodName := ⟨"FolderRoundsModel", "at", "(III)I"⟩
def M_R_at : gM := (prog_7_method_5_code, 3, "FolderRoundsModel", "at", [], (Option.some FieldType.int))
theorem cd_R_at : gCode y_R_at M_R_at ∈ gW := gW_c5 50 rfl rfl
def y_R_hasRoom : MethodName := ⟨"FolderRoundsModel", "hasRoom", "(II)Z"⟩
def M_R_hasRoom : gM := (prog_7_method_13_code, 6, "FolderRoundsModel", "hasRoom", [], (Option.some FieldType.boolean))
theorem cd_R_hasRoom : gCode y_R_hasRoom M_R_hasRoom ∈ gW := gW_c5 54 rfl rfl
def y_R_allBytes : MethodName := ⟨"FolderRoundsModel", "allBytes", "(I)I"⟩
def M_R_allBytes : gM := (prog_7_method_12_code, 4, "FolderRoundsModel", "allBytes", [], (Option.some FieldType.int))
theorem cd_R_allBytes : gCode y_R_allBytes M_R_allBytes ∈ gW := gW_c5 58 rfl rfl
def y_R_bytesOf : MethodName := ⟨"FolderRoundsModel", "bytesOf", "(I)I"⟩
def M_R_bytesOf : gM := (prog_7_method_10_code, 2, "FolderRoundsModel", "bytesOf", [], (Option.some FieldType.int))
theorem cd_R_bytesOf : gCode y_R_bytesOf M_R_bytesOf ∈ gW := gW_c5 62 rfl rfl
def y_R_standing : MethodName := ⟨"FolderRoundsModel", "standing", "(III)I"⟩
def M_R_standing : gM := (prog_7_method_11_code, 4, "FolderRoundsModel", "standing", [], (Option.some FieldType.int))
theorem cd_R_standing : gCode y_R_standing M_R_standing ∈ gW := gW_c5 66 rfl rfl
def y_R_covers : MethodName := ⟨"FolderRoundsModel", "covers", "(II)Z"⟩
def M_R_covers : gM := (prog_7_method_7_code, 5, "FolderRoundsModel", "covers", [], (Option.some FieldType.boolean))
theorem cd_R_covers : gCode y_R_covers M_R_covers ∈ gW := gW_c5 70 rfl rfl
def y_R_counterOf : MethodName := ⟨"FolderRoundsModel", "counterOf", "(II)I"⟩
def M_R_counterOf : gM := (prog_7_method_4_code, 3, "FolderRoundsModel", "counterOf", [], (Option.some FieldType.int))
theorem cd_R_counterOf : gCode y_R_counterOf M_R_counterOf ∈ gW := gW_c5 74 rfl rfl
def y_R_comeToStand : MethodName := ⟨"FolderRoundsModel", "comeToStand", "(II)V"⟩
def M_R_comeToStand : gM := (prog_7_method_14_code, 6, "FolderRoundsModel", "comeToStand", [], none)
theorem cd_R_comeToStand : gCode y_R_comeToStand M_R_comeToStand ∈ gW := gW_c5 78 rfl rfl
def y_R_erase : MethodName := ⟨"FolderRoundsModel", "erase", "(II)V"⟩
def M_R_erase : gM := (prog_7_method_18_code, 3, "FolderRoundsModel", "erase", [], none)
theorem cd_R_erase : gCode y_R_erase M_R_erase ∈ gW := gW_c5 82 rfl rfl
def y_R_siblings : MethodName := ⟨"FolderRoundsModel", "siblings", "(II)I"⟩
def M_R_siblings : gM := (prog_7_method_21_code, 3, "FolderRoundsModel", "siblings", [], (Option.some FieldType.int))
theorem cd_R_siblings : gCode y_R_siblings M_R_siblings ∈ gW := gW_c5 86 rfl rfl
def y_R_count : MethodName := ⟨"FolderRoundsModel", "count", "(IIZ)I"⟩
def M_R_count : gM := (prog_7_method_19_code, 7, "FolderRoundsModel", "count", [], (Option.some FieldType.int))
theorem cd_R_count : gCode y_R_count M_R_count ∈ gW := gW_c5 90 rfl rfl
def y_R_counter : MethodName := ⟨"FolderRoundsModel", "counter", "(IIII)I"⟩
def M_R_counter : gM := (prog_7_method_22_code, 6, "FolderRoundsModel", "counter", [], (Option.some FieldType.int))
theorem cd_R_counter : gCode y_R_counter M_R_counter ∈ gW := gW_c5 94 rfl rfl
def y_R_sibling : MethodName := ⟨"FolderRoundsModel", "sibling", "(III)I"⟩
def M_R_sibling : gM := (prog_7_method_20_code, 9, "FolderRoundsModel", "sibling", [], (Option.some FieldType.int))
theorem cd_R_sibling : gCode y_R_sibling M_R_sibling ∈ gW := gW_c5 98 rfl rfl
def y_R_compare : MethodName := ⟨"FolderRoundsModel", "compare", "(II)I"⟩
def M_R_compare : gM := (prog_7_method_8_code, 5, "FolderRoundsModel", "compare", [], (Option.some FieldType.int))
theorem cd_R_compare : gCode y_R_compare M_R_compare ∈ gW := gW_c5 102 rfl rfl
def y_R_byteOf : MethodName := ⟨"FolderRoundsModel", "byteOf", "(IIII)I"⟩
def M_R_byteOf : gM := (prog_7_method_23_code, 6, "FolderRoundsModel", "byteOf", [], (Option.some FieldType.int))
theorem cd_R_byteOf : gCode y_R_byteOf M_R_byteOf ∈ gW := gW_c5 106 rfl rfl
def y_R_visit : MethodName := ⟨"FolderRoundsModel", "visit", "(III)I"⟩
def M_R_visit : gM := (prog_7_method_32_code, 4, "FolderRoundsModel", "visit", [], (Option.some FieldType.int))
theorem cd_R_visit : gCode y_R_visit M_R_visit ∈ gW := gW_c5 110 rfl rfl
def y_R_visitUpTo : MethodName := ⟨"FolderRoundsModel", "visitUpTo", "(IIII)I"⟩
def M_R_visitUpTo : gM := (prog_7_method_31_code, 7, "FolderRoundsModel", "visitUpTo", [], (Option.some FieldType.int))
theorem cd_R_visitUpTo : gCode y_R_visitUpTo M_R_visitUpTo ∈ gW := gW_c5 115 rfl rfl
def y_R_unload : MethodName := ⟨"FolderRoundsModel", "unload", "(III)I"⟩
def M_R_unload : gM := (prog_7_method_25_code, 6, "FolderRoundsModel", "unload", [], (Option.some FieldType.int))
theorem cd_R_unload : gCode y_R_unload M_R_unload ∈ gW := gW_c5 119 rfl rfl
def y_R_isCovered : MethodName := ⟨"FolderRoundsModel", "isCovered", "(II)Z"⟩
def M_R_isCovered : gM := (prog_7_method_6_code, 5, "FolderRoundsModel", "isCovered", [], (Option.some FieldType.boolean))
theorem cd_R_isCovered : gCode y_R_isCovered M_R_isCovered ∈ gW := gW_c5 123 rfl rfl
def y_R_learn : MethodName := ⟨"FolderRoundsModel", "learn", "(II)V"⟩
def M_R_learn : gM := (prog_7_method_26_code, 7, "FolderRoundsModel", "learn", [], none)
theorem cd_R_learn : gCode y_R_learn M_R_learn ∈ gW := gW_c5 127 rfl rfl
def y_R_dropMarks : MethodName := ⟨"FolderRoundsModel", "dropMarks", "(I)V"⟩
def M_R_dropMarks : gM := (prog_7_method_27_code, 6, "FolderRoundsModel", "dropMarks", [], none)
theorem cd_R_dropMarks : gCode y_R_dropMarks M_R_dropMarks ∈ gW := gW_c5 131 rfl rfl
def y_R_nextToLoad : MethodName := ⟨"FolderRoundsModel", "nextToLoad", "(III)I"⟩
def M_R_nextToLoad : gM := (prog_7_method_30_code, 8, "FolderRoundsModel", "nextToLoad", [], (Option.some FieldType.int))
theorem cd_R_nextToLoad : gCode y_R_nextToLoad M_R_nextToLoad ∈ gW := gW_c5 135 rfl rfl
def y_R_isLacked : MethodName := ⟨"FolderRoundsModel", "isLacked", "(III)Z"⟩
def M_R_isLacked : gM := (prog_7_method_28_code, 7, "FolderRoundsModel", "isLacked", [], (Option.some FieldType.boolean))
theorem cd_R_isLacked : gCode y_R_isLacked M_R_isLacked ∈ gW := gW_c5 139 rfl rfl
def y_R_isSooner : MethodName := ⟨"FolderRoundsModel", "isSooner", "(II)Z"⟩
def M_R_isSooner : gM := (prog_7_method_29_code, 3, "FolderRoundsModel", "isSooner", [], (Option.some FieldType.boolean))
theorem cd_R_isSooner : gCode y_R_isSooner M_R_isSooner ∈ gW := gW_c5 143 rfl rfl
def y_R_sumOf : MethodName := ⟨"FolderRoundsModel", "sumOf", "(I)I"⟩
def M_R_sumOf : gM := (prog_7_method_9_code, 2, "FolderRoundsModel", "sumOf", [], (Option.some FieldType.int))
theorem cd_R_sumOf : gCode y_R_sumOf M_R_sumOf ∈ gW := gW_c5 147 rfl rfl
def y_R_roomOf : MethodName := ⟨"FolderRoundsModel", "roomOf", "(I)I"⟩
def M_R_roomOf : gM := (prog_7_method_24_code, 4, "FolderRoundsModel", "roomOf", [], (Option.some FieldType.int))
theorem cd_R_roomOf : gCode y_R_roomOf M_R_roomOf ∈ gW := gW_c5 151 rfl rfl
def y_R_cut : MethodName := ⟨"FolderRoundsModel", "cut", "(IIII)I"⟩
def M_R_cut : gM := (prog_7_method_33_code, 5, "FolderRoundsModel", "cut", [], (Option.some FieldType.int))
theorem cd_R_cut : gCode y_R_cut M_R_cut ∈ gW := gW_c5 155 rfl rfl
def y_R_lose : MethodName := ⟨"FolderRoundsModel", "lose", "(I)I"⟩
def M_R_lose : gM := (prog_7_method_34_code, 4, "FolderRoundsModel", "lose", [], (Option.some FieldType.int))
theorem cd_R_lose : gCode y_R_lose M_R_lose ∈ gW := gW_c5 159 rfl rfl
def y_R_copy : MethodName := ⟨"FolderRoundsModel", "copy", "(II)V"⟩
def M_R_copy : gM := (prog_7_method_35_code, 4, "FolderRoundsModel", "copy", [], none)
theorem cd_R_copy : gCode y_R_copy M_R_copy ∈ gW := gW_c5 163 rfl rfl
def y_R_known : MethodName := ⟨"FolderRoundsModel", "known", "(IIII)I"⟩
def M_R_known : gM := (prog_7_method_36_code, 5, "FolderRoundsModel", "known", [], (Option.some FieldType.int))
theorem cd_R_known : gCode y_R_known M_R_known ∈ gW := gW_c5 167 rfl rfl
def y_R_marks : MethodName := ⟨"FolderRoundsModel", "marks", "(I)I"⟩
def M_R_marks : gM := (prog_7_method_37_code, 4, "FolderRoundsModel", "marks", [], (Option.some FieldType.int))
theorem cd_R_marks : gCode y_R_marks M_R_marks ∈ gW := gW_c5 171 rfl rfl
def y_R_bytes : MethodName := ⟨"FolderRoundsModel", "bytes", "(I)I"⟩
def M_R_bytes : gM := (prog_7_method_38_code, 2, "FolderRoundsModel", "bytes", [], (Option.some FieldType.int))
theorem cd_R_bytes : gCode y_R_bytes M_R_bytes ∈ gW := gW_c5 175 rfl rfl
def y_R_same : MethodName := ⟨"FolderRoundsModel", "same", "(II)Z"⟩
def M_R_same : gM := (prog_7_method_39_code, 9, "FolderRoundsModel", "same", [], (Option.some FieldType.boolean))
theorem cd_R_same : gCode y_R_same M_R_same ∈ gW := gW_c5 179 rfl rfl
def y_R_room : MethodName := ⟨"FolderRoundsModel", "room", "(I)I"⟩
def M_R_room : gM := (prog_7_method_40_code, 2, "FolderRoundsModel", "room", [], (Option.some FieldType.int))
theorem cd_R_room : gCode y_R_room M_R_room ∈ gW := gW_c5 183 rfl rfl
def y_R_item : MethodName := ⟨"FolderRoundsModel", "item", "(III)I"⟩
def M_R_item : gM := (prog_7_method_41_code, 5, "FolderRoundsModel", "item", [], (Option.some FieldType.int))
theorem cd_R_item : gCode y_R_item M_R_item ∈ gW := gW_c5 187 rfl rfl
def y_R_leftOut : MethodName := ⟨"FolderRoundsModel", "leftOut", "()I"⟩
def M_R_leftOut : gM := (prog_7_method_42_code, 1, "FolderRoundsModel", "leftOut", [], (Option.some FieldType.int))
theorem cd_R_leftOut : gCode y_R_leftOut M_R_leftOut ∈ gW := gW_c5 191 rfl rfl
def y_L_law : MethodName := ⟨"FolderRoundsLaw", "law", "([I)Z"⟩
def M_L_law : gM := (code, 7, "FolderRoundsLaw", "law", [], (some FieldType.boolean))
theorem fl_F_13 (M : gM) (h : M.2.2.1 = "FolderRounds") : gFl M 13 5 0 := ⟨RX4, TX4, 4, "FolderRounds", rfl, by decide, by rw [h]; exact gW_c1 116 rfl rfl, gws_5, Or.inl rfl⟩
theorem fl_F_22 (M : gM) (h : M.2.2.1 = "FolderRounds") : gFl M 22 5 1 := ⟨RX4, TX4, 4, "FolderRounds", rfl, by decide, by rw [h]; exact gW_c1 117 rfl rfl, gws_5, Or.inl rfl⟩
theorem fl_F_30 (M : gM) (h : M.2.2.1 = "FolderRounds") : gFl M 30 5 2 := ⟨RX4, TX4, 4, "FolderRounds", rfl, by decide, by rw [h]; exact gW_c1 118 rfl rfl, gws_5, Or.inl rfl⟩
theorem fl_F_34 (M : gM) (h : M.2.2.1 = "FolderRounds") : gFl M 34 5 3 := ⟨RX4, TX4, 4, "FolderRounds", rfl, by decide, by rw [h]; exact gW_c1 119 rfl rfl, gws_5, Or.inl rfl⟩
theorem fl_S_9 (M : gM) (h : M.2.2.1 = "FolderRounds$Station") : gFl M 9 2 0 := ⟨RX1, TX1, 3, "FolderRounds$Station", rfl, by decide, by rw [h]; exact gW_c1 82 rfl rfl, gws_2, Or.inl rfl⟩
theorem fl_S_18 (M : gM) (h : M.2.2.1 = "FolderRounds$Station") : gFl M 18 2 1 := ⟨RX1, TX1, 3, "FolderRounds$Station", rfl, by decide, by rw [h]; exact gW_c1 83 rfl rfl, gws_2, Or.inl rfl⟩
theorem fl_S_25 (M : gM) (h : M.2.2.1 = "FolderRounds$Station") : gFl M 25 2 2 := ⟨RX1, TX1, 3, "FolderRounds$Station", rfl, by decide, by rw [h]; exact gW_c1 85 rfl rfl, gws_2, Or.inl rfl⟩
theorem fl_A_9 (M : gM) (h : M.2.2.1 = "java/util/ArrayList") : gFl M 9 0 1 := ⟨RJx4a65c, TJx4a65c, 3, "java/util/ArrayList", rfl, by decide, by rw [h]; exact gW_c1 59 rfl rfl, gws_0, Or.inl rfl⟩
theorem fl_AbstractList_7 (M : gM) (h : M.2.2.1 = "java/util/AbstractList") : gFl M 7 0 0 := ⟨RJx4a65c, TJx4a65c, 3, "java/util/AbstractList", rfl, by decide, by rw [h]; exact gW_c1 61 rfl rfl, gws_0, Or.inl rfl⟩
theorem fl_T_9 (M : gM) (h : M.2.2.1 = "FolderRounds$Table") : gFl M 9 3 0 := ⟨RX2, TX2, 1, "FolderRounds$Table", rfl, by decide, by rw [h]; exact gW_c1 77 rfl rfl, gws_3, Or.inl rfl⟩
theorem fl_C_12 (M : gM) (h : M.2.2.1 = "FolderRounds$Cartridge") : gFl M 12 1 0 := ⟨RX0, TX0, 2, "FolderRounds$Cartridge", rfl, by decide, by rw [h]; exact gW_c1 105 rfl rfl, gws_1, Or.inl rfl⟩
theorem fl_C_21 (M : gM) (h : M.2.2.1 = "FolderRounds$Cartridge") : gFl M 21 1 1 := ⟨RX0, TX0, 2, "FolderRounds$Cartridge", rfl, by decide, by rw [h]; exact gW_c1 107 rfl rfl, gws_1, Or.inl rfl⟩
theorem vx_F_47 : ∀ c ∈ vx_at0 "FolderRounds" 47 "java/lang/IllegalArgumentException" ["java/lang/RuntimeException", "java/lang/Exception"], c ∈ gW ∨ c ∈ gNwl := by
  have h : ∀ c ∈ vx_at0 "FolderRounds" 47 "java/lang/IllegalArgumentException" ["java/lang/RuntimeException", "java/lang/Exception"], (c ∈ lw_tbl ∧ goodWord c = true) ∨ c ∈ gNwl := by decide +kernel
  exact fun c hc => (h c hc).imp (fun q => List.mem_filter.mpr q) id
theorem vx_F_135 : ∀ c ∈ vx_at0 "FolderRounds" 135 "java/util/NoSuchElementException" ["java/lang/RuntimeException", "java/lang/Exception"], c ∈ gW ∨ c ∈ gNwl := by
  have h : ∀ c ∈ vx_at0 "FolderRounds" 135 "java/util/NoSuchElementException" ["java/lang/RuntimeException", "java/lang/Exception"], (c ∈ lw_tbl ∧ goodWord c = true) ∨ c ∈ gNwl := by decide +kernel
  exact fun c hc => (h c hc).imp (fun q => List.mem_filter.mpr q) id
theorem vx_F_152 : ∀ c ∈ vx_at0 "FolderRounds" 152 "java/lang/UnsupportedOperationException" ["java/lang/RuntimeException", "java/lang/Exception"], c ∈ gW ∨ c ∈ gNwl := by
  have h : ∀ c ∈ vx_at0 "FolderRounds" 152 "java/lang/UnsupportedOperationException" ["java/lang/RuntimeException", "java/lang/Exception"], (c ∈ lw_tbl ∧ goodWord c = true) ∨ c ∈ gNwl := by decide +kernel
  exact fun c hc => (h c hc).imp (fun q => List.mem_filter.mpr q) id
theorem fl_V_9 (M : gM) (h : M.2.2.1 = "FolderRounds$Version") : gFl M 9 4 0 := ⟨RX3, TX3, 4, "FolderRounds$Version", rfl, by decide, by rw [h]; exact gW_c3 58 rfl rfl, gws_4, Or.inl rfl⟩
theorem fl_V_15 (M : gM) (h : M.2.2.1 = "FolderRounds$Version") : gFl M 15 4 1 := ⟨RX3, TX3, 4, "FolderRounds$Version", rfl, by decide, by rw [h]; exact gW_c3 61 rfl rfl, gws_4, Or.inl rfl⟩
theorem fl_V_18 (M : gM) (h : M.2.2.1 = "FolderRounds$Version") : gFl M 18 4 2 := ⟨RX3, TX3, 4, "FolderRounds$Version", rfl, by decide, by rw [h]; exact gW_c3 63 rfl rfl, gws_4, Or.inl rfl⟩
theorem fl_V_21 (M : gM) (h : M.2.2.1 = "FolderRounds$Version") : gFl M 21 4 3 := ⟨RX3, TX3, 4, "FolderRounds$Version", rfl, by decide, by rw [h]; exact gW_c3 65 rfl rfl, gws_4, Or.inl rfl⟩
theorem fl_A_48 (M : gM) (h : M.2.2.1 = "java/util/ArrayList") : gFl M 48 0 2 := ⟨RJx4a65c, TJx4a65c, 3, "java/util/ArrayList", rfl, by decide, by rw [h]; exact gW_c1 60 rfl rfl, gws_0, Or.inl rfl⟩
theorem fl_A_63 (M : gM) (h : M.2.2.1 = "java/util/ArrayList") : gFl M 63 0 0 := ⟨RJx4a65c, TJx4a65c, 3, "java/util/ArrayList", rfl, by decide, by rw [h]; exact gW_c1 62 rfl rfl, gws_0, Or.inr (gW_c1 63 rfl rfl)⟩
theorem fl_T_25 (M : gM) (h : M.2.2.1 = "FolderRounds$Table") : gFl M 25 4 0 := ⟨RX3, TX3, 4, "FolderRounds$Version", rfl, by decide, by rw [h]; exact gW_c3 59 rfl rfl, gws_4, Or.inl rfl⟩
theorem fl_T_31 (M : gM) (h : M.2.2.1 = "FolderRounds$Table") : gFl M 31 4 3 := ⟨RX3, TX3, 4, "FolderRounds$Version", rfl, by decide, by rw [h]; exact gW_c3 67 rfl rfl, gws_4, Or.inl rfl⟩
theorem fl_F_63 (M : gM) (h : M.2.2.1 = "FolderRounds") : gFl M 63 4 3 := ⟨RX3, TX3, 4, "FolderRounds$Version", rfl, by decide, by rw [h]; exact gW_c3 66 rfl rfl, gws_4, Or.inl rfl⟩
theorem vx_F_74 : ∀ c ∈ vx_at0 "FolderRounds" 74 "java/lang/IndexOutOfBoundsException" ["java/lang/RuntimeException", "java/lang/Exception"], c ∈ gW ∨ c ∈ gNwl := by
  have h : ∀ c ∈ vx_at0 "FolderRounds" 74 "java/lang/IndexOutOfBoundsException" ["java/lang/RuntimeException", "java/lang/Exception"], (c ∈ lw_tbl ∧ goodWord c = true) ∨ c ∈ gNwl := by decide +kernel
  exact fun c hc => (h c hc).imp (fun q => List.mem_filter.mpr q) id
theorem fl_F_69 (M : gM) (h : M.2.2.1 = "FolderRounds") : gFl M 69 4 1 := ⟨RX3, TX3, 4, "FolderRounds$Version", rfl, by decide, by rw [h]; exact gW_c3 62 rfl rfl, gws_4, Or.inl rfl⟩
theorem fl_F_75 (M : gM) (h : M.2.2.1 = "FolderRounds") : gFl M 75 4 2 := ⟨RX3, TX3, 4, "FolderRounds$Version", rfl, by decide, by rw [h]; exact gW_c3 64 rfl rfl, gws_4, Or.inl rfl⟩
theorem fl_F_87 (M : gM) (h : M.2.2.1 = "FolderRounds") : gFl M 87 1 0 := ⟨RX0, TX0, 2, "FolderRounds$Cartridge", rfl, by decide, by rw [h]; exact gW_c1 106 rfl rfl, gws_1, Or.inl rfl⟩
theorem fl_F_97 (M : gM) (h : M.2.2.1 = "FolderRounds") : gFl M 97 1 1 := ⟨RX0, TX0, 2, "FolderRounds$Cartridge", rfl, by decide, by rw [h]; exact gW_c1 108 rfl rfl, gws_1, Or.inl rfl⟩
theorem fl_F_113 (M : gM) (h : M.2.2.1 = "FolderRounds") : gFl M 113 2 2 := ⟨RX1, TX1, 3, "FolderRounds$Station", rfl, by decide, by rw [h]; exact gW_c1 86 rfl rfl, gws_2, Or.inl rfl⟩
theorem fl_F_203 (M : gM) (h : M.2.2.1 = "FolderRounds") : gFl M 203 2 1 := ⟨RX1, TX1, 3, "FolderRounds$Station", rfl, by decide, by rw [h]; exact gW_c1 84 rfl rfl, gws_2, Or.inl rfl⟩
theorem fl_F_140 (M : gM) (h : M.2.2.1 = "FolderRounds") : gFl M 140 4 0 := ⟨RX3, TX3, 4, "FolderRounds$Version", rfl, by decide, by rw [h]; exact gW_c3 60 rfl rfl, gws_4, Or.inl rfl⟩
theorem fl_R_7 (M : gM) (h : M.2.2.1 = "FolderRoundsModel") : gFl M 7 6 2 := ⟨RX5, TX5, 12, "FolderRoundsModel", rfl, by decide, by rw [h]; exact gW_c4 235 rfl rfl, gws_6, Or.inl rfl⟩
theorem fl_R_13 (M : gM) (h : M.2.2.1 = "FolderRoundsModel") : gFl M 13 6 3 := ⟨RX5, TX5, 12, "FolderRoundsModel", rfl, by decide, by rw [h]; exact gW_c4 236 rfl rfl, gws_6, Or.inl rfl⟩
theorem fl_R_16 (M : gM) (h : M.2.2.1 = "FolderRoundsModel") : gFl M 16 6 4 := ⟨RX5, TX5, 12, "FolderRoundsModel", rfl, by decide, by rw [h]; exact gW_c4 237 rfl rfl, gws_6, Or.inl rfl⟩
theorem fl_R_19 (M : gM) (h : M.2.2.1 = "FolderRoundsModel") : gFl M 19 6 5 := ⟨RX5, TX5, 12, "FolderRoundsModel", rfl, by decide, by rw [h]; exact gW_c4 238 rfl rfl, gws_6, Or.inl rfl⟩
theorem fl_R_22 (M : gM) (h : M.2.2.1 = "FolderRoundsModel") : gFl M 22 6 6 := ⟨RX5, TX5, 12, "FolderRoundsModel", rfl, by decide, by rw [h]; exact gW_c4 239 rfl rfl, gws_6, Or.inl rfl⟩
theorem fl_R_25 (M : gM) (h : M.2.2.1 = "FolderRoundsModel") : gFl M 25 6 7 := ⟨RX5, TX5, 12, "FolderRoundsModel", rfl, by decide, by rw [h]; exact gW_c5 0 rfl rfl, gws_6, Or.inl rfl⟩
theorem fl_R_28 (M : gM) (h : M.2.2.1 = "FolderRoundsModel") : gFl M 28 6 8 := ⟨RX5, TX5, 12, "FolderRoundsModel", rfl, by decide, by rw [h]; exact gW_c5 1 rfl rfl, gws_6, Or.inl rfl⟩
theorem fl_R_31 (M : gM) (h : M.2.2.1 = "FolderRoundsModel") : gFl M 31 6 9 := ⟨RX5, TX5, 12, "FolderRoundsModel", rfl, by decide, by rw [h]; exact gW_c5 2 rfl rfl, gws_6, Or.inl rfl⟩
theorem fl_R_34 (M : gM) (h : M.2.2.1 = "FolderRoundsModel") : gFl M 34 6 10 := ⟨RX5, TX5, 12, "FolderRoundsModel", rfl, by decide, by rw [h]; exact gW_c5 3 rfl rfl, gws_6, Or.inl rfl⟩
theorem fl_R_37 (M : gM) (h : M.2.2.1 = "FolderRoundsModel") : gFl M 37 6 0 := ⟨RX5, TX5, 12, "FolderRoundsModel", rfl, by decide, by rw [h]; exact gW_c4 233 rfl rfl, gws_6, Or.inl rfl⟩
theorem fl_R_63 (M : gM) (h : M.2.2.1 = "FolderRoundsModel") : gFl M 63 6 1 := ⟨RX5, TX5, 12, "FolderRoundsModel", rfl, by decide, by rw [h]; exact gW_c4 234 rfl rfl, gws_6, Or.inl rfl⟩
theorem fl_R_97 (M : gM) (h : M.2.2.1 = "FolderRoundsModel") : gFl M 97 6 11 := ⟨RX5, TX5, 12, "FolderRoundsModel", rfl, by decide, by rw [h]; exact gW_c5 4 rfl rfl, gws_6, Or.inl rfl⟩
theorem gw_aI : Cond.arrayClass .int ∈ gW := gW_c1 81 rfl rfl
theorem gw_aL : Cond.arrayClass .long ∈ gW := gW_c5 192 rfl rfl
end
section
/-! ===== decode rows ===== -/
theorem d_A_init_0 : gAl M_A_init 0 0 1 := Or.inr ⟨0, by decide +kernel, rfl, rfl⟩
theorem d_A_init_1 : gD M_A_init 1 (.invokespecial 1) 3 4 := ⟨by decide +kernel, rfl⟩
theorem cs_A_init_1 : gClI M_A_init 1 y_J_listInit M_J_listInit 0 := ⟨⟨gW_c1 50 rfl rfl, gW_c1 4 rfl rfl, cd_J_listInit, by decide +kernel, by decide +kernel⟩, rfl, gW_c1 51 rfl rfl, rfl, rfl⟩
theorem d_A_init_4 : gAl M_A_init 4 0 5 := Or.inr ⟨0, by decide +kernel, rfl, rfl⟩
theorem d_A_init_5 : gD M_A_init 5 (.getstatic 39) 3 8 := ⟨by decide +kernel, rfl⟩
theorem gs_A_init_5 : Cond.fieldLink M_A_init.2.2.1 39 "java/util/ArrayList" "DEFAULTCAPACITY_EMPTY_ELEMENTDATA" "[Ljava/lang/Object;" ∈ gW := gW_c1 57 rfl rfl
theorem d_A_init_8 : gPf M_A_init 8 0 1 (.array (.object "java/lang/Object")) 11 := ⟨9, by decide +kernel, rfl, RJx4a65c, TJx4a65c, 3, "java/util/ArrayList", tyJx4a65c, rfl, by decide, gW_c1 59 rfl rfl, gws_0, Or.inl rfl, tyJx4a65c_ok, nmJx4a65c, by decide +kernel, Or.inl rfl⟩
theorem d_A_init_11 : gD M_A_init 11 (.return_) 1 12 := ⟨by decide +kernel, rfl⟩
theorem d_J_listInit_0 : gAl M_J_listInit 0 0 1 := Or.inr ⟨0, by decide +kernel, rfl, rfl⟩
theorem d_J_listInit_1 : gD M_J_listInit 1 (.invokespecial 1) 3 4 := ⟨by decide +kernel, rfl⟩
theorem cs_J_listInit_1 : gClI M_J_listInit 1 y_J_collInit M_J_collInit 0 := ⟨⟨gW_c1 53 rfl rfl, gW_c1 3 rfl rfl, cd_J_collInit, by decide +kernel, by decide +kernel⟩, rfl, gW_c1 54 rfl rfl, rfl, rfl⟩
theorem d_J_listInit_4 : gAl M_J_listInit 4 0 5 := Or.inr ⟨0, by decide +kernel, rfl, rfl⟩
theorem d_J_listInit_5 : gN M_J_listInit 5 0 6 := Or.inl ⟨0, by decide +kernel, by decide, rfl⟩
theorem d_J_listInit_6 : gPf M_J_listInit 6 0 0 .int 9 := ⟨7, by decide +kernel, rfl, RJx4a65c, TJx4a65c, 3, "java/util/AbstractList", tyJx4a65c, rfl, by decide, gW_c1 61 rfl rfl, gws_0, Or.inl rfl, tyJx4a65c_ok, nmJx4a65c, by decide +kernel, Or.inl rfl⟩
theorem d_J_listInit_9 : gD M_J_listInit 9 (.return_) 1 10 := ⟨by decide +kernel, rfl⟩
theorem d_J_collInit_0 : gAl M_J_collInit 0 0 1 := Or.inr ⟨0, by decide +kernel, rfl, rfl⟩
theorem d_J_collInit_1 : gD M_J_collInit 1 (.invokespecial 1) 3 4 := ⟨by decide +kernel, rfl⟩
theorem oi_J_collInit_1 : Cond.methodLink M_J_collInit.2.2.1 1 objectInit ∈ gW ∧ Cond.instanceMethod objectInit ∈ gW ∧ Cond.code objectInit ⟨#[0xb1]⟩ 1 none ∈ gW := ⟨gW_c1 56 rfl rfl, gW_c1 36 rfl rfl, gW_c1 37 rfl rfl⟩
theorem d_J_collInit_4 : gD M_J_collInit 4 (.return_) 1 5 := ⟨by decide +kernel, rfl⟩
theorem d_J_copyOfRange_0 : gIl M_J_copyOfRange 0 1 1 := Or.inr ⟨1, by decide +kernel, rfl, rfl⟩
theorem d_J_copyOfRange_1 : gB M_J_copyOfRange 1 (.ifCond .ne 9) 9 4 10 := ⟨by decide +kernel, rfl, by decide⟩
theorem d_J_copyOfRange_4 : gIl M_J_copyOfRange 4 2 5 := Or.inr ⟨2, by decide +kernel, rfl, rfl⟩
theorem d_J_copyOfRange_5 : gAl M_J_copyOfRange 5 0 6 := Or.inr ⟨0, by decide +kernel, rfl, rfl⟩
theorem d_J_copyOfRange_6 : gD M_J_copyOfRange 6 (.arraylength) 1 7 := ⟨by decide +kernel, rfl⟩
theorem d_J_copyOfRange_7 : gB M_J_copyOfRange 7 (.if_icmp .eq 10) 10 10 17 := ⟨by decide +kernel, rfl, by decide⟩
theorem d_J_copyOfRange_10 : gAl M_J_copyOfRange 10 0 11 := Or.inr ⟨0, by decide +kernel, rfl, rfl⟩
theorem d_J_copyOfRange_11 : gIl M_J_copyOfRange 11 1 12 := Or.inr ⟨1, by decide +kernel, rfl, rfl⟩
theorem d_J_copyOfRange_12 : gIl M_J_copyOfRange 12 2 13 := Or.inr ⟨2, by decide +kernel, rfl, rfl⟩
theorem d_J_copyOfRange_13 : gD M_J_copyOfRange 13 (.invokestatic 351) 3 16 := ⟨by decide +kernel, rfl⟩
theorem d_J_copyOfRange_16 : gD M_J_copyOfRange 16 (.areturn) 1 17 := ⟨by decide +kernel, rfl⟩
theorem d_J_copyOfRange_17 : gAl M_J_copyOfRange 17 0 18 := Or.inr ⟨0, by decide +kernel, rfl, rfl⟩
theorem d_J_copyOfRange_18 : gD M_J_copyOfRange 18 (.invokevirtual 316) 3 21 := ⟨by decide +kernel, rfl⟩
theorem d_J_copyOfRange_21 : gD M_J_copyOfRange 21 (.checkcast 317) 3 24 := ⟨by decide +kernel, rfl⟩
theorem cl_J_copyOfRange_21 : Cond.classLink M_J_copyOfRange.2.2.1 317 "[I" ∈ gW := gW_c3 51 rfl rfl
theorem d_J_copyOfRange_24 : gD M_J_copyOfRange 24 (.areturn) 1 25 := ⟨by decide +kernel, rfl⟩
theorem d_J_newLength_0 : gIl M_J_newLength 0 0 1 := Or.inr ⟨0, by decide +kernel, rfl, rfl⟩
theorem d_J_newLength_1 : gIl M_J_newLength 1 1 2 := Or.inr ⟨1, by decide +kernel, rfl, rfl⟩
theorem d_J_newLength_2 : gIl M_J_newLength 2 2 3 := Or.inr ⟨2, by decide +kernel, rfl, rfl⟩
theorem d_J_newLength_3 : gD M_J_newLength 3 (.invokestatic 194) 3 6 := ⟨by decide +kernel, rfl⟩
theorem cs_J_newLength_3 : gClS M_J_newLength 194 y_J_max M_J_max 2 := ⟨⟨gW_c2 93 rfl rfl, gW_c1 23 rfl rfl, cd_J_max, by decide +kernel, by decide +kernel⟩, gW_c2 94 rfl rfl⟩
theorem d_J_newLength_6 : gD M_J_newLength 6 (.iadd) 1 7 := ⟨by decide +kernel, rfl⟩
theorem d_J_newLength_7 : gIs M_J_newLength 7 3 8 := Or.inr ⟨3, by decide +kernel, rfl, rfl⟩
theorem d_J_newLength_8 : gN M_J_newLength 8 0 9 := Or.inl ⟨0, by decide +kernel, by decide, rfl⟩
theorem d_J_newLength_9 : gIl M_J_newLength 9 3 10 := Or.inr ⟨3, by decide +kernel, rfl, rfl⟩
theorem d_J_newLength_10 : gB M_J_newLength 10 (.if_icmp .ge 11) 11 13 21 := ⟨by decide +kernel, rfl, by decide⟩
theorem d_J_newLength_13 : gIl M_J_newLength 13 3 14 := Or.inr ⟨3, by decide +kernel, rfl, rfl⟩
theorem d_J_newLength_14 : gN M_J_newLength 14 2147483639 16 := Or.inr (Or.inr (Or.inr ⟨200, by decide +kernel, gW_c2 96 rfl rfl, rfl⟩))
theorem d_J_newLength_16 : gB M_J_newLength 16 (.if_icmp .gt 5) 5 19 21 := ⟨by decide +kernel, rfl, by decide⟩
theorem d_J_newLength_19 : gIl M_J_newLength 19 3 20 := Or.inr ⟨3, by decide +kernel, rfl, rfl⟩
theorem d_J_newLength_20 : gD M_J_newLength 20 (.ireturn) 1 21 := ⟨by decide +kernel, rfl⟩
theorem d_J_newLength_21 : gIl M_J_newLength 21 0 22 := Or.inr ⟨0, by decide +kernel, rfl, rfl⟩
theorem d_J_newLength_22 : gIl M_J_newLength 22 1 23 := Or.inr ⟨1, by decide +kernel, rfl, rfl⟩
theorem d_J_newLength_23 : gD M_J_newLength 23 (.invokestatic 201) 3 26 := ⟨by decide +kernel, rfl⟩
theorem d_J_newLength_26 : gD M_J_newLength 26 (.ireturn) 1 27 := ⟨by decide +kernel, rfl⟩
theorem d_J_max_0 : gIl M_J_max 0 0 1 := Or.inr ⟨0, by decide +kernel, rfl, rfl⟩
theorem d_J_max_1 : gIl M_J_max 1 1 2 := Or.inr ⟨1, by decide +kernel, rfl, rfl⟩
theorem d_J_max_2 : gB M_J_max 2 (.if_icmp .lt 7) 7 5 9 := ⟨by decide +kernel, rfl, by decide⟩
theorem d_J_max_5 : gIl M_J_max 5 0 6 := Or.inr ⟨0, by decide +kernel, rfl, rfl⟩
theorem d_J_max_6 : gB M_J_max 6 (.goto 4) 4 9 10 := ⟨by decide +kernel, rfl, by decide⟩
theorem d_J_max_9 : gIl M_J_max 9 1 10 := Or.inr ⟨1, by decide +kernel, rfl, rfl⟩
theorem d_J_max_10 : gD M_J_max 10 (.ireturn) 1 11 := ⟨by decide +kernel, rfl⟩
theorem d_J_min_0 : gIl M_J_min 0 0 1 := Or.inr ⟨0, by decide +kernel, rfl, rfl⟩
theorem d_J_min_1 : gIl M_J_min 1 1 2 := Or.inr ⟨1, by decide +kernel, rfl, rfl⟩
theorem d_J_min_2 : gB M_J_min 2 (.if_icmp .gt 7) 7 5 9 := ⟨by decide +kernel, rfl, by decide⟩
theorem d_J_min_5 : gIl M_J_min 5 0 6 := Or.inr ⟨0, by decide +kernel, rfl, rfl⟩
theorem d_J_min_6 : gB M_J_min 6 (.goto 4) 4 9 10 := ⟨by decide +kernel, rfl, by decide⟩
theorem d_J_min_9 : gIl M_J_min 9 1 10 := Or.inr ⟨1, by decide +kernel, rfl, rfl⟩
theorem d_J_min_10 : gD M_J_min 10 (.ireturn) 1 11 := ⟨by decide +kernel, rfl⟩
theorem d_A_size_0 : gAl M_A_size 0 0 1 := Or.inr ⟨0, by decide +kernel, rfl, rfl⟩
theorem d_A_size_1 : gGf M_A_size 1 0 2 4 := ⟨48, by decide +kernel, rfl, fl_A_48 _ rfl⟩
theorem d_A_size_4 : gD M_A_size 4 (.ireturn) 1 5 := ⟨by decide +kernel, rfl⟩
theorem d_A_get_0 : gIl M_A_get 0 1 1 := Or.inr ⟨1, by decide +kernel, rfl, rfl⟩
theorem d_A_get_1 : gAl M_A_get 1 0 2 := Or.inr ⟨0, by decide +kernel, rfl, rfl⟩
theorem d_A_get_2 : gGf M_A_get 2 0 2 5 := ⟨48, by decide +kernel, rfl, fl_A_48 _ rfl⟩
theorem d_A_get_5 : gD M_A_get 5 (.invokestatic 118) 3 8 := ⟨by decide +kernel, rfl⟩
theorem cs_A_get_5 : gClS M_A_get 118 y_J_checkIndex M_J_checkIndex 2 := ⟨⟨gW_c3 101 rfl rfl, gW_c1 28 rfl rfl, cd_J_checkIndex, by decide +kernel, by decide +kernel⟩, gW_c3 102 rfl rfl⟩
theorem d_A_get_8 : gD M_A_get 8 (.pop) 1 9 := ⟨by decide +kernel, rfl⟩
theorem d_A_get_9 : gAl M_A_get 9 0 10 := Or.inr ⟨0, by decide +kernel, rfl, rfl⟩
theorem d_A_get_10 : gIl M_A_get 10 1 11 := Or.inr ⟨1, by decide +kernel, rfl, rfl⟩
theorem d_A_get_11 : gD M_A_get 11 (.invokevirtual 123) 3 14 := ⟨by decide +kernel, rfl⟩
theorem cs_A_get_11 : gClV M_A_get 123 0 y_A_elementData M_A_elementData 1 := ⟨⟨gW_c3 107 rfl rfl, gW_c1 5 rfl rfl, cd_A_elementData, by decide +kernel, by decide +kernel⟩, rfl, gW_c3 108 rfl rfl, gW_c3 109 rfl rfl, TJx4a65c, 3, rfl⟩
theorem d_A_get_14 : gD M_A_get 14 (.areturn) 1 15 := ⟨by decide +kernel, rfl⟩
theorem d_J_checkIndex_0 : gIl M_J_checkIndex 0 0 1 := Or.inr ⟨0, by decide +kernel, rfl, rfl⟩
theorem d_J_checkIndex_1 : gIl M_J_checkIndex 1 1 2 := Or.inr ⟨1, by decide +kernel, rfl, rfl⟩
theorem d_J_checkIndex_2 : gD M_J_checkIndex 2 (.aconst_null) 1 3 := ⟨by decide +kernel, rfl⟩
theorem d_J_checkIndex_3 : gD M_J_checkIndex 3 (.invokestatic 105) 3 6 := ⟨by decide +kernel, rfl⟩
theorem cs_J_checkIndex_3 : gClS M_J_checkIndex 105 y_J_pCheckIndex M_J_pCheckIndex 3 := ⟨⟨gW_c3 104 rfl rfl, gW_c1 25 rfl rfl, cd_J_pCheckIndex, by decide +kernel, by decide +kernel⟩, gW_c3 105 rfl rfl⟩
theorem d_J_checkIndex_6 : gD M_J_checkIndex 6 (.ireturn) 1 7 := ⟨by decide +kernel, rfl⟩
theorem d_J_pCheckIndex_0 : gIl M_J_pCheckIndex 0 0 1 := Or.inr ⟨0, by decide +kernel, rfl, rfl⟩
theorem d_J_pCheckIndex_1 : gB M_J_pCheckIndex 1 (.ifCond .lt 8) 8 4 9 := ⟨by decide +kernel, rfl, by decide⟩
theorem d_J_pCheckIndex_4 : gIl M_J_pCheckIndex 4 0 5 := Or.inr ⟨0, by decide +kernel, rfl, rfl⟩
theorem d_J_pCheckIndex_5 : gIl M_J_pCheckIndex 5 1 6 := Or.inr ⟨1, by decide +kernel, rfl, rfl⟩
theorem d_J_pCheckIndex_6 : gB M_J_pCheckIndex 6 (.if_icmp .lt 10) 10 9 16 := ⟨by decide +kernel, rfl, by decide⟩
theorem d_J_pCheckIndex_9 : gAl M_J_pCheckIndex 9 2 10 := Or.inr ⟨2, by decide +kernel, rfl, rfl⟩
theorem d_J_pCheckIndex_10 : gIl M_J_pCheckIndex 10 0 11 := Or.inr ⟨0, by decide +kernel, rfl, rfl⟩
theorem d_J_pCheckIndex_11 : gIl M_J_pCheckIndex 11 1 12 := Or.inr ⟨1, by decide +kernel, rfl, rfl⟩
-- J_pCheckIndex 12 .invokestatic 95: ('methodLink', 'jdk/internal/util/Preconditions', 95)
theorem d_J_pCheckIndex_15 : gD M_J_pCheckIndex 15 (.athrow) 1 16 := ⟨by decide +kernel, rfl⟩
theorem d_J_pCheckIndex_16 : gIl M_J_pCheckIndex 16 0 17 := Or.inr ⟨0, by decide +kernel, rfl, rfl⟩
theorem d_J_pCheckIndex_17 : gD M_J_pCheckIndex 17 (.ireturn) 1 18 := ⟨by decide +kernel, rfl⟩
theorem d_A_elementData_0 : gAl M_A_elementData 0 0 1 := Or.inr ⟨0, by decide +kernel, rfl, rfl⟩
theorem d_A_elementData_1 : gGf M_A_elementData 1 0 1 4 := ⟨9, by decide +kernel, rfl, fl_A_9 _ rfl⟩
theorem d_A_elementData_4 : gIl M_A_elementData 4 1 5 := Or.inr ⟨1, by decide +kernel, rfl, rfl⟩
theorem d_A_elementData_5 : gD M_A_elementData 5 (.aaload) 1 6 := ⟨by decide +kernel, rfl⟩
theorem d_A_elementData_6 : gD M_A_elementData 6 (.areturn) 1 7 := ⟨by decide +kernel, rfl⟩
theorem d_A_remove_0 : gIl M_A_remove 0 1 1 := Or.inr ⟨1, by decide +kernel, rfl, rfl⟩
theorem d_A_remove_1 : gAl M_A_remove 1 0 2 := Or.inr ⟨0, by decide +kernel, rfl, rfl⟩
theorem d_A_remove_2 : gGf M_A_remove 2 0 2 5 := ⟨48, by decide +kernel, rfl, fl_A_48 _ rfl⟩
theorem d_A_remove_5 : gD M_A_remove 5 (.invokestatic 118) 3 8 := ⟨by decide +kernel, rfl⟩
theorem cs_A_remove_5 : gClS M_A_remove 118 y_J_checkIndex M_J_checkIndex 2 := ⟨⟨gW_c3 101 rfl rfl, gW_c1 28 rfl rfl, cd_J_checkIndex, by decide +kernel, by decide +kernel⟩, gW_c3 102 rfl rfl⟩
theorem d_A_remove_8 : gD M_A_remove 8 (.pop) 1 9 := ⟨by decide +kernel, rfl⟩
theorem d_A_remove_9 : gAl M_A_remove 9 0 10 := Or.inr ⟨0, by decide +kernel, rfl, rfl⟩
theorem d_A_remove_10 : gGf M_A_remove 10 0 1 13 := ⟨9, by decide +kernel, rfl, fl_A_9 _ rfl⟩
theorem d_A_remove_13 : gAst M_A_remove 13 2 14 := Or.inr ⟨2, by decide +kernel, rfl, rfl⟩
theorem d_A_remove_14 : gAl M_A_remove 14 2 15 := Or.inr ⟨2, by decide +kernel, rfl, rfl⟩
theorem d_A_remove_15 : gIl M_A_remove 15 1 16 := Or.inr ⟨1, by decide +kernel, rfl, rfl⟩
theorem d_A_remove_16 : gD M_A_remove 16 (.aaload) 1 17 := ⟨by decide +kernel, rfl⟩
theorem d_A_remove_17 : gAst M_A_remove 17 3 18 := Or.inr ⟨3, by decide +kernel, rfl, rfl⟩
theorem d_A_remove_18 : gAl M_A_remove 18 0 19 := Or.inr ⟨0, by decide +kernel, rfl, rfl⟩
theorem d_A_remove_19 : gAl M_A_remove 19 2 20 := Or.inr ⟨2, by decide +kernel, rfl, rfl⟩
theorem d_A_remove_20 : gIl M_A_remove 20 1 21 := Or.inr ⟨1, by decide +kernel, rfl, rfl⟩
theorem d_A_remove_21 : gD M_A_remove 21 (.invokevirtual 144) 3 24 := ⟨by decide +kernel, rfl⟩
theorem cs_A_remove_21 : gClV M_A_remove 144 0 y_A_fastRemove M_A_fastRemove 2 := ⟨⟨gW_c3 123 rfl rfl, gW_c1 5 rfl rfl, cd_A_fastRemove, by decide +kernel, by decide +kernel⟩, rfl, gW_c3 125 rfl rfl, gW_c0 2 rfl rfl, TJx4a65c, 3, rfl⟩
theorem d_A_remove_24 : gAl M_A_remove 24 3 25 := Or.inr ⟨3, by decide +kernel, rfl, rfl⟩
theorem d_A_remove_25 : gD M_A_remove 25 (.areturn) 1 26 := ⟨by decide +kernel, rfl⟩
theorem d_A_fastRemove_0 : gAl M_A_fastRemove 0 0 1 := Or.inr ⟨0, by decide +kernel, rfl, rfl⟩
theorem d_A_fastRemove_1 : gD M_A_fastRemove 1 (.dup) 1 2 := ⟨by decide +kernel, rfl⟩
theorem d_A_fastRemove_2 : gGf M_A_fastRemove 2 0 0 5 := ⟨63, by decide +kernel, rfl, fl_A_63 _ rfl⟩
theorem d_A_fastRemove_5 : gN M_A_fastRemove 5 1 6 := Or.inl ⟨1, by decide +kernel, by decide, rfl⟩
theorem d_A_fastRemove_6 : gD M_A_fastRemove 6 (.iadd) 1 7 := ⟨by decide +kernel, rfl⟩
theorem d_A_fastRemove_7 : gPf M_A_fastRemove 7 0 0 .int 10 := ⟨63, by decide +kernel, rfl, RJx4a65c, TJx4a65c, 3, "java/util/ArrayList", tyJx4a65c, rfl, by decide, gW_c1 62 rfl rfl, gws_0, Or.inr (gW_c1 63 rfl rfl), tyJx4a65c_ok, nmJx4a65c, by decide +kernel, Or.inl rfl⟩
theorem d_A_fastRemove_10 : gAl M_A_fastRemove 10 0 11 := Or.inr ⟨0, by decide +kernel, rfl, rfl⟩
theorem d_A_fastRemove_11 : gGf M_A_fastRemove 11 0 2 14 := ⟨48, by decide +kernel, rfl, fl_A_48 _ rfl⟩
theorem d_A_fastRemove_14 : gN M_A_fastRemove 14 1 15 := Or.inl ⟨1, by decide +kernel, by decide, rfl⟩
theorem d_A_fastRemove_15 : gD M_A_fastRemove 15 (.isub) 1 16 := ⟨by decide +kernel, rfl⟩
theorem d_A_fastRemove_16 : gD M_A_fastRemove 16 (.dup) 1 17 := ⟨by decide +kernel, rfl⟩
theorem d_A_fastRemove_17 : gIs M_A_fastRemove 17 3 18 := Or.inr ⟨3, by decide +kernel, rfl, rfl⟩
theorem d_A_fastRemove_18 : gIl M_A_fastRemove 18 2 19 := Or.inr ⟨2, by decide +kernel, rfl, rfl⟩
theorem d_A_fastRemove_19 : gB M_A_fastRemove 19 (.if_icmp .le 15) 15 22 34 := ⟨by decide +kernel, rfl, by decide⟩
theorem d_A_fastRemove_22 : gAl M_A_fastRemove 22 1 23 := Or.inr ⟨1, by decide +kernel, rfl, rfl⟩
theorem d_A_fastRemove_23 : gIl M_A_fastRemove 23 2 24 := Or.inr ⟨2, by decide +kernel, rfl, rfl⟩
theorem d_A_fastRemove_24 : gN M_A_fastRemove 24 1 25 := Or.inl ⟨1, by decide +kernel, by decide, rfl⟩
theorem d_A_fastRemove_25 : gD M_A_fastRemove 25 (.iadd) 1 26 := ⟨by decide +kernel, rfl⟩
theorem d_A_fastRemove_26 : gAl M_A_fastRemove 26 1 27 := Or.inr ⟨1, by decide +kernel, rfl, rfl⟩
theorem d_A_fastRemove_27 : gIl M_A_fastRemove 27 2 28 := Or.inr ⟨2, by decide +kernel, rfl, rfl⟩
theorem d_A_fastRemove_28 : gIl M_A_fastRemove 28 3 29 := Or.inr ⟨3, by decide +kernel, rfl, rfl⟩
theorem d_A_fastRemove_29 : gIl M_A_fastRemove 29 2 30 := Or.inr ⟨2, by decide +kernel, rfl, rfl⟩
theorem d_A_fastRemove_30 : gD M_A_fastRemove 30 (.isub) 1 31 := ⟨by decide +kernel, rfl⟩
theorem d_A_fastRemove_31 : gD M_A_fastRemove 31 (.invokestatic 112) 3 34 := ⟨by decide +kernel, rfl⟩
theorem cp_A_fastRemove_31 : gCpW M_A_fastRemove 112 := ⟨gW_c3 127 rfl rfl, gW_c2 116 rfl rfl, gW_c2 115 rfl rfl, gW_c1 24 rfl rfl⟩
theorem d_A_fastRemove_34 : gAl M_A_fastRemove 34 1 35 := Or.inr ⟨1, by decide +kernel, rfl, rfl⟩
theorem d_A_fastRemove_35 : gAl M_A_fastRemove 35 0 36 := Or.inr ⟨0, by decide +kernel, rfl, rfl⟩
theorem d_A_fastRemove_36 : gIl M_A_fastRemove 36 3 37 := Or.inr ⟨3, by decide +kernel, rfl, rfl⟩
theorem d_A_fastRemove_37 : gD M_A_fastRemove 37 (.dup_x1) 1 38 := ⟨by decide +kernel, rfl⟩
theorem d_A_fastRemove_38 : gPf M_A_fastRemove 38 0 2 .int 41 := ⟨48, by decide +kernel, rfl, RJx4a65c, TJx4a65c, 3, "java/util/ArrayList", tyJx4a65c, rfl, by decide, gW_c1 60 rfl rfl, gws_0, Or.inl rfl, tyJx4a65c_ok, nmJx4a65c, by decide +kernel, Or.inl rfl⟩
theorem d_A_fastRemove_41 : gD M_A_fastRemove 41 (.aconst_null) 1 42 := ⟨by decide +kernel, rfl⟩
theorem d_A_fastRemove_42 : gD M_A_fastRemove 42 (.aastore) 1 43 := ⟨by decide +kernel, rfl⟩
theorem d_A_fastRemove_43 : gD M_A_fastRemove 43 (.return_) 1 44 := ⟨by decide +kernel, rfl⟩
theorem d_J_compare_0 : gIl M_J_compare 0 0 1 := Or.inr ⟨0, by decide +kernel, rfl, rfl⟩
theorem d_J_compare_1 : gIl M_J_compare 1 1 2 := Or.inr ⟨1, by decide +kernel, rfl, rfl⟩
theorem d_J_compare_2 : gB M_J_compare 2 (.if_icmp .ge 7) 7 5 9 := ⟨by decide +kernel, rfl, by decide⟩
theorem d_J_compare_5 : gN M_J_compare 5 (-1) 6 := Or.inl ⟨(-1), by decide +kernel, by decide, rfl⟩
theorem d_J_compare_6 : gB M_J_compare 6 (.goto 13) 13 9 19 := ⟨by decide +kernel, rfl, by decide⟩
theorem d_J_compare_9 : gIl M_J_compare 9 0 10 := Or.inr ⟨0, by decide +kernel, rfl, rfl⟩
theorem d_J_compare_10 : gIl M_J_compare 10 1 11 := Or.inr ⟨1, by decide +kernel, rfl, rfl⟩
theorem d_J_compare_11 : gB M_J_compare 11 (.if_icmp .ne 7) 7 14 18 := ⟨by decide +kernel, rfl, by decide⟩
theorem d_J_compare_14 : gN M_J_compare 14 0 15 := Or.inl ⟨0, by decide +kernel, by decide, rfl⟩
theorem d_J_compare_15 : gB M_J_compare 15 (.goto 4) 4 18 19 := ⟨by decide +kernel, rfl, by decide⟩
theorem d_J_compare_18 : gN M_J_compare 18 1 19 := Or.inl ⟨1, by decide +kernel, by decide, rfl⟩
theorem d_J_compare_19 : gD M_J_compare 19 (.ireturn) 1 20 := ⟨by decide +kernel, rfl⟩
theorem d_A_addAt_0 : gAl M_A_addAt 0 0 1 := Or.inr ⟨0, by decide +kernel, rfl, rfl⟩
theorem d_A_addAt_1 : gIl M_A_addAt 1 1 2 := Or.inr ⟨1, by decide +kernel, rfl, rfl⟩
theorem d_A_addAt_2 : gD M_A_addAt 2 (.invokevirtual 135) 3 5 := ⟨by decide +kernel, rfl⟩
theorem cs_A_addAt_2 : gClV M_A_addAt 135 0 y_A_rangeCheckForAdd M_A_rangeCheckForAdd 1 := ⟨⟨gW_c3 143 rfl rfl, gW_c1 5 rfl rfl, cd_A_rangeCheckForAdd, by decide +kernel, by decide +kernel⟩, rfl, gW_c3 145 rfl rfl, gW_c0 3 rfl rfl, TJx4a65c, 3, rfl⟩
theorem d_A_addAt_5 : gAl M_A_addAt 5 0 6 := Or.inr ⟨0, by decide +kernel, rfl, rfl⟩
theorem d_A_addAt_6 : gD M_A_addAt 6 (.dup) 1 7 := ⟨by decide +kernel, rfl⟩
theorem d_A_addAt_7 : gGf M_A_addAt 7 0 0 10 := ⟨63, by decide +kernel, rfl, fl_A_63 _ rfl⟩
theorem d_A_addAt_10 : gN M_A_addAt 10 1 11 := Or.inl ⟨1, by decide +kernel, by decide, rfl⟩
theorem d_A_addAt_11 : gD M_A_addAt 11 (.iadd) 1 12 := ⟨by decide +kernel, rfl⟩
theorem d_A_addAt_12 : gPf M_A_addAt 12 0 0 .int 15 := ⟨63, by decide +kernel, rfl, RJx4a65c, TJx4a65c, 3, "java/util/ArrayList", tyJx4a65c, rfl, by decide, gW_c1 62 rfl rfl, gws_0, Or.inr (gW_c1 63 rfl rfl), tyJx4a65c_ok, nmJx4a65c, by decide +kernel, Or.inl rfl⟩
theorem d_A_addAt_15 : gAl M_A_addAt 15 0 16 := Or.inr ⟨0, by decide +kernel, rfl, rfl⟩
theorem d_A_addAt_16 : gGf M_A_addAt 16 0 2 19 := ⟨48, by decide +kernel, rfl, fl_A_48 _ rfl⟩
theorem d_A_addAt_19 : gD M_A_addAt 19 (.dup) 1 20 := ⟨by decide +kernel, rfl⟩
theorem d_A_addAt_20 : gIs M_A_addAt 20 3 21 := Or.inr ⟨3, by decide +kernel, rfl, rfl⟩
theorem d_A_addAt_21 : gAl M_A_addAt 21 0 22 := Or.inr ⟨0, by decide +kernel, rfl, rfl⟩
theorem d_A_addAt_22 : gGf M_A_addAt 22 0 1 25 := ⟨9, by decide +kernel, rfl, fl_A_9 _ rfl⟩
theorem d_A_addAt_25 : gD M_A_addAt 25 (.dup) 1 26 := ⟨by decide +kernel, rfl⟩
theorem d_A_addAt_26 : gAst M_A_addAt 26 4 28 := Or.inl ⟨by decide +kernel, rfl⟩
theorem d_A_addAt_28 : gD M_A_addAt 28 (.arraylength) 1 29 := ⟨by decide +kernel, rfl⟩
theorem d_A_addAt_29 : gB M_A_addAt 29 (.if_icmp .ne 9) 9 32 38 := ⟨by decide +kernel, rfl, by decide⟩
theorem d_A_addAt_32 : gAl M_A_addAt 32 0 33 := Or.inr ⟨0, by decide +kernel, rfl, rfl⟩
theorem d_A_addAt_33 : gD M_A_addAt 33 (.invokevirtual 129) 3 36 := ⟨by decide +kernel, rfl⟩
theorem cs_A_addAt_33 : gClV M_A_addAt 129 0 y_A_grow0 M_A_grow0 0 := ⟨⟨gW_c3 173 rfl rfl, gW_c1 5 rfl rfl, cd_A_grow0, by decide +kernel, by decide +kernel⟩, rfl, gW_c3 175 rfl rfl, gW_c0 5 rfl rfl, TJx4a65c, 3, rfl⟩
theorem d_A_addAt_36 : gAst M_A_addAt 36 4 38 := Or.inl ⟨by decide +kernel, rfl⟩
theorem d_A_addAt_38 : gAl M_A_addAt 38 4 40 := Or.inl ⟨by decide +kernel, rfl⟩
theorem d_A_addAt_40 : gIl M_A_addAt 40 1 41 := Or.inr ⟨1, by decide +kernel, rfl, rfl⟩
theorem d_A_addAt_41 : gAl M_A_addAt 41 4 43 := Or.inl ⟨by decide +kernel, rfl⟩
theorem d_A_addAt_43 : gIl M_A_addAt 43 1 44 := Or.inr ⟨1, by decide +kernel, rfl, rfl⟩
theorem d_A_addAt_44 : gN M_A_addAt 44 1 45 := Or.inl ⟨1, by decide +kernel, by decide, rfl⟩
theorem d_A_addAt_45 : gD M_A_addAt 45 (.iadd) 1 46 := ⟨by decide +kernel, rfl⟩
theorem d_A_addAt_46 : gIl M_A_addAt 46 3 47 := Or.inr ⟨3, by decide +kernel, rfl, rfl⟩
theorem d_A_addAt_47 : gIl M_A_addAt 47 1 48 := Or.inr ⟨1, by decide +kernel, rfl, rfl⟩
theorem d_A_addAt_48 : gD M_A_addAt 48 (.isub) 1 49 := ⟨by decide +kernel, rfl⟩
theorem d_A_addAt_49 : gD M_A_addAt 49 (.invokestatic 112) 3 52 := ⟨by decide +kernel, rfl⟩
theorem cp_A_addAt_49 : gCpW M_A_addAt 112 := ⟨gW_c3 127 rfl rfl, gW_c2 116 rfl rfl, gW_c2 115 rfl rfl, gW_c1 24 rfl rfl⟩
theorem d_A_addAt_52 : gAl M_A_addAt 52 4 54 := Or.inl ⟨by decide +kernel, rfl⟩
theorem d_A_addAt_54 : gIl M_A_addAt 54 1 55 := Or.inr ⟨1, by decide +kernel, rfl, rfl⟩
theorem d_A_addAt_55 : gAl M_A_addAt 55 2 56 := Or.inr ⟨2, by decide +kernel, rfl, rfl⟩
theorem d_A_addAt_56 : gD M_A_addAt 56 (.aastore) 1 57 := ⟨by decide +kernel, rfl⟩
theorem d_A_addAt_57 : gAl M_A_addAt 57 0 58 := Or.inr ⟨0, by decide +kernel, rfl, rfl⟩
theorem d_A_addAt_58 : gIl M_A_addAt 58 3 59 := Or.inr ⟨3, by decide +kernel, rfl, rfl⟩
theorem d_A_addAt_59 : gN M_A_addAt 59 1 60 := Or.inl ⟨1, by decide +kernel, by decide, rfl⟩
theorem d_A_addAt_60 : gD M_A_addAt 60 (.iadd) 1 61 := ⟨by decide +kernel, rfl⟩
theorem d_A_addAt_61 : gPf M_A_addAt 61 0 2 .int 64 := ⟨48, by decide +kernel, rfl, RJx4a65c, TJx4a65c, 3, "java/util/ArrayList", tyJx4a65c, rfl, by decide, gW_c1 60 rfl rfl, gws_0, Or.inl rfl, tyJx4a65c_ok, nmJx4a65c, by decide +kernel, Or.inl rfl⟩
theorem d_A_addAt_64 : gD M_A_addAt 64 (.return_) 1 65 := ⟨by decide +kernel, rfl⟩
theorem d_A_rangeCheckForAdd_0 : gIl M_A_rangeCheckForAdd 0 1 1 := Or.inr ⟨1, by decide +kernel, rfl, rfl⟩
theorem d_A_rangeCheckForAdd_1 : gAl M_A_rangeCheckForAdd 1 0 2 := Or.inr ⟨0, by decide +kernel, rfl, rfl⟩
theorem d_A_rangeCheckForAdd_2 : gGf M_A_rangeCheckForAdd 2 0 2 5 := ⟨48, by decide +kernel, rfl, fl_A_48 _ rfl⟩
theorem d_A_rangeCheckForAdd_5 : gB M_A_rangeCheckForAdd 5 (.if_icmp .gt 7) 7 8 12 := ⟨by decide +kernel, rfl, by decide⟩
theorem d_A_rangeCheckForAdd_8 : gIl M_A_rangeCheckForAdd 8 1 9 := Or.inr ⟨1, by decide +kernel, rfl, rfl⟩
theorem d_A_rangeCheckForAdd_9 : gB M_A_rangeCheckForAdd 9 (.ifCond .ge 16) 16 12 25 := ⟨by decide +kernel, rfl, by decide⟩
theorem d_A_rangeCheckForAdd_15 : gD M_A_rangeCheckForAdd 15 (.dup) 1 16 := ⟨by decide +kernel, rfl⟩
theorem d_A_rangeCheckForAdd_16 : gAl M_A_rangeCheckForAdd 16 0 17 := Or.inr ⟨0, by decide +kernel, rfl, rfl⟩
theorem d_A_rangeCheckForAdd_17 : gIl M_A_rangeCheckForAdd 17 1 18 := Or.inr ⟨1, by decide +kernel, rfl, rfl⟩
theorem d_A_rangeCheckForAdd_18 : gD M_A_rangeCheckForAdd 18 (.invokevirtual 198) 3 21 := ⟨by decide +kernel, rfl⟩
theorem d_A_rangeCheckForAdd_21 : gD M_A_rangeCheckForAdd 21 (.invokespecial 193) 3 24 := ⟨by decide +kernel, rfl⟩
theorem d_A_rangeCheckForAdd_24 : gD M_A_rangeCheckForAdd 24 (.athrow) 1 25 := ⟨by decide +kernel, rfl⟩
theorem d_A_rangeCheckForAdd_25 : gD M_A_rangeCheckForAdd 25 (.return_) 1 26 := ⟨by decide +kernel, rfl⟩
theorem d_A_grow0_0 : gAl M_A_grow0 0 0 1 := Or.inr ⟨0, by decide +kernel, rfl, rfl⟩
theorem d_A_grow0_1 : gAl M_A_grow0 1 0 2 := Or.inr ⟨0, by decide +kernel, rfl, rfl⟩
theorem d_A_grow0_2 : gGf M_A_grow0 2 0 2 5 := ⟨48, by decide +kernel, rfl, fl_A_48 _ rfl⟩
theorem d_A_grow0_5 : gN M_A_grow0 5 1 6 := Or.inl ⟨1, by decide +kernel, by decide, rfl⟩
theorem d_A_grow0_6 : gD M_A_grow0 6 (.iadd) 1 7 := ⟨by decide +kernel, rfl⟩
theorem d_A_grow0_7 : gD M_A_grow0 7 (.invokevirtual 69) 3 10 := ⟨by decide +kernel, rfl⟩
theorem cs_A_grow0_7 : gClV M_A_grow0 69 0 y_A_grow M_A_grow 1 := ⟨⟨gW_c3 177 rfl rfl, gW_c1 5 rfl rfl, cd_A_grow, by decide +kernel, by decide +kernel⟩, rfl, gW_c3 179 rfl rfl, gW_c0 6 rfl rfl, TJx4a65c, 3, rfl⟩
theorem d_A_grow0_10 : gD M_A_grow0 10 (.areturn) 1 11 := ⟨by decide +kernel, rfl⟩
theorem d_A_grow_0 : gAl M_A_grow 0 0 1 := Or.inr ⟨0, by decide +kernel, rfl, rfl⟩
theorem d_A_grow_1 : gGf M_A_grow 1 0 1 4 := ⟨9, by decide +kernel, rfl, fl_A_9 _ rfl⟩
theorem d_A_grow_4 : gD M_A_grow 4 (.arraylength) 1 5 := ⟨by decide +kernel, rfl⟩
theorem d_A_grow_5 : gIs M_A_grow 5 2 6 := Or.inr ⟨2, by decide +kernel, rfl, rfl⟩
theorem d_A_grow_6 : gIl M_A_grow 6 2 7 := Or.inr ⟨2, by decide +kernel, rfl, rfl⟩
theorem d_A_grow_7 : gB M_A_grow 7 (.ifCond .gt 13) 13 10 20 := ⟨by decide +kernel, rfl, by decide⟩
theorem d_A_grow_10 : gAl M_A_grow 10 0 11 := Or.inr ⟨0, by decide +kernel, rfl, rfl⟩
theorem d_A_grow_11 : gGf M_A_grow 11 0 1 14 := ⟨9, by decide +kernel, rfl, fl_A_9 _ rfl⟩
theorem d_A_grow_14 : gD M_A_grow 14 (.getstatic 39) 3 17 := ⟨by decide +kernel, rfl⟩
theorem gs_A_grow_14 : Cond.fieldLink M_A_grow.2.2.1 39 "java/util/ArrayList" "DEFAULTCAPACITY_EMPTY_ELEMENTDATA" "[Ljava/lang/Object;" ∈ gW := gW_c1 57 rfl rfl
theorem d_A_grow_17 : gB M_A_grow 17 (.if_acmp .eq 28) 28 20 45 := ⟨by decide +kernel, rfl, by decide⟩
theorem d_A_grow_20 : gIl M_A_grow 20 2 21 := Or.inr ⟨2, by decide +kernel, rfl, rfl⟩
theorem d_A_grow_21 : gIl M_A_grow 21 1 22 := Or.inr ⟨1, by decide +kernel, rfl, rfl⟩
theorem d_A_grow_22 : gIl M_A_grow 22 2 23 := Or.inr ⟨2, by decide +kernel, rfl, rfl⟩
theorem d_A_grow_23 : gD M_A_grow 23 (.isub) 1 24 := ⟨by decide +kernel, rfl⟩
theorem d_A_grow_24 : gIl M_A_grow 24 2 25 := Or.inr ⟨2, by decide +kernel, rfl, rfl⟩
theorem d_A_grow_25 : gN M_A_grow 25 1 26 := Or.inl ⟨1, by decide +kernel, by decide, rfl⟩
theorem d_A_grow_26 : gD M_A_grow 26 (.ishr) 1 27 := ⟨by decide +kernel, rfl⟩
theorem d_A_grow_27 : gD M_A_grow 27 (.invokestatic 73) 3 30 := ⟨by decide +kernel, rfl⟩
theorem cs_A_grow_27 : gClS M_A_grow 73 y_J_newLength M_J_newLength 3 := ⟨⟨gW_c3 181 rfl rfl, gW_c1 22 rfl rfl, cd_J_newLength, by decide +kernel, by decide +kernel⟩, gW_c2 91 rfl rfl⟩
theorem d_A_grow_30 : gIs M_A_grow 30 3 31 := Or.inr ⟨3, by decide +kernel, rfl, rfl⟩
theorem d_A_grow_31 : gAl M_A_grow 31 0 32 := Or.inr ⟨0, by decide +kernel, rfl, rfl⟩
theorem d_A_grow_32 : gAl M_A_grow 32 0 33 := Or.inr ⟨0, by decide +kernel, rfl, rfl⟩
theorem d_A_grow_33 : gGf M_A_grow 33 0 1 36 := ⟨9, by decide +kernel, rfl, fl_A_9 _ rfl⟩
theorem d_A_grow_36 : gIl M_A_grow 36 3 37 := Or.inr ⟨3, by decide +kernel, rfl, rfl⟩
theorem d_A_grow_37 : gD M_A_grow 37 (.invokestatic 66) 3 40 := ⟨by decide +kernel, rfl⟩
theorem cs_A_grow_37 : gClS M_A_grow 66 y_J_copyOf M_J_copyOf 2 := ⟨⟨gW_c3 182 rfl rfl, gW_c1 15 rfl rfl, cd_J_copyOf, by decide +kernel, by decide +kernel⟩, gW_c3 183 rfl rfl⟩
theorem d_A_grow_40 : gD M_A_grow 40 (.dup_x1) 1 41 := ⟨by decide +kernel, rfl⟩
theorem d_A_grow_41 : gPf M_A_grow 41 0 1 (.array (.object "java/lang/Object")) 44 := ⟨9, by decide +kernel, rfl, RJx4a65c, TJx4a65c, 3, "java/util/ArrayList", tyJx4a65c, rfl, by decide, gW_c1 59 rfl rfl, gws_0, Or.inl rfl, tyJx4a65c_ok, nmJx4a65c, by decide +kernel, Or.inl rfl⟩
theorem d_A_grow_44 : gD M_A_grow 44 (.areturn) 1 45 := ⟨by decide +kernel, rfl⟩
theorem d_A_grow_45 : gAl M_A_grow 45 0 46 := Or.inr ⟨0, by decide +kernel, rfl, rfl⟩
theorem d_A_grow_46 : gN M_A_grow 46 10 48 := Or.inr (Or.inl ⟨10, by decide +kernel, by decide, rfl⟩)
theorem d_A_grow_48 : gIl M_A_grow 48 1 49 := Or.inr ⟨1, by decide +kernel, rfl, rfl⟩
theorem d_A_grow_49 : gD M_A_grow 49 (.invokestatic 79) 3 52 := ⟨by decide +kernel, rfl⟩
theorem cs_A_grow_49 : gClS M_A_grow 79 y_J_max M_J_max 2 := ⟨⟨gW_c3 208 rfl rfl, gW_c1 23 rfl rfl, cd_J_max, by decide +kernel, by decide +kernel⟩, gW_c2 94 rfl rfl⟩
theorem d_A_grow_52 : gD M_A_grow 52 (.anewarray 7) 3 55 := ⟨by decide +kernel, rfl⟩
theorem cl_A_grow_52 : Cond.classLink M_A_grow.2.2.1 7 "java/lang/Object" ∈ gW := gW_c3 209 rfl rfl
theorem d_A_grow_55 : gD M_A_grow 55 (.dup_x1) 1 56 := ⟨by decide +kernel, rfl⟩
theorem d_A_grow_56 : gPf M_A_grow 56 0 1 (.array (.object "java/lang/Object")) 59 := ⟨9, by decide +kernel, rfl, RJx4a65c, TJx4a65c, 3, "java/util/ArrayList", tyJx4a65c, rfl, by decide, gW_c1 59 rfl rfl, gws_0, Or.inl rfl, tyJx4a65c_ok, nmJx4a65c, by decide +kernel, Or.inl rfl⟩
theorem d_A_grow_59 : gD M_A_grow 59 (.areturn) 1 60 := ⟨by decide +kernel, rfl⟩
theorem d_J_copyOf_0 : gAl M_J_copyOf 0 0 1 := Or.inr ⟨0, by decide +kernel, rfl, rfl⟩
theorem d_J_copyOf_1 : gIl M_J_copyOf 1 1 2 := Or.inr ⟨1, by decide +kernel, rfl, rfl⟩
theorem d_J_copyOf_2 : gAl M_J_copyOf 2 0 3 := Or.inr ⟨0, by decide +kernel, rfl, rfl⟩
theorem d_J_copyOf_3 : gD M_J_copyOf 3 (.invokevirtual 86) 3 6 := ⟨by decide +kernel, rfl⟩
-- getClass at J_copyOf 3 (1213, ('java/lang/Object', 'getClass', '()Ljava/lang/Class;'))
theorem gc_J_copyOf_3 : Cond.methodLink M_J_copyOf.2.2.1 86 ⟨"java/lang/Object", "getClass", "()Ljava/lang/Class;"⟩ ∈ gW ∧ Cond.selects "[Ljava/lang/Object;" ⟨"java/lang/Object", "getClass", "()Ljava/lang/Class;"⟩ ⟨"java/lang/Object", "getClass", "()Ljava/lang/Class;"⟩ ∈ gW ∧ Cond.instanceMethod ⟨"java/lang/Object", "getClass", "()Ljava/lang/Class;"⟩ ∈ gW ∧ Cond.native ⟨"java/lang/Object", "getClass", "()Ljava/lang/Class;"⟩ ∈ gW := ⟨gW_c3 185 rfl rfl, gW_c5 217 rfl rfl, gW_c3 186 rfl rfl, gW_c3 201 rfl rfl⟩
theorem d_J_copyOf_6 : gD M_J_copyOf 6 (.invokestatic 300) 3 9 := ⟨by decide +kernel, rfl⟩
theorem cs_J_copyOf_6 : gClS M_J_copyOf 300 y_J_copyOf3 M_J_copyOf3 3 := ⟨⟨gW_c3 202 rfl rfl, gW_c1 15 rfl rfl, cd_J_copyOf3, by decide +kernel, by decide +kernel⟩, gW_c3 203 rfl rfl⟩
theorem d_J_copyOf_9 : gD M_J_copyOf 9 (.areturn) 1 10 := ⟨by decide +kernel, rfl⟩
theorem d_J_copyOf3_0 : gAl M_J_copyOf3 0 2 1 := Or.inr ⟨2, by decide +kernel, rfl, rfl⟩
theorem d_J_copyOf3_1 : gD M_J_copyOf3 1 (.ldc 110) 2 3 := ⟨by decide +kernel, rfl⟩
theorem cl_J_copyOf3_1 : Cond.classLink M_J_copyOf3.2.2.1 110 "[Ljava/lang/Object;" ∈ gW := gW_c3 205 rfl rfl
theorem d_J_copyOf3_3 : gB M_J_copyOf3 3 (.if_acmp .ne 10) 10 6 13 := ⟨by decide +kernel, rfl, by decide⟩
theorem d_J_copyOf3_6 : gIl M_J_copyOf3 6 1 7 := Or.inr ⟨1, by decide +kernel, rfl, rfl⟩
theorem d_J_copyOf3_7 : gD M_J_copyOf3 7 (.anewarray 2) 3 10 := ⟨by decide +kernel, rfl⟩
theorem cl_J_copyOf3_7 : Cond.classLink M_J_copyOf3.2.2.1 2 "java/lang/Object" ∈ gW := gW_c3 207 rfl rfl
theorem d_J_copyOf3_10 : gB M_J_copyOf3 10 (.goto 14) 14 13 24 := ⟨by decide +kernel, rfl, by decide⟩
theorem d_J_copyOf3_13 : gAl M_J_copyOf3 13 2 14 := Or.inr ⟨2, by decide +kernel, rfl, rfl⟩
-- J_copyOf3 14 .invokevirtual 90: ('methodLink', 'java/util/Arrays', 90)
theorem d_J_copyOf3_17 : gIl M_J_copyOf3 17 1 18 := Or.inr ⟨1, by decide +kernel, rfl, rfl⟩
-- J_copyOf3 18 .invokestatic 95: ('methodLink', 'java/util/Arrays', 95)
theorem d_J_copyOf3_21 : gD M_J_copyOf3 21 (.checkcast 110) 3 24 := ⟨by decide +kernel, rfl⟩
theorem cl_J_copyOf3_21 : Cond.classLink M_J_copyOf3.2.2.1 110 "[Ljava/lang/Object;" ∈ gW := gW_c3 205 rfl rfl
theorem d_J_copyOf3_24 : gAst M_J_copyOf3 24 3 25 := Or.inr ⟨3, by decide +kernel, rfl, rfl⟩
theorem d_J_copyOf3_25 : gAl M_J_copyOf3 25 0 26 := Or.inr ⟨0, by decide +kernel, rfl, rfl⟩
theorem d_J_copyOf3_26 : gN M_J_copyOf3 26 0 27 := Or.inl ⟨0, by decide +kernel, by decide, rfl⟩
theorem d_J_copyOf3_27 : gAl M_J_copyOf3 27 3 28 := Or.inr ⟨3, by decide +kernel, rfl, rfl⟩
theorem d_J_copyOf3_28 : gN M_J_copyOf3 28 0 29 := Or.inl ⟨0, by decide +kernel, by decide, rfl⟩
theorem d_J_copyOf3_29 : gAl M_J_copyOf3 29 0 30 := Or.inr ⟨0, by decide +kernel, rfl, rfl⟩
theorem d_J_copyOf3_30 : gD M_J_copyOf3 30 (.arraylength) 1 31 := ⟨by decide +kernel, rfl⟩
theorem d_J_copyOf3_31 : gIl M_J_copyOf3 31 1 32 := Or.inr ⟨1, by decide +kernel, rfl, rfl⟩
theorem d_J_copyOf3_32 : gD M_J_copyOf3 32 (.invokestatic 304) 3 35 := ⟨by decide +kernel, rfl⟩
theorem cs_J_copyOf3_32 : gClS M_J_copyOf3 304 y_J_min M_J_min 2 := ⟨⟨gW_c2 111 rfl rfl, gW_c1 23 rfl rfl, cd_J_min, by decide +kernel, by decide +kernel⟩, gW_c2 112 rfl rfl⟩
theorem d_J_copyOf3_35 : gD M_J_copyOf3 35 (.invokestatic 150) 3 38 := ⟨by decide +kernel, rfl⟩
theorem cp_J_copyOf3_35 : gCpW M_J_copyOf3 150 := ⟨gW_c2 114 rfl rfl, gW_c2 116 rfl rfl, gW_c2 115 rfl rfl, gW_c1 24 rfl rfl⟩
theorem d_J_copyOf3_38 : gAl M_J_copyOf3 38 3 39 := Or.inr ⟨3, by decide +kernel, rfl, rfl⟩
theorem d_J_copyOf3_39 : gD M_J_copyOf3 39 (.areturn) 1 40 := ⟨by decide +kernel, rfl⟩
theorem d_A_isEmpty_0 : gAl M_A_isEmpty 0 0 1 := Or.inr ⟨0, by decide +kernel, rfl, rfl⟩
theorem d_A_isEmpty_1 : gGf M_A_isEmpty 1 0 2 4 := ⟨48, by decide +kernel, rfl, fl_A_48 _ rfl⟩
theorem d_A_isEmpty_4 : gB M_A_isEmpty 4 (.ifCond .ne 7) 7 7 11 := ⟨by decide +kernel, rfl, by decide⟩
theorem d_A_isEmpty_7 : gN M_A_isEmpty 7 1 8 := Or.inl ⟨1, by decide +kernel, by decide, rfl⟩
theorem d_A_isEmpty_8 : gB M_A_isEmpty 8 (.goto 4) 4 11 12 := ⟨by decide +kernel, rfl, by decide⟩
theorem d_A_isEmpty_11 : gN M_A_isEmpty 11 0 12 := Or.inl ⟨0, by decide +kernel, by decide, rfl⟩
theorem d_A_isEmpty_12 : gD M_A_isEmpty 12 (.ireturn) 1 13 := ⟨by decide +kernel, rfl⟩
theorem d_A_clear_0 : gAl M_A_clear 0 0 1 := Or.inr ⟨0, by decide +kernel, rfl, rfl⟩
theorem d_A_clear_1 : gD M_A_clear 1 (.dup) 1 2 := ⟨by decide +kernel, rfl⟩
theorem d_A_clear_2 : gGf M_A_clear 2 0 0 5 := ⟨63, by decide +kernel, rfl, fl_A_63 _ rfl⟩
theorem d_A_clear_5 : gN M_A_clear 5 1 6 := Or.inl ⟨1, by decide +kernel, by decide, rfl⟩
theorem d_A_clear_6 : gD M_A_clear 6 (.iadd) 1 7 := ⟨by decide +kernel, rfl⟩
theorem d_A_clear_7 : gPf M_A_clear 7 0 0 .int 10 := ⟨63, by decide +kernel, rfl, RJx4a65c, TJx4a65c, 3, "java/util/ArrayList", tyJx4a65c, rfl, by decide, gW_c1 62 rfl rfl, gws_0, Or.inr (gW_c1 63 rfl rfl), tyJx4a65c_ok, nmJx4a65c, by decide +kernel, Or.inl rfl⟩
theorem d_A_clear_10 : gAl M_A_clear 10 0 11 := Or.inr ⟨0, by decide +kernel, rfl, rfl⟩
theorem d_A_clear_11 : gGf M_A_clear 11 0 1 14 := ⟨9, by decide +kernel, rfl, fl_A_9 _ rfl⟩
theorem d_A_clear_14 : gAst M_A_clear 14 1 15 := Or.inr ⟨1, by decide +kernel, rfl, rfl⟩
theorem d_A_clear_15 : gAl M_A_clear 15 0 16 := Or.inr ⟨0, by decide +kernel, rfl, rfl⟩
theorem d_A_clear_16 : gGf M_A_clear 16 0 2 19 := ⟨48, by decide +kernel, rfl, fl_A_48 _ rfl⟩
theorem d_A_clear_19 : gIs M_A_clear 19 2 20 := Or.inr ⟨2, by decide +kernel, rfl, rfl⟩
theorem d_A_clear_20 : gAl M_A_clear 20 0 21 := Or.inr ⟨0, by decide +kernel, rfl, rfl⟩
theorem d_A_clear_21 : gN M_A_clear 21 0 22 := Or.inl ⟨0, by decide +kernel, by decide, rfl⟩
theorem d_A_clear_22 : gD M_A_clear 22 (.dup_x1) 1 23 := ⟨by decide +kernel, rfl⟩
theorem d_A_clear_23 : gPf M_A_clear 23 0 2 .int 26 := ⟨48, by decide +kernel, rfl, RJx4a65c, TJx4a65c, 3, "java/util/ArrayList", tyJx4a65c, rfl, by decide, gW_c1 60 rfl rfl, gws_0, Or.inl rfl, tyJx4a65c_ok, nmJx4a65c, by decide +kernel, Or.inl rfl⟩
theorem d_A_clear_26 : gIs M_A_clear 26 3 27 := Or.inr ⟨3, by decide +kernel, rfl, rfl⟩
theorem d_A_clear_27 : gIl M_A_clear 27 3 28 := Or.inr ⟨3, by decide +kernel, rfl, rfl⟩
theorem d_A_clear_28 : gIl M_A_clear 28 2 29 := Or.inr ⟨2, by decide +kernel, rfl, rfl⟩
theorem d_A_clear_29 : gB M_A_clear 29 (.if_icmp .ge 13) 13 32 42 := ⟨by decide +kernel, rfl, by decide⟩
theorem d_A_clear_32 : gAl M_A_clear 32 1 33 := Or.inr ⟨1, by decide +kernel, rfl, rfl⟩
theorem d_A_clear_33 : gIl M_A_clear 33 3 34 := Or.inr ⟨3, by decide +kernel, rfl, rfl⟩
theorem d_A_clear_34 : gD M_A_clear 34 (.aconst_null) 1 35 := ⟨by decide +kernel, rfl⟩
theorem d_A_clear_35 : gD M_A_clear 35 (.aastore) 1 36 := ⟨by decide +kernel, rfl⟩
theorem d_A_clear_36 : gIc M_A_clear 36 3 1 39 := ⟨1, by decide +kernel, by decide, rfl⟩
theorem d_A_clear_39 : gB M_A_clear 39 (.goto (-12)) (-12) 42 27 := ⟨by decide +kernel, rfl, by decide⟩
theorem d_A_clear_42 : gD M_A_clear 42 (.return_) 1 43 := ⟨by decide +kernel, rfl⟩
theorem d_A_add_0 : gAl M_A_add 0 0 1 := Or.inr ⟨0, by decide +kernel, rfl, rfl⟩
theorem d_A_add_1 : gD M_A_add 1 (.dup) 1 2 := ⟨by decide +kernel, rfl⟩
theorem d_A_add_2 : gGf M_A_add 2 0 0 5 := ⟨63, by decide +kernel, rfl, fl_A_63 _ rfl⟩
theorem d_A_add_5 : gN M_A_add 5 1 6 := Or.inl ⟨1, by decide +kernel, by decide, rfl⟩
theorem d_A_add_6 : gD M_A_add 6 (.iadd) 1 7 := ⟨by decide +kernel, rfl⟩
theorem d_A_add_7 : gPf M_A_add 7 0 0 .int 10 := ⟨63, by decide +kernel, rfl, RJx4a65c, TJx4a65c, 3, "java/util/ArrayList", tyJx4a65c, rfl, by decide, gW_c1 62 rfl rfl, gws_0, Or.inr (gW_c1 63 rfl rfl), tyJx4a65c_ok, nmJx4a65c, by decide +kernel, Or.inl rfl⟩
theorem d_A_add_10 : gAl M_A_add 10 0 11 := Or.inr ⟨0, by decide +kernel, rfl, rfl⟩
theorem d_A_add_11 : gAl M_A_add 11 1 12 := Or.inr ⟨1, by decide +kernel, rfl, rfl⟩
theorem d_A_add_12 : gAl M_A_add 12 0 13 := Or.inr ⟨0, by decide +kernel, rfl, rfl⟩
theorem d_A_add_13 : gGf M_A_add 13 0 1 16 := ⟨9, by decide +kernel, rfl, fl_A_9 _ rfl⟩
theorem d_A_add_16 : gAl M_A_add 16 0 17 := Or.inr ⟨0, by decide +kernel, rfl, rfl⟩
theorem d_A_add_17 : gGf M_A_add 17 0 2 20 := ⟨48, by decide +kernel, rfl, fl_A_48 _ rfl⟩
theorem d_A_add_20 : gD M_A_add 20 (.invokevirtual 131) 3 23 := ⟨by decide +kernel, rfl⟩
theorem cs_A_add_20 : gClV M_A_add 131 0 y_A_add3 M_A_add3 3 := ⟨⟨gW_c4 129 rfl rfl, gW_c1 5 rfl rfl, cd_A_add3, by decide +kernel, by decide +kernel⟩, rfl, gW_c4 131 rfl rfl, gW_c0 14 rfl rfl, TJx4a65c, 3, rfl⟩
theorem d_A_add_23 : gN M_A_add 23 1 24 := Or.inl ⟨1, by decide +kernel, by decide, rfl⟩
theorem d_A_add_24 : gD M_A_add 24 (.ireturn) 1 25 := ⟨by decide +kernel, rfl⟩
theorem d_A_add3_0 : gIl M_A_add3 0 3 1 := Or.inr ⟨3, by decide +kernel, rfl, rfl⟩
theorem d_A_add3_1 : gAl M_A_add3 1 2 2 := Or.inr ⟨2, by decide +kernel, rfl, rfl⟩
theorem d_A_add3_2 : gD M_A_add3 2 (.arraylength) 1 3 := ⟨by decide +kernel, rfl⟩
theorem d_A_add3_3 : gB M_A_add3 3 (.if_icmp .ne 8) 8 6 11 := ⟨by decide +kernel, rfl, by decide⟩
theorem d_A_add3_6 : gAl M_A_add3 6 0 7 := Or.inr ⟨0, by decide +kernel, rfl, rfl⟩
theorem d_A_add3_7 : gD M_A_add3 7 (.invokevirtual 129) 3 10 := ⟨by decide +kernel, rfl⟩
theorem cs_A_add3_7 : gClV M_A_add3 129 0 y_A_grow0 M_A_grow0 0 := ⟨⟨gW_c3 173 rfl rfl, gW_c1 5 rfl rfl, cd_A_grow0, by decide +kernel, by decide +kernel⟩, rfl, gW_c3 175 rfl rfl, gW_c0 5 rfl rfl, TJx4a65c, 3, rfl⟩
theorem d_A_add3_10 : gAst M_A_add3 10 2 11 := Or.inr ⟨2, by decide +kernel, rfl, rfl⟩
theorem d_A_add3_11 : gAl M_A_add3 11 2 12 := Or.inr ⟨2, by decide +kernel, rfl, rfl⟩
theorem d_A_add3_12 : gIl M_A_add3 12 3 13 := Or.inr ⟨3, by decide +kernel, rfl, rfl⟩
theorem d_A_add3_13 : gAl M_A_add3 13 1 14 := Or.inr ⟨1, by decide +kernel, rfl, rfl⟩
theorem d_A_add3_14 : gD M_A_add3 14 (.aastore) 1 15 := ⟨by decide +kernel, rfl⟩
theorem d_A_add3_15 : gAl M_A_add3 15 0 16 := Or.inr ⟨0, by decide +kernel, rfl, rfl⟩
theorem d_A_add3_16 : gIl M_A_add3 16 3 17 := Or.inr ⟨3, by decide +kernel, rfl, rfl⟩
theorem d_A_add3_17 : gN M_A_add3 17 1 18 := Or.inl ⟨1, by decide +kernel, by decide, rfl⟩
theorem d_A_add3_18 : gD M_A_add3 18 (.iadd) 1 19 := ⟨by decide +kernel, rfl⟩
theorem d_A_add3_19 : gPf M_A_add3 19 0 2 .int 22 := ⟨48, by decide +kernel, rfl, RJx4a65c, TJx4a65c, 3, "java/util/ArrayList", tyJx4a65c, rfl, by decide, gW_c1 60 rfl rfl, gws_0, Or.inl rfl, tyJx4a65c_ok, nmJx4a65c, by decide +kernel, Or.inl rfl⟩
theorem d_A_add3_22 : gD M_A_add3 22 (.return_) 1 23 := ⟨by decide +kernel, rfl⟩
theorem d_J_fill_0 : gN M_J_fill 0 0 1 := Or.inl ⟨0, by decide +kernel, by decide, rfl⟩
theorem d_J_fill_1 : gIs M_J_fill 1 2 2 := Or.inr ⟨2, by decide +kernel, rfl, rfl⟩
theorem d_J_fill_2 : gAl M_J_fill 2 0 3 := Or.inr ⟨0, by decide +kernel, rfl, rfl⟩
theorem d_J_fill_3 : gD M_J_fill 3 (.arraylength) 1 4 := ⟨by decide +kernel, rfl⟩
theorem d_J_fill_4 : gIs M_J_fill 4 3 5 := Or.inr ⟨3, by decide +kernel, rfl, rfl⟩
theorem d_J_fill_5 : gIl M_J_fill 5 2 6 := Or.inr ⟨2, by decide +kernel, rfl, rfl⟩
theorem d_J_fill_6 : gIl M_J_fill 6 3 7 := Or.inr ⟨3, by decide +kernel, rfl, rfl⟩
theorem d_J_fill_7 : gB M_J_fill 7 (.if_icmp .ge 13) 13 10 20 := ⟨by decide +kernel, rfl, by decide⟩
theorem d_J_fill_10 : gAl M_J_fill 10 0 11 := Or.inr ⟨0, by decide +kernel, rfl, rfl⟩
theorem d_J_fill_11 : gIl M_J_fill 11 2 12 := Or.inr ⟨2, by decide +kernel, rfl, rfl⟩
theorem d_J_fill_12 : gIl M_J_fill 12 1 13 := Or.inr ⟨1, by decide +kernel, rfl, rfl⟩
theorem d_J_fill_13 : gD M_J_fill 13 (.iastore) 1 14 := ⟨by decide +kernel, rfl⟩
theorem d_J_fill_14 : gIc M_J_fill 14 2 1 17 := ⟨1, by decide +kernel, by decide, rfl⟩
theorem d_J_fill_17 : gB M_J_fill 17 (.goto (-12)) (-12) 20 5 := ⟨by decide +kernel, rfl, by decide⟩
theorem d_J_fill_20 : gD M_J_fill 20 (.return_) 1 21 := ⟨by decide +kernel, rfl⟩
end
section
/-! ===== decode rows ===== -/
theorem d_T_init_0 : gAl M_T_init 0 0 1 := Or.inr ⟨0, by decide +kernel, rfl, rfl⟩
theorem d_T_init_1 : gD M_T_init 1 (.invokespecial 3) 3 4 := ⟨by decide +kernel, rfl⟩
theorem oi_T_init_1 : Cond.methodLink M_T_init.2.2.1 3 objectInit ∈ gW ∧ Cond.instanceMethod objectInit ∈ gW ∧ Cond.code objectInit ⟨#[0xb1]⟩ 1 none ∈ gW := ⟨gW_c1 76 rfl rfl, gW_c1 36 rfl rfl, gW_c1 37 rfl rfl⟩
theorem d_T_init_4 : gAl M_T_init 4 0 5 := Or.inr ⟨0, by decide +kernel, rfl, rfl⟩
theorem d_T_init_5 : gN M_T_init 5 160 8 := Or.inr (Or.inr (Or.inl ⟨160, by decide +kernel, by decide, rfl⟩))
theorem d_T_init_8 : gD M_T_init 8 (.newarray .int) 2 10 := ⟨by decide +kernel, rfl⟩
theorem d_T_init_10 : gPf M_T_init 10 3 0 (.array .int) 13 := ⟨9, by decide +kernel, rfl, RX2, TX2, 1, "FolderRounds$Table", tyX2, rfl, by decide, gW_c1 77 rfl rfl, gws_3, Or.inl rfl, tyX2_ok, nmX2, by decide +kernel, Or.inr ⟨rfl, rfl, rfl⟩⟩
theorem d_T_init_13 : gD M_T_init 13 (.return_) 1 14 := ⟨by decide +kernel, rfl⟩
theorem d_C_init_0 : gAl M_C_init 0 0 1 := Or.inr ⟨0, by decide +kernel, rfl, rfl⟩
theorem d_C_init_1 : gD M_C_init 1 (.invokespecial 3) 3 4 := ⟨by decide +kernel, rfl⟩
theorem oi_C_init_1 : Cond.methodLink M_C_init.2.2.1 3 objectInit ∈ gW ∧ Cond.instanceMethod objectInit ∈ gW ∧ Cond.code objectInit ⟨#[0xb1]⟩ 1 none ∈ gW := ⟨gW_c1 100 rfl rfl, gW_c1 36 rfl rfl, gW_c1 37 rfl rfl⟩
theorem d_C_init_4 : gAl M_C_init 4 0 5 := Or.inr ⟨0, by decide +kernel, rfl, rfl⟩
theorem d_C_init_5 : gD M_C_init 5 (.new 9) 3 8 := ⟨by decide +kernel, rfl⟩
theorem nw_C_init_5 : gNew M_C_init 9 0 [.int 0, .null, .int 0] := ⟨RJx4a65c, TJx4a65c, 3, tyJx4a65c, rfl, rfl, gW_c1 101 rfl rfl, gW_c1 46 rfl rfl, gW_c1 5 rfl rfl, gws_0, tyJx4a65c_ok, by decide⟩
theorem d_C_init_8 : gD M_C_init 8 (.dup) 1 9 := ⟨by decide +kernel, rfl⟩
theorem d_C_init_9 : gD M_C_init 9 (.invokespecial 11) 3 12 := ⟨by decide +kernel, rfl⟩
theorem cs_C_init_9 : gClI M_C_init 11 y_A_init M_A_init 0 := ⟨⟨gW_c1 102 rfl rfl, gW_c1 5 rfl rfl, cd_A_init, by decide +kernel, by decide +kernel⟩, rfl, gW_c1 48 rfl rfl, rfl, rfl⟩
theorem d_C_init_12 : gPf M_C_init 12 1 0 (.object "java/util/ArrayList") 15 := ⟨12, by decide +kernel, rfl, RX0, TX0, 2, "FolderRounds$Cartridge", tyX0, rfl, by decide, gW_c1 105 rfl rfl, gws_1, Or.inl rfl, tyX0_ok, nmX0, by decide +kernel, Or.inr ⟨rfl, rfl, rfl⟩⟩
theorem d_C_init_15 : gAl M_C_init 15 0 16 := Or.inr ⟨0, by decide +kernel, rfl, rfl⟩
theorem d_C_init_16 : gD M_C_init 16 (.new 18) 3 19 := ⟨by decide +kernel, rfl⟩
theorem nw_C_init_16 : gNew M_C_init 18 3 [.null] := ⟨RX2, TX2, 1, tyX2, rfl, rfl, gW_c1 103 rfl rfl, gW_c1 72 rfl rfl, gW_c1 6 rfl rfl, gws_3, tyX2_ok, by decide⟩
theorem d_C_init_19 : gD M_C_init 19 (.dup) 1 20 := ⟨by decide +kernel, rfl⟩
theorem d_C_init_20 : gD M_C_init 20 (.invokespecial 20) 3 23 := ⟨by decide +kernel, rfl⟩
theorem cs_C_init_20 : gClI M_C_init 20 y_T_init M_T_init 0 := ⟨⟨gW_c1 104 rfl rfl, gW_c1 6 rfl rfl, cd_T_init, by decide +kernel, by decide +kernel⟩, rfl, gW_c1 74 rfl rfl, rfl, rfl⟩
theorem d_C_init_23 : gPf M_C_init 23 1 1 (.object "FolderRounds$Table") 26 := ⟨21, by decide +kernel, rfl, RX0, TX0, 2, "FolderRounds$Cartridge", tyX0, rfl, by decide, gW_c1 107 rfl rfl, gws_1, Or.inl rfl, tyX0_ok, nmX0, by decide +kernel, Or.inr ⟨rfl, rfl, rfl⟩⟩
theorem d_C_init_26 : gD M_C_init 26 (.return_) 1 27 := ⟨by decide +kernel, rfl⟩
theorem d_T_counterAt_0 : gAl M_T_counterAt 0 0 1 := Or.inr ⟨0, by decide +kernel, rfl, rfl⟩
theorem d_T_counterAt_1 : gGf M_T_counterAt 1 3 0 4 := ⟨9, by decide +kernel, rfl, fl_T_9 _ rfl⟩
theorem d_T_counterAt_4 : gIl M_T_counterAt 4 1 5 := Or.inr ⟨1, by decide +kernel, rfl, rfl⟩
theorem d_T_counterAt_5 : gIl M_T_counterAt 5 2 6 := Or.inr ⟨2, by decide +kernel, rfl, rfl⟩
theorem d_T_counterAt_6 : gD M_T_counterAt 6 (.invokestatic 15) 3 9 := ⟨by decide +kernel, rfl⟩
theorem cs_T_counterAt_6 : gClS M_T_counterAt 15 y_T_startOf M_T_startOf 2 := ⟨⟨gW_c2 4 rfl rfl, gW_c1 6 rfl rfl, cd_T_startOf, by decide +kernel, by decide +kernel⟩, gW_c2 5 rfl rfl⟩
theorem d_T_counterAt_9 : gIl M_T_counterAt 9 3 10 := Or.inr ⟨3, by decide +kernel, rfl, rfl⟩
theorem d_T_counterAt_10 : gD M_T_counterAt 10 (.iadd) 1 11 := ⟨by decide +kernel, rfl⟩
theorem d_T_counterAt_11 : gD M_T_counterAt 11 (.iaload) 1 12 := ⟨by decide +kernel, rfl⟩
theorem d_T_counterAt_12 : gD M_T_counterAt 12 (.ireturn) 1 13 := ⟨by decide +kernel, rfl⟩
theorem d_T_startOf_0 : gIl M_T_startOf 0 0 1 := Or.inr ⟨0, by decide +kernel, rfl, rfl⟩
theorem d_T_startOf_1 : gN M_T_startOf 1 10 3 := Or.inr (Or.inl ⟨10, by decide +kernel, by decide, rfl⟩)
theorem d_T_startOf_3 : gD M_T_startOf 3 (.imul) 1 4 := ⟨by decide +kernel, rfl⟩
theorem d_T_startOf_4 : gIl M_T_startOf 4 1 5 := Or.inr ⟨1, by decide +kernel, rfl, rfl⟩
theorem d_T_startOf_5 : gD M_T_startOf 5 (.iadd) 1 6 := ⟨by decide +kernel, rfl⟩
theorem d_T_startOf_6 : gN M_T_startOf 6 4 7 := Or.inl ⟨4, by decide +kernel, by decide, rfl⟩
theorem d_T_startOf_7 : gD M_T_startOf 7 (.imul) 1 8 := ⟨by decide +kernel, rfl⟩
theorem d_T_startOf_8 : gD M_T_startOf 8 (.ireturn) 1 9 := ⟨by decide +kernel, rfl⟩
theorem d_T_vectorAt_0 : gIl M_T_vectorAt 0 1 1 := Or.inr ⟨1, by decide +kernel, rfl, rfl⟩
theorem d_T_vectorAt_1 : gIl M_T_vectorAt 1 2 2 := Or.inr ⟨2, by decide +kernel, rfl, rfl⟩
theorem d_T_vectorAt_2 : gD M_T_vectorAt 2 (.invokestatic 15) 3 5 := ⟨by decide +kernel, rfl⟩
theorem cs_T_vectorAt_2 : gClS M_T_vectorAt 15 y_T_startOf M_T_startOf 2 := ⟨⟨gW_c2 4 rfl rfl, gW_c1 6 rfl rfl, cd_T_startOf, by decide +kernel, by decide +kernel⟩, gW_c2 5 rfl rfl⟩
theorem d_T_vectorAt_5 : gIs M_T_vectorAt 5 3 6 := Or.inr ⟨3, by decide +kernel, rfl, rfl⟩
theorem d_T_vectorAt_6 : gAl M_T_vectorAt 6 0 7 := Or.inr ⟨0, by decide +kernel, rfl, rfl⟩
theorem d_T_vectorAt_7 : gGf M_T_vectorAt 7 3 0 10 := ⟨9, by decide +kernel, rfl, fl_T_9 _ rfl⟩
theorem d_T_vectorAt_10 : gIl M_T_vectorAt 10 3 11 := Or.inr ⟨3, by decide +kernel, rfl, rfl⟩
theorem d_T_vectorAt_11 : gIl M_T_vectorAt 11 3 12 := Or.inr ⟨3, by decide +kernel, rfl, rfl⟩
theorem d_T_vectorAt_12 : gN M_T_vectorAt 12 4 13 := Or.inl ⟨4, by decide +kernel, by decide, rfl⟩
theorem d_T_vectorAt_13 : gD M_T_vectorAt 13 (.iadd) 1 14 := ⟨by decide +kernel, rfl⟩
theorem d_T_vectorAt_14 : gD M_T_vectorAt 14 (.invokestatic 19) 3 17 := ⟨by decide +kernel, rfl⟩
theorem cs_T_vectorAt_14 : gClS M_T_vectorAt 19 y_J_copyOfRange M_J_copyOfRange 3 := ⟨⟨gW_c2 30 rfl rfl, gW_c1 15 rfl rfl, cd_J_copyOfRange, by decide +kernel, by decide +kernel⟩, gW_c2 31 rfl rfl⟩
theorem d_T_vectorAt_17 : gD M_T_vectorAt 17 (.areturn) 1 18 := ⟨by decide +kernel, rfl⟩
theorem d_V_init_0 : gAl M_V_init 0 0 1 := Or.inr ⟨0, by decide +kernel, rfl, rfl⟩
theorem d_V_init_1 : gD M_V_init 1 (.invokespecial 3) 3 4 := ⟨by decide +kernel, rfl⟩
theorem oi_V_init_1 : Cond.methodLink M_V_init.2.2.1 3 objectInit ∈ gW ∧ Cond.instanceMethod objectInit ∈ gW ∧ Cond.code objectInit ⟨#[0xb1]⟩ 1 none ∈ gW := ⟨gW_c3 57 rfl rfl, gW_c1 36 rfl rfl, gW_c1 37 rfl rfl⟩
theorem d_V_init_4 : gAl M_V_init 4 0 5 := Or.inr ⟨0, by decide +kernel, rfl, rfl⟩
theorem d_V_init_5 : gIl M_V_init 5 1 6 := Or.inr ⟨1, by decide +kernel, rfl, rfl⟩
theorem d_V_init_6 : gPf M_V_init 6 4 0 .int 9 := ⟨9, by decide +kernel, rfl, RX3, TX3, 4, "FolderRounds$Version", tyX3, rfl, by decide, gW_c3 58 rfl rfl, gws_4, Or.inl rfl, tyX3_ok, nmX3, by decide +kernel, Or.inr ⟨rfl, rfl, rfl⟩⟩
theorem d_V_init_9 : gAl M_V_init 9 0 10 := Or.inr ⟨0, by decide +kernel, rfl, rfl⟩
theorem d_V_init_10 : gIl M_V_init 10 2 11 := Or.inr ⟨2, by decide +kernel, rfl, rfl⟩
theorem d_V_init_11 : gPf M_V_init 11 4 1 .int 14 := ⟨15, by decide +kernel, rfl, RX3, TX3, 4, "FolderRounds$Version", tyX3, rfl, by decide, gW_c3 61 rfl rfl, gws_4, Or.inl rfl, tyX3_ok, nmX3, by decide +kernel, Or.inr ⟨rfl, rfl, rfl⟩⟩
theorem d_V_init_14 : gAl M_V_init 14 0 15 := Or.inr ⟨0, by decide +kernel, rfl, rfl⟩
theorem d_V_init_15 : gIl M_V_init 15 3 16 := Or.inr ⟨3, by decide +kernel, rfl, rfl⟩
theorem d_V_init_16 : gPf M_V_init 16 4 2 .int 19 := ⟨18, by decide +kernel, rfl, RX3, TX3, 4, "FolderRounds$Version", tyX3, rfl, by decide, gW_c3 63 rfl rfl, gws_4, Or.inl rfl, tyX3_ok, nmX3, by decide +kernel, Or.inr ⟨rfl, rfl, rfl⟩⟩
theorem d_V_init_19 : gAl M_V_init 19 0 20 := Or.inr ⟨0, by decide +kernel, rfl, rfl⟩
theorem d_V_init_20 : gAl M_V_init 20 4 22 := Or.inl ⟨by decide +kernel, rfl⟩
theorem d_V_init_22 : gPf M_V_init 22 4 3 (.array .int) 25 := ⟨21, by decide +kernel, rfl, RX3, TX3, 4, "FolderRounds$Version", tyX3, rfl, by decide, gW_c3 65 rfl rfl, gws_4, Or.inl rfl, tyX3_ok, nmX3, by decide +kernel, Or.inr ⟨rfl, rfl, rfl⟩⟩
theorem d_V_init_25 : gD M_V_init 25 (.return_) 1 26 := ⟨by decide +kernel, rfl⟩
theorem d_V_byteCount_0 : gAl M_V_byteCount 0 0 1 := Or.inr ⟨0, by decide +kernel, rfl, rfl⟩
theorem d_V_byteCount_1 : gD M_V_byteCount 1 (.invokevirtual 25) 3 4 := ⟨by decide +kernel, rfl⟩
theorem cs_V_byteCount_1 : gClV M_V_byteCount 25 4 y_V_isMark M_V_isMark 0 := ⟨⟨gW_c3 89 rfl rfl, gW_c1 27 rfl rfl, cd_V_isMark, by decide +kernel, by decide +kernel⟩, rfl, gW_c3 90 rfl rfl, gW_c3 91 rfl rfl, TX3, 4, rfl⟩
theorem d_V_byteCount_4 : gB M_V_byteCount 4 (.ifCond .eq 7) 7 7 11 := ⟨by decide +kernel, rfl, by decide⟩
theorem d_V_byteCount_7 : gN M_V_byteCount 7 0 8 := Or.inl ⟨0, by decide +kernel, by decide, rfl⟩
theorem d_V_byteCount_8 : gB M_V_byteCount 8 (.goto 7) 7 11 15 := ⟨by decide +kernel, rfl, by decide⟩
theorem d_V_byteCount_11 : gAl M_V_byteCount 11 0 12 := Or.inr ⟨0, by decide +kernel, rfl, rfl⟩
theorem d_V_byteCount_12 : gGf M_V_byteCount 12 4 1 15 := ⟨15, by decide +kernel, rfl, fl_V_15 _ rfl⟩
theorem d_V_byteCount_15 : gD M_V_byteCount 15 (.ireturn) 1 16 := ⟨by decide +kernel, rfl⟩
theorem d_V_isMark_0 : gAl M_V_isMark 0 0 1 := Or.inr ⟨0, by decide +kernel, rfl, rfl⟩
theorem d_V_isMark_1 : gGf M_V_isMark 1 4 1 4 := ⟨15, by decide +kernel, rfl, fl_V_15 _ rfl⟩
theorem d_V_isMark_4 : gN M_V_isMark 4 (-1) 5 := Or.inl ⟨(-1), by decide +kernel, by decide, rfl⟩
theorem d_V_isMark_5 : gB M_V_isMark 5 (.if_icmp .ne 7) 7 8 12 := ⟨by decide +kernel, rfl, by decide⟩
theorem d_V_isMark_8 : gN M_V_isMark 8 1 9 := Or.inl ⟨1, by decide +kernel, by decide, rfl⟩
theorem d_V_isMark_9 : gB M_V_isMark 9 (.goto 4) 4 12 13 := ⟨by decide +kernel, rfl, by decide⟩
theorem d_V_isMark_12 : gN M_V_isMark 12 0 13 := Or.inl ⟨0, by decide +kernel, by decide, rfl⟩
theorem d_V_isMark_13 : gD M_V_isMark 13 (.ireturn) 1 14 := ⟨by decide +kernel, rfl⟩
theorem d_V_replaces_0 : gAl M_V_replaces 0 0 1 := Or.inr ⟨0, by decide +kernel, rfl, rfl⟩
theorem d_V_replaces_1 : gGf M_V_replaces 1 4 0 4 := ⟨9, by decide +kernel, rfl, fl_V_9 _ rfl⟩
theorem d_V_replaces_4 : gAl M_V_replaces 4 1 5 := Or.inr ⟨1, by decide +kernel, rfl, rfl⟩
theorem d_V_replaces_5 : gGf M_V_replaces 5 4 0 8 := ⟨9, by decide +kernel, rfl, fl_V_9 _ rfl⟩
theorem d_V_replaces_8 : gB M_V_replaces 8 (.if_icmp .eq 5) 5 11 13 := ⟨by decide +kernel, rfl, by decide⟩
theorem d_V_replaces_11 : gN M_V_replaces 11 0 12 := Or.inl ⟨0, by decide +kernel, by decide, rfl⟩
theorem d_V_replaces_12 : gD M_V_replaces 12 (.ireturn) 1 13 := ⟨by decide +kernel, rfl⟩
theorem d_V_replaces_13 : gN M_V_replaces 13 0 14 := Or.inl ⟨0, by decide +kernel, by decide, rfl⟩
theorem d_V_replaces_14 : gIs M_V_replaces 14 2 15 := Or.inr ⟨2, by decide +kernel, rfl, rfl⟩
theorem d_V_replaces_15 : gIl M_V_replaces 15 2 16 := Or.inr ⟨2, by decide +kernel, rfl, rfl⟩
theorem d_V_replaces_16 : gN M_V_replaces 16 4 17 := Or.inl ⟨4, by decide +kernel, by decide, rfl⟩
theorem d_V_replaces_17 : gB M_V_replaces 17 (.if_icmp .ge 26) 26 20 43 := ⟨by decide +kernel, rfl, by decide⟩
theorem d_V_replaces_20 : gAl M_V_replaces 20 0 21 := Or.inr ⟨0, by decide +kernel, rfl, rfl⟩
theorem d_V_replaces_21 : gGf M_V_replaces 21 4 3 24 := ⟨21, by decide +kernel, rfl, fl_V_21 _ rfl⟩
theorem d_V_replaces_24 : gIl M_V_replaces 24 2 25 := Or.inr ⟨2, by decide +kernel, rfl, rfl⟩
theorem d_V_replaces_25 : gD M_V_replaces 25 (.iaload) 1 26 := ⟨by decide +kernel, rfl⟩
theorem d_V_replaces_26 : gAl M_V_replaces 26 1 27 := Or.inr ⟨1, by decide +kernel, rfl, rfl⟩
theorem d_V_replaces_27 : gGf M_V_replaces 27 4 3 30 := ⟨21, by decide +kernel, rfl, fl_V_21 _ rfl⟩
theorem d_V_replaces_30 : gIl M_V_replaces 30 2 31 := Or.inr ⟨2, by decide +kernel, rfl, rfl⟩
theorem d_V_replaces_31 : gD M_V_replaces 31 (.iaload) 1 32 := ⟨by decide +kernel, rfl⟩
theorem d_V_replaces_32 : gB M_V_replaces 32 (.if_icmp .ge 5) 5 35 37 := ⟨by decide +kernel, rfl, by decide⟩
theorem d_V_replaces_35 : gN M_V_replaces 35 0 36 := Or.inl ⟨0, by decide +kernel, by decide, rfl⟩
theorem d_V_replaces_36 : gD M_V_replaces 36 (.ireturn) 1 37 := ⟨by decide +kernel, rfl⟩
theorem d_V_replaces_37 : gIc M_V_replaces 37 2 1 40 := ⟨1, by decide +kernel, by decide, rfl⟩
theorem d_V_replaces_40 : gB M_V_replaces 40 (.goto (-25)) (-25) 43 15 := ⟨by decide +kernel, rfl, by decide⟩
theorem d_V_replaces_43 : gN M_V_replaces 43 1 44 := Or.inl ⟨1, by decide +kernel, by decide, rfl⟩
theorem d_V_replaces_44 : gD M_V_replaces 44 (.ireturn) 1 45 := ⟨by decide +kernel, rfl⟩
theorem d_V_compareWith_0 : gAl M_V_compareWith 0 0 1 := Or.inr ⟨0, by decide +kernel, rfl, rfl⟩
theorem d_V_compareWith_1 : gGf M_V_compareWith 1 4 0 4 := ⟨9, by decide +kernel, rfl, fl_V_9 _ rfl⟩
theorem d_V_compareWith_4 : gAl M_V_compareWith 4 1 5 := Or.inr ⟨1, by decide +kernel, rfl, rfl⟩
theorem d_V_compareWith_5 : gGf M_V_compareWith 5 4 0 8 := ⟨9, by decide +kernel, rfl, fl_V_9 _ rfl⟩
theorem d_V_compareWith_8 : gD M_V_compareWith 8 (.invokestatic 33) 3 11 := ⟨by decide +kernel, rfl⟩
theorem cs_V_compareWith_8 : gClS M_V_compareWith 33 y_J_compare M_J_compare 2 := ⟨⟨gW_c3 136 rfl rfl, gW_c1 21 rfl rfl, cd_J_compare, by decide +kernel, by decide +kernel⟩, gW_c3 137 rfl rfl⟩
theorem d_V_compareWith_11 : gIs M_V_compareWith 11 2 12 := Or.inr ⟨2, by decide +kernel, rfl, rfl⟩
theorem d_V_compareWith_12 : gN M_V_compareWith 12 0 13 := Or.inl ⟨0, by decide +kernel, by decide, rfl⟩
theorem d_V_compareWith_13 : gIs M_V_compareWith 13 3 14 := Or.inr ⟨3, by decide +kernel, rfl, rfl⟩
theorem d_V_compareWith_14 : gIl M_V_compareWith 14 3 15 := Or.inr ⟨3, by decide +kernel, rfl, rfl⟩
theorem d_V_compareWith_15 : gN M_V_compareWith 15 4 16 := Or.inl ⟨4, by decide +kernel, by decide, rfl⟩
theorem d_V_compareWith_16 : gB M_V_compareWith 16 (.if_icmp .ge 29) 29 19 45 := ⟨by decide +kernel, rfl, by decide⟩
theorem d_V_compareWith_19 : gIl M_V_compareWith 19 2 20 := Or.inr ⟨2, by decide +kernel, rfl, rfl⟩
theorem d_V_compareWith_20 : gB M_V_compareWith 20 (.ifCond .ne 25) 25 23 45 := ⟨by decide +kernel, rfl, by decide⟩
theorem d_V_compareWith_23 : gAl M_V_compareWith 23 0 24 := Or.inr ⟨0, by decide +kernel, rfl, rfl⟩
theorem d_V_compareWith_24 : gGf M_V_compareWith 24 4 3 27 := ⟨21, by decide +kernel, rfl, fl_V_21 _ rfl⟩
theorem d_V_compareWith_27 : gIl M_V_compareWith 27 3 28 := Or.inr ⟨3, by decide +kernel, rfl, rfl⟩
theorem d_V_compareWith_28 : gD M_V_compareWith 28 (.iaload) 1 29 := ⟨by decide +kernel, rfl⟩
theorem d_V_compareWith_29 : gAl M_V_compareWith 29 1 30 := Or.inr ⟨1, by decide +kernel, rfl, rfl⟩
theorem d_V_compareWith_30 : gGf M_V_compareWith 30 4 3 33 := ⟨21, by decide +kernel, rfl, fl_V_21 _ rfl⟩
theorem d_V_compareWith_33 : gIl M_V_compareWith 33 3 34 := Or.inr ⟨3, by decide +kernel, rfl, rfl⟩
theorem d_V_compareWith_34 : gD M_V_compareWith 34 (.iaload) 1 35 := ⟨by decide +kernel, rfl⟩
theorem d_V_compareWith_35 : gD M_V_compareWith 35 (.invokestatic 33) 3 38 := ⟨by decide +kernel, rfl⟩
theorem cs_V_compareWith_35 : gClS M_V_compareWith 33 y_J_compare M_J_compare 2 := ⟨⟨gW_c3 136 rfl rfl, gW_c1 21 rfl rfl, cd_J_compare, by decide +kernel, by decide +kernel⟩, gW_c3 137 rfl rfl⟩
theorem d_V_compareWith_38 : gIs M_V_compareWith 38 2 39 := Or.inr ⟨2, by decide +kernel, rfl, rfl⟩
theorem d_V_compareWith_39 : gIc M_V_compareWith 39 3 1 42 := ⟨1, by decide +kernel, by decide, rfl⟩
theorem d_V_compareWith_42 : gB M_V_compareWith 42 (.goto (-28)) (-28) 45 14 := ⟨by decide +kernel, rfl, by decide⟩
theorem d_V_compareWith_45 : gIl M_V_compareWith 45 2 46 := Or.inr ⟨2, by decide +kernel, rfl, rfl⟩
theorem d_V_compareWith_46 : gD M_V_compareWith 46 (.ireturn) 1 47 := ⟨by decide +kernel, rfl⟩
theorem d_T_joinVersion_0 : gIl M_T_joinVersion 0 1 1 := Or.inr ⟨1, by decide +kernel, rfl, rfl⟩
theorem d_T_joinVersion_1 : gAl M_T_joinVersion 1 2 2 := Or.inr ⟨2, by decide +kernel, rfl, rfl⟩
theorem d_T_joinVersion_2 : gGf M_T_joinVersion 2 4 0 5 := ⟨25, by decide +kernel, rfl, fl_T_25 _ rfl⟩
theorem d_T_joinVersion_5 : gD M_T_joinVersion 5 (.invokestatic 15) 3 8 := ⟨by decide +kernel, rfl⟩
theorem cs_T_joinVersion_5 : gClS M_T_joinVersion 15 y_T_startOf M_T_startOf 2 := ⟨⟨gW_c2 4 rfl rfl, gW_c1 6 rfl rfl, cd_T_startOf, by decide +kernel, by decide +kernel⟩, gW_c2 5 rfl rfl⟩
theorem d_T_joinVersion_8 : gIs M_T_joinVersion 8 3 9 := Or.inr ⟨3, by decide +kernel, rfl, rfl⟩
theorem d_T_joinVersion_9 : gN M_T_joinVersion 9 0 10 := Or.inl ⟨0, by decide +kernel, by decide, rfl⟩
theorem d_T_joinVersion_10 : gIs M_T_joinVersion 10 4 12 := Or.inl ⟨by decide +kernel, rfl⟩
theorem d_T_joinVersion_12 : gIl M_T_joinVersion 12 4 14 := Or.inl ⟨by decide +kernel, rfl⟩
theorem d_T_joinVersion_14 : gN M_T_joinVersion 14 4 15 := Or.inl ⟨4, by decide +kernel, by decide, rfl⟩
theorem d_T_joinVersion_15 : gB M_T_joinVersion 15 (.if_icmp .ge 37) 37 18 52 := ⟨by decide +kernel, rfl, by decide⟩
theorem d_T_joinVersion_18 : gAl M_T_joinVersion 18 0 19 := Or.inr ⟨0, by decide +kernel, rfl, rfl⟩
theorem d_T_joinVersion_19 : gGf M_T_joinVersion 19 3 0 22 := ⟨9, by decide +kernel, rfl, fl_T_9 _ rfl⟩
theorem d_T_joinVersion_22 : gIl M_T_joinVersion 22 3 23 := Or.inr ⟨3, by decide +kernel, rfl, rfl⟩
theorem d_T_joinVersion_23 : gIl M_T_joinVersion 23 4 25 := Or.inl ⟨by decide +kernel, rfl⟩
theorem d_T_joinVersion_25 : gD M_T_joinVersion 25 (.iadd) 1 26 := ⟨by decide +kernel, rfl⟩
theorem d_T_joinVersion_26 : gAl M_T_joinVersion 26 0 27 := Or.inr ⟨0, by decide +kernel, rfl, rfl⟩
theorem d_T_joinVersion_27 : gGf M_T_joinVersion 27 3 0 30 := ⟨9, by decide +kernel, rfl, fl_T_9 _ rfl⟩
theorem d_T_joinVersion_30 : gIl M_T_joinVersion 30 3 31 := Or.inr ⟨3, by decide +kernel, rfl, rfl⟩
theorem d_T_joinVersion_31 : gIl M_T_joinVersion 31 4 33 := Or.inl ⟨by decide +kernel, rfl⟩
theorem d_T_joinVersion_33 : gD M_T_joinVersion 33 (.iadd) 1 34 := ⟨by decide +kernel, rfl⟩
theorem d_T_joinVersion_34 : gD M_T_joinVersion 34 (.iaload) 1 35 := ⟨by decide +kernel, rfl⟩
theorem d_T_joinVersion_35 : gAl M_T_joinVersion 35 2 36 := Or.inr ⟨2, by decide +kernel, rfl, rfl⟩
theorem d_T_joinVersion_36 : gGf M_T_joinVersion 36 4 3 39 := ⟨31, by decide +kernel, rfl, fl_T_31 _ rfl⟩
theorem d_T_joinVersion_39 : gIl M_T_joinVersion 39 4 41 := Or.inl ⟨by decide +kernel, rfl⟩
theorem d_T_joinVersion_41 : gD M_T_joinVersion 41 (.iaload) 1 42 := ⟨by decide +kernel, rfl⟩
theorem d_T_joinVersion_42 : gD M_T_joinVersion 42 (.invokestatic 34) 3 45 := ⟨by decide +kernel, rfl⟩
theorem cs_T_joinVersion_42 : gClS M_T_joinVersion 34 y_J_max M_J_max 2 := ⟨⟨gW_c3 214 rfl rfl, gW_c1 23 rfl rfl, cd_J_max, by decide +kernel, by decide +kernel⟩, gW_c2 94 rfl rfl⟩
theorem d_T_joinVersion_45 : gD M_T_joinVersion 45 (.iastore) 1 46 := ⟨by decide +kernel, rfl⟩
theorem d_T_joinVersion_46 : gIc M_T_joinVersion 46 4 1 49 := ⟨1, by decide +kernel, by decide, rfl⟩
theorem d_T_joinVersion_49 : gB M_T_joinVersion 49 (.goto (-37)) (-37) 52 12 := ⟨by decide +kernel, rfl, by decide⟩
theorem d_T_joinVersion_52 : gD M_T_joinVersion 52 (.return_) 1 53 := ⟨by decide +kernel, rfl⟩
theorem d_V_hasBytesOf_0 : gAl M_V_hasBytesOf 0 0 1 := Or.inr ⟨0, by decide +kernel, rfl, rfl⟩
theorem d_V_hasBytesOf_1 : gGf M_V_hasBytesOf 1 4 0 4 := ⟨9, by decide +kernel, rfl, fl_V_9 _ rfl⟩
theorem d_V_hasBytesOf_4 : gIl M_V_hasBytesOf 4 1 5 := Or.inr ⟨1, by decide +kernel, rfl, rfl⟩
theorem d_V_hasBytesOf_5 : gB M_V_hasBytesOf 5 (.if_icmp .ne 14) 14 8 19 := ⟨by decide +kernel, rfl, by decide⟩
theorem d_V_hasBytesOf_8 : gAl M_V_hasBytesOf 8 0 9 := Or.inr ⟨0, by decide +kernel, rfl, rfl⟩
theorem d_V_hasBytesOf_9 : gD M_V_hasBytesOf 9 (.invokevirtual 25) 3 12 := ⟨by decide +kernel, rfl⟩
theorem cs_V_hasBytesOf_9 : gClV M_V_hasBytesOf 25 4 y_V_isMark M_V_isMark 0 := ⟨⟨gW_c3 89 rfl rfl, gW_c1 27 rfl rfl, cd_V_isMark, by decide +kernel, by decide +kernel⟩, rfl, gW_c3 90 rfl rfl, gW_c3 91 rfl rfl, TX3, 4, rfl⟩
theorem d_V_hasBytesOf_12 : gB M_V_hasBytesOf 12 (.ifCond .ne 7) 7 15 19 := ⟨by decide +kernel, rfl, by decide⟩
theorem d_V_hasBytesOf_15 : gN M_V_hasBytesOf 15 1 16 := Or.inl ⟨1, by decide +kernel, by decide, rfl⟩
theorem d_V_hasBytesOf_16 : gB M_V_hasBytesOf 16 (.goto 4) 4 19 20 := ⟨by decide +kernel, rfl, by decide⟩
theorem d_V_hasBytesOf_19 : gN M_V_hasBytesOf 19 0 20 := Or.inl ⟨0, by decide +kernel, by decide, rfl⟩
theorem d_V_hasBytesOf_20 : gD M_V_hasBytesOf 20 (.ireturn) 1 21 := ⟨by decide +kernel, rfl⟩
theorem d_T_covers_0 : gIl M_T_covers 0 1 1 := Or.inr ⟨1, by decide +kernel, rfl, rfl⟩
theorem d_T_covers_1 : gAl M_T_covers 1 2 2 := Or.inr ⟨2, by decide +kernel, rfl, rfl⟩
theorem d_T_covers_2 : gGf M_T_covers 2 4 0 5 := ⟨25, by decide +kernel, rfl, fl_T_25 _ rfl⟩
theorem d_T_covers_5 : gD M_T_covers 5 (.invokestatic 15) 3 8 := ⟨by decide +kernel, rfl⟩
theorem cs_T_covers_5 : gClS M_T_covers 15 y_T_startOf M_T_startOf 2 := ⟨⟨gW_c2 4 rfl rfl, gW_c1 6 rfl rfl, cd_T_startOf, by decide +kernel, by decide +kernel⟩, gW_c2 5 rfl rfl⟩
theorem d_T_covers_8 : gIs M_T_covers 8 3 9 := Or.inr ⟨3, by decide +kernel, rfl, rfl⟩
theorem d_T_covers_9 : gN M_T_covers 9 0 10 := Or.inl ⟨0, by decide +kernel, by decide, rfl⟩
theorem d_T_covers_10 : gIs M_T_covers 10 4 12 := Or.inl ⟨by decide +kernel, rfl⟩
theorem d_T_covers_12 : gIl M_T_covers 12 4 14 := Or.inl ⟨by decide +kernel, rfl⟩
theorem d_T_covers_14 : gN M_T_covers 14 4 15 := Or.inl ⟨4, by decide +kernel, by decide, rfl⟩
theorem d_T_covers_15 : gB M_T_covers 15 (.if_icmp .ge 30) 30 18 45 := ⟨by decide +kernel, rfl, by decide⟩
theorem d_T_covers_18 : gAl M_T_covers 18 0 19 := Or.inr ⟨0, by decide +kernel, rfl, rfl⟩
theorem d_T_covers_19 : gGf M_T_covers 19 3 0 22 := ⟨9, by decide +kernel, rfl, fl_T_9 _ rfl⟩
theorem d_T_covers_22 : gIl M_T_covers 22 3 23 := Or.inr ⟨3, by decide +kernel, rfl, rfl⟩
theorem d_T_covers_23 : gIl M_T_covers 23 4 25 := Or.inl ⟨by decide +kernel, rfl⟩
theorem d_T_covers_25 : gD M_T_covers 25 (.iadd) 1 26 := ⟨by decide +kernel, rfl⟩
theorem d_T_covers_26 : gD M_T_covers 26 (.iaload) 1 27 := ⟨by decide +kernel, rfl⟩
theorem d_T_covers_27 : gAl M_T_covers 27 2 28 := Or.inr ⟨2, by decide +kernel, rfl, rfl⟩
theorem d_T_covers_28 : gGf M_T_covers 28 4 3 31 := ⟨31, by decide +kernel, rfl, fl_T_31 _ rfl⟩
theorem d_T_covers_31 : gIl M_T_covers 31 4 33 := Or.inl ⟨by decide +kernel, rfl⟩
theorem d_T_covers_33 : gD M_T_covers 33 (.iaload) 1 34 := ⟨by decide +kernel, rfl⟩
theorem d_T_covers_34 : gB M_T_covers 34 (.if_icmp .ge 5) 5 37 39 := ⟨by decide +kernel, rfl, by decide⟩
theorem d_T_covers_37 : gN M_T_covers 37 0 38 := Or.inl ⟨0, by decide +kernel, by decide, rfl⟩
theorem d_T_covers_38 : gD M_T_covers 38 (.ireturn) 1 39 := ⟨by decide +kernel, rfl⟩
theorem d_T_covers_39 : gIc M_T_covers 39 4 1 42 := ⟨1, by decide +kernel, by decide, rfl⟩
theorem d_T_covers_42 : gB M_T_covers 42 (.goto (-30)) (-30) 45 12 := ⟨by decide +kernel, rfl, by decide⟩
theorem d_T_covers_45 : gN M_T_covers 45 1 46 := Or.inl ⟨1, by decide +kernel, by decide, rfl⟩
theorem d_T_covers_46 : gD M_T_covers 46 (.ireturn) 1 47 := ⟨by decide +kernel, rfl⟩
theorem d_T_joinStation_0 : gIl M_T_joinStation 0 1 1 := Or.inr ⟨1, by decide +kernel, rfl, rfl⟩
theorem d_T_joinStation_1 : gN M_T_joinStation 1 10 3 := Or.inr (Or.inl ⟨10, by decide +kernel, by decide, rfl⟩)
theorem d_T_joinStation_3 : gD M_T_joinStation 3 (.invokestatic 15) 3 6 := ⟨by decide +kernel, rfl⟩
theorem cs_T_joinStation_3 : gClS M_T_joinStation 15 y_T_startOf M_T_startOf 2 := ⟨⟨gW_c2 4 rfl rfl, gW_c1 6 rfl rfl, cd_T_startOf, by decide +kernel, by decide +kernel⟩, gW_c2 5 rfl rfl⟩
theorem d_T_joinStation_6 : gIs M_T_joinStation 6 3 7 := Or.inr ⟨3, by decide +kernel, rfl, rfl⟩
theorem d_T_joinStation_7 : gIl M_T_joinStation 7 1 8 := Or.inr ⟨1, by decide +kernel, rfl, rfl⟩
theorem d_T_joinStation_8 : gN M_T_joinStation 8 0 9 := Or.inl ⟨0, by decide +kernel, by decide, rfl⟩
theorem d_T_joinStation_9 : gD M_T_joinStation 9 (.invokestatic 15) 3 12 := ⟨by decide +kernel, rfl⟩
theorem cs_T_joinStation_9 : gClS M_T_joinStation 15 y_T_startOf M_T_startOf 2 := ⟨⟨gW_c2 4 rfl rfl, gW_c1 6 rfl rfl, cd_T_startOf, by decide +kernel, by decide +kernel⟩, gW_c2 5 rfl rfl⟩
theorem d_T_joinStation_12 : gIs M_T_joinStation 12 4 14 := Or.inl ⟨by decide +kernel, rfl⟩
theorem d_T_joinStation_14 : gIl M_T_joinStation 14 4 16 := Or.inl ⟨by decide +kernel, rfl⟩
theorem d_T_joinStation_16 : gIl M_T_joinStation 16 3 17 := Or.inr ⟨3, by decide +kernel, rfl, rfl⟩
theorem d_T_joinStation_17 : gB M_T_joinStation 17 (.if_icmp .ge 33) 33 20 50 := ⟨by decide +kernel, rfl, by decide⟩
theorem d_T_joinStation_20 : gAl M_T_joinStation 20 0 21 := Or.inr ⟨0, by decide +kernel, rfl, rfl⟩
theorem d_T_joinStation_21 : gGf M_T_joinStation 21 3 0 24 := ⟨9, by decide +kernel, rfl, fl_T_9 _ rfl⟩
theorem d_T_joinStation_24 : gIl M_T_joinStation 24 4 26 := Or.inl ⟨by decide +kernel, rfl⟩
theorem d_T_joinStation_26 : gAl M_T_joinStation 26 0 27 := Or.inr ⟨0, by decide +kernel, rfl, rfl⟩
theorem d_T_joinStation_27 : gGf M_T_joinStation 27 3 0 30 := ⟨9, by decide +kernel, rfl, fl_T_9 _ rfl⟩
theorem d_T_joinStation_30 : gIl M_T_joinStation 30 4 32 := Or.inl ⟨by decide +kernel, rfl⟩
theorem d_T_joinStation_32 : gD M_T_joinStation 32 (.iaload) 1 33 := ⟨by decide +kernel, rfl⟩
theorem d_T_joinStation_33 : gAl M_T_joinStation 33 2 34 := Or.inr ⟨2, by decide +kernel, rfl, rfl⟩
theorem d_T_joinStation_34 : gGf M_T_joinStation 34 3 0 37 := ⟨9, by decide +kernel, rfl, fl_T_9 _ rfl⟩
theorem d_T_joinStation_37 : gIl M_T_joinStation 37 4 39 := Or.inl ⟨by decide +kernel, rfl⟩
theorem d_T_joinStation_39 : gD M_T_joinStation 39 (.iaload) 1 40 := ⟨by decide +kernel, rfl⟩
theorem d_T_joinStation_40 : gD M_T_joinStation 40 (.invokestatic 34) 3 43 := ⟨by decide +kernel, rfl⟩
theorem cs_T_joinStation_40 : gClS M_T_joinStation 34 y_J_max M_J_max 2 := ⟨⟨gW_c3 214 rfl rfl, gW_c1 23 rfl rfl, cd_J_max, by decide +kernel, by decide +kernel⟩, gW_c2 94 rfl rfl⟩
theorem d_T_joinStation_43 : gD M_T_joinStation 43 (.iastore) 1 44 := ⟨by decide +kernel, rfl⟩
theorem d_T_joinStation_44 : gIc M_T_joinStation 44 4 1 47 := ⟨1, by decide +kernel, by decide, rfl⟩
theorem d_T_joinStation_47 : gB M_T_joinStation 47 (.goto (-33)) (-33) 50 14 := ⟨by decide +kernel, rfl, by decide⟩
theorem d_T_joinStation_50 : gD M_T_joinStation 50 (.return_) 1 51 := ⟨by decide +kernel, rfl⟩
theorem d_T_become_0 : gAl M_T_become 0 1 1 := Or.inr ⟨1, by decide +kernel, rfl, rfl⟩
theorem d_T_become_1 : gGf M_T_become 1 3 0 4 := ⟨9, by decide +kernel, rfl, fl_T_9 _ rfl⟩
theorem d_T_become_4 : gN M_T_become 4 0 5 := Or.inl ⟨0, by decide +kernel, by decide, rfl⟩
theorem d_T_become_5 : gAl M_T_become 5 0 6 := Or.inr ⟨0, by decide +kernel, rfl, rfl⟩
theorem d_T_become_6 : gGf M_T_become 6 3 0 9 := ⟨9, by decide +kernel, rfl, fl_T_9 _ rfl⟩
theorem d_T_become_9 : gN M_T_become 9 0 10 := Or.inl ⟨0, by decide +kernel, by decide, rfl⟩
theorem d_T_become_10 : gAl M_T_become 10 0 11 := Or.inr ⟨0, by decide +kernel, rfl, rfl⟩
theorem d_T_become_11 : gGf M_T_become 11 3 0 14 := ⟨9, by decide +kernel, rfl, fl_T_9 _ rfl⟩
theorem d_T_become_14 : gD M_T_become 14 (.arraylength) 1 15 := ⟨by decide +kernel, rfl⟩
theorem d_T_become_15 : gD M_T_become 15 (.invokestatic 39) 3 18 := ⟨by decide +kernel, rfl⟩
theorem cp_T_become_15 : gCpW M_T_become 39 := ⟨gW_c4 85 rfl rfl, gW_c2 116 rfl rfl, gW_c2 115 rfl rfl, gW_c1 24 rfl rfl⟩
theorem d_T_become_18 : gD M_T_become 18 (.return_) 1 19 := ⟨by decide +kernel, rfl⟩
theorem d_V_sumOfCounters_0 : gN M_V_sumOfCounters 0 0 1 := Or.inl ⟨0, by decide +kernel, by decide, rfl⟩
theorem d_V_sumOfCounters_1 : gIs M_V_sumOfCounters 1 1 2 := Or.inr ⟨1, by decide +kernel, rfl, rfl⟩
theorem d_V_sumOfCounters_2 : gN M_V_sumOfCounters 2 0 3 := Or.inl ⟨0, by decide +kernel, by decide, rfl⟩
theorem d_V_sumOfCounters_3 : gIs M_V_sumOfCounters 3 2 4 := Or.inr ⟨2, by decide +kernel, rfl, rfl⟩
theorem d_V_sumOfCounters_4 : gIl M_V_sumOfCounters 4 2 5 := Or.inr ⟨2, by decide +kernel, rfl, rfl⟩
theorem d_V_sumOfCounters_5 : gN M_V_sumOfCounters 5 4 6 := Or.inl ⟨4, by decide +kernel, by decide, rfl⟩
theorem d_V_sumOfCounters_6 : gB M_V_sumOfCounters 6 (.if_icmp .ge 18) 18 9 24 := ⟨by decide +kernel, rfl, by decide⟩
theorem d_V_sumOfCounters_9 : gIl M_V_sumOfCounters 9 1 10 := Or.inr ⟨1, by decide +kernel, rfl, rfl⟩
theorem d_V_sumOfCounters_10 : gAl M_V_sumOfCounters 10 0 11 := Or.inr ⟨0, by decide +kernel, rfl, rfl⟩
theorem d_V_sumOfCounters_11 : gGf M_V_sumOfCounters 11 4 3 14 := ⟨21, by decide +kernel, rfl, fl_V_21 _ rfl⟩
theorem d_V_sumOfCounters_14 : gIl M_V_sumOfCounters 14 2 15 := Or.inr ⟨2, by decide +kernel, rfl, rfl⟩
theorem d_V_sumOfCounters_15 : gD M_V_sumOfCounters 15 (.iaload) 1 16 := ⟨by decide +kernel, rfl⟩
theorem d_V_sumOfCounters_16 : gD M_V_sumOfCounters 16 (.iadd) 1 17 := ⟨by decide +kernel, rfl⟩
theorem d_V_sumOfCounters_17 : gIs M_V_sumOfCounters 17 1 18 := Or.inr ⟨1, by decide +kernel, rfl, rfl⟩
theorem d_V_sumOfCounters_18 : gIc M_V_sumOfCounters 18 2 1 21 := ⟨1, by decide +kernel, by decide, rfl⟩
theorem d_V_sumOfCounters_21 : gB M_V_sumOfCounters 21 (.goto (-17)) (-17) 24 4 := ⟨by decide +kernel, rfl, by decide⟩
theorem d_V_sumOfCounters_24 : gIl M_V_sumOfCounters 24 1 25 := Or.inr ⟨1, by decide +kernel, rfl, rfl⟩
theorem d_V_sumOfCounters_25 : gD M_V_sumOfCounters 25 (.ireturn) 1 26 := ⟨by decide +kernel, rfl⟩
theorem d_V_roomTaken_0 : gN M_V_roomTaken 0 8 2 := Or.inr (Or.inl ⟨8, by decide +kernel, by decide, rfl⟩)
theorem d_V_roomTaken_2 : gAl M_V_roomTaken 2 0 3 := Or.inr ⟨0, by decide +kernel, rfl, rfl⟩
theorem d_V_roomTaken_3 : gD M_V_roomTaken 3 (.invokevirtual 29) 3 6 := ⟨by decide +kernel, rfl⟩
theorem cs_V_roomTaken_3 : gClV M_V_roomTaken 29 4 y_V_byteCount M_V_byteCount 0 := ⟨⟨gW_c4 116 rfl rfl, gW_c1 27 rfl rfl, cd_V_byteCount, by decide +kernel, by decide +kernel⟩, rfl, gW_c3 86 rfl rfl, gW_c3 87 rfl rfl, TX3, 4, rfl⟩
theorem d_V_roomTaken_6 : gD M_V_roomTaken 6 (.iadd) 1 7 := ⟨by decide +kernel, rfl⟩
theorem d_V_roomTaken_7 : gD M_V_roomTaken 7 (.ireturn) 1 8 := ⟨by decide +kernel, rfl⟩
theorem d_C_roomLeft_0 : gN M_C_roomLeft 0 100 2 := Or.inr (Or.inl ⟨100, by decide +kernel, by decide, rfl⟩)
theorem d_C_roomLeft_2 : gIs M_C_roomLeft 2 1 3 := Or.inr ⟨1, by decide +kernel, rfl, rfl⟩
theorem d_C_roomLeft_3 : gN M_C_roomLeft 3 0 4 := Or.inl ⟨0, by decide +kernel, by decide, rfl⟩
theorem d_C_roomLeft_4 : gIs M_C_roomLeft 4 2 5 := Or.inr ⟨2, by decide +kernel, rfl, rfl⟩
theorem d_C_roomLeft_5 : gIl M_C_roomLeft 5 2 6 := Or.inr ⟨2, by decide +kernel, rfl, rfl⟩
theorem d_C_roomLeft_6 : gAl M_C_roomLeft 6 0 7 := Or.inr ⟨0, by decide +kernel, rfl, rfl⟩
theorem d_C_roomLeft_7 : gGf M_C_roomLeft 7 1 0 10 := ⟨12, by decide +kernel, rfl, fl_C_12 _ rfl⟩
theorem d_C_roomLeft_10 : gD M_C_roomLeft 10 (.invokevirtual 25) 3 13 := ⟨by decide +kernel, rfl⟩
theorem cs_C_roomLeft_10 : gClV M_C_roomLeft 25 0 y_A_size M_A_size 0 := ⟨⟨gW_c4 121 rfl rfl, gW_c1 5 rfl rfl, cd_A_size, by decide +kernel, by decide +kernel⟩, rfl, gW_c3 94 rfl rfl, gW_c3 95 rfl rfl, TJx4a65c, 3, rfl⟩
theorem d_C_roomLeft_13 : gB M_C_roomLeft 13 (.if_icmp .ge 26) 26 16 39 := ⟨by decide +kernel, rfl, by decide⟩
theorem d_C_roomLeft_16 : gIl M_C_roomLeft 16 1 17 := Or.inr ⟨1, by decide +kernel, rfl, rfl⟩
theorem d_C_roomLeft_17 : gAl M_C_roomLeft 17 0 18 := Or.inr ⟨0, by decide +kernel, rfl, rfl⟩
theorem d_C_roomLeft_18 : gGf M_C_roomLeft 18 1 0 21 := ⟨12, by decide +kernel, rfl, fl_C_12 _ rfl⟩
theorem d_C_roomLeft_21 : gIl M_C_roomLeft 21 2 22 := Or.inr ⟨2, by decide +kernel, rfl, rfl⟩
theorem d_C_roomLeft_22 : gD M_C_roomLeft 22 (.invokevirtual 29) 3 25 := ⟨by decide +kernel, rfl⟩
theorem cs_C_roomLeft_22 : gClV M_C_roomLeft 29 0 y_A_get M_A_get 1 := ⟨⟨gW_c4 122 rfl rfl, gW_c1 5 rfl rfl, cd_A_get, by decide +kernel, by decide +kernel⟩, rfl, gW_c3 98 rfl rfl, gW_c3 99 rfl rfl, TJx4a65c, 3, rfl⟩
theorem d_C_roomLeft_25 : gD M_C_roomLeft 25 (.checkcast 33) 3 28 := ⟨by decide +kernel, rfl⟩
theorem cl_C_roomLeft_25 : Cond.classLink M_C_roomLeft.2.2.1 33 "FolderRounds$Version" ∈ gW := gW_c4 123 rfl rfl
theorem d_C_roomLeft_28 : gD M_C_roomLeft 28 (.invokevirtual 35) 3 31 := ⟨by decide +kernel, rfl⟩
theorem cs_C_roomLeft_28 : gClV M_C_roomLeft 35 4 y_V_roomTaken M_V_roomTaken 0 := ⟨⟨gW_c4 124 rfl rfl, gW_c1 27 rfl rfl, cd_V_roomTaken, by decide +kernel, by decide +kernel⟩, rfl, gW_c4 113 rfl rfl, gW_c4 114 rfl rfl, TX3, 4, rfl⟩
theorem d_C_roomLeft_31 : gD M_C_roomLeft 31 (.isub) 1 32 := ⟨by decide +kernel, rfl⟩
theorem d_C_roomLeft_32 : gIs M_C_roomLeft 32 1 33 := Or.inr ⟨1, by decide +kernel, rfl, rfl⟩
theorem d_C_roomLeft_33 : gIc M_C_roomLeft 33 2 1 36 := ⟨1, by decide +kernel, by decide, rfl⟩
theorem d_C_roomLeft_36 : gB M_C_roomLeft 36 (.goto (-31)) (-31) 39 5 := ⟨by decide +kernel, rfl, by decide⟩
theorem d_C_roomLeft_39 : gIl M_C_roomLeft 39 1 40 := Or.inr ⟨1, by decide +kernel, rfl, rfl⟩
theorem d_C_roomLeft_40 : gD M_C_roomLeft 40 (.ireturn) 1 41 := ⟨by decide +kernel, rfl⟩
theorem d_T_becomeZeros_0 : gAl M_T_becomeZeros 0 0 1 := Or.inr ⟨0, by decide +kernel, rfl, rfl⟩
theorem d_T_becomeZeros_1 : gGf M_T_becomeZeros 1 3 0 4 := ⟨9, by decide +kernel, rfl, fl_T_9 _ rfl⟩
theorem d_T_becomeZeros_4 : gN M_T_becomeZeros 4 0 5 := Or.inl ⟨0, by decide +kernel, by decide, rfl⟩
theorem d_T_becomeZeros_5 : gD M_T_becomeZeros 5 (.invokestatic 45) 3 8 := ⟨by decide +kernel, rfl⟩
theorem cs_T_becomeZeros_5 : gClS M_T_becomeZeros 45 y_J_fill M_J_fill 2 := ⟨⟨gW_c4 151 rfl rfl, gW_c1 15 rfl rfl, cd_J_fill, by decide +kernel, by decide +kernel⟩, gW_c4 152 rfl rfl⟩
theorem d_T_becomeZeros_8 : gD M_T_becomeZeros 8 (.return_) 1 9 := ⟨by decide +kernel, rfl⟩
theorem d_C_become_0 : gAl M_C_become 0 0 1 := Or.inr ⟨0, by decide +kernel, rfl, rfl⟩
theorem d_C_become_1 : gGf M_C_become 1 1 0 4 := ⟨12, by decide +kernel, rfl, fl_C_12 _ rfl⟩
theorem d_C_become_4 : gD M_C_become 4 (.invokevirtual 38) 3 7 := ⟨by decide +kernel, rfl⟩
theorem cs_C_become_4 : gClV M_C_become 38 0 y_A_clear M_A_clear 0 := ⟨⟨gW_c4 165 rfl rfl, gW_c1 5 rfl rfl, cd_A_clear, by decide +kernel, by decide +kernel⟩, rfl, gW_c4 95 rfl rfl, gW_c4 96 rfl rfl, TJx4a65c, 3, rfl⟩
theorem d_C_become_7 : gN M_C_become 7 0 8 := Or.inl ⟨0, by decide +kernel, by decide, rfl⟩
theorem d_C_become_8 : gIs M_C_become 8 2 9 := Or.inr ⟨2, by decide +kernel, rfl, rfl⟩
theorem d_C_become_9 : gIl M_C_become 9 2 10 := Or.inr ⟨2, by decide +kernel, rfl, rfl⟩
theorem d_C_become_10 : gAl M_C_become 10 1 11 := Or.inr ⟨1, by decide +kernel, rfl, rfl⟩
theorem d_C_become_11 : gGf M_C_become 11 1 0 14 := ⟨12, by decide +kernel, rfl, fl_C_12 _ rfl⟩
theorem d_C_become_14 : gD M_C_become 14 (.invokevirtual 25) 3 17 := ⟨by decide +kernel, rfl⟩
theorem cs_C_become_14 : gClV M_C_become 25 0 y_A_size M_A_size 0 := ⟨⟨gW_c4 121 rfl rfl, gW_c1 5 rfl rfl, cd_A_size, by decide +kernel, by decide +kernel⟩, rfl, gW_c3 94 rfl rfl, gW_c3 95 rfl rfl, TJx4a65c, 3, rfl⟩
theorem d_C_become_17 : gB M_C_become 17 (.if_icmp .ge 28) 28 20 45 := ⟨by decide +kernel, rfl, by decide⟩
theorem d_C_become_20 : gAl M_C_become 20 0 21 := Or.inr ⟨0, by decide +kernel, rfl, rfl⟩
theorem d_C_become_21 : gGf M_C_become 21 1 0 24 := ⟨12, by decide +kernel, rfl, fl_C_12 _ rfl⟩
theorem d_C_become_24 : gAl M_C_become 24 1 25 := Or.inr ⟨1, by decide +kernel, rfl, rfl⟩
theorem d_C_become_25 : gGf M_C_become 25 1 0 28 := ⟨12, by decide +kernel, rfl, fl_C_12 _ rfl⟩
theorem d_C_become_28 : gIl M_C_become 28 2 29 := Or.inr ⟨2, by decide +kernel, rfl, rfl⟩
theorem d_C_become_29 : gD M_C_become 29 (.invokevirtual 29) 3 32 := ⟨by decide +kernel, rfl⟩
theorem cs_C_become_29 : gClV M_C_become 29 0 y_A_get M_A_get 1 := ⟨⟨gW_c4 122 rfl rfl, gW_c1 5 rfl rfl, cd_A_get, by decide +kernel, by decide +kernel⟩, rfl, gW_c3 98 rfl rfl, gW_c3 99 rfl rfl, TJx4a65c, 3, rfl⟩
theorem d_C_become_32 : gD M_C_become 32 (.checkcast 33) 3 35 := ⟨by decide +kernel, rfl⟩
theorem cl_C_become_32 : Cond.classLink M_C_become.2.2.1 33 "FolderRounds$Version" ∈ gW := gW_c4 123 rfl rfl
theorem d_C_become_35 : gD M_C_become 35 (.invokevirtual 41) 3 38 := ⟨by decide +kernel, rfl⟩
theorem cs_C_become_35 : gClV M_C_become 41 0 y_A_add M_A_add 1 := ⟨⟨gW_c4 166 rfl rfl, gW_c1 5 rfl rfl, cd_A_add, by decide +kernel, by decide +kernel⟩, rfl, gW_c4 126 rfl rfl, gW_c4 127 rfl rfl, TJx4a65c, 3, rfl⟩
theorem d_C_become_38 : gD M_C_become 38 (.pop) 1 39 := ⟨by decide +kernel, rfl⟩
theorem d_C_become_39 : gIc M_C_become 39 2 1 42 := ⟨1, by decide +kernel, by decide, rfl⟩
theorem d_C_become_42 : gB M_C_become 42 (.goto (-33)) (-33) 45 9 := ⟨by decide +kernel, rfl, by decide⟩
theorem d_C_become_45 : gAl M_C_become 45 0 46 := Or.inr ⟨0, by decide +kernel, rfl, rfl⟩
theorem d_C_become_46 : gGf M_C_become 46 1 1 49 := ⟨21, by decide +kernel, rfl, fl_C_21 _ rfl⟩
theorem d_C_become_49 : gAl M_C_become 49 1 50 := Or.inr ⟨1, by decide +kernel, rfl, rfl⟩
theorem d_C_become_50 : gGf M_C_become 50 1 1 53 := ⟨21, by decide +kernel, rfl, fl_C_21 _ rfl⟩
theorem d_C_become_53 : gD M_C_become 53 (.invokevirtual 45) 3 56 := ⟨by decide +kernel, rfl⟩
theorem cs_C_become_53 : gClV M_C_become 45 3 y_T_become M_T_become 1 := ⟨⟨gW_c4 167 rfl rfl, gW_c1 6 rfl rfl, cd_T_become, by decide +kernel, by decide +kernel⟩, rfl, gW_c4 82 rfl rfl, gW_c4 83 rfl rfl, TX2, 1, rfl⟩
theorem d_C_become_56 : gD M_C_become 56 (.return_) 1 57 := ⟨by decide +kernel, rfl⟩
end
section
/-! ===== decode rows ===== -/
theorem d_S_init_0 : gAl M_S_init 0 0 1 := Or.inr ⟨0, by decide +kernel, rfl, rfl⟩
theorem d_S_init_1 : gD M_S_init 1 (.invokespecial 3) 3 4 := ⟨by decide +kernel, rfl⟩
theorem oi_S_init_1 : Cond.methodLink M_S_init.2.2.1 3 objectInit ∈ gW ∧ Cond.instanceMethod objectInit ∈ gW ∧ Cond.code objectInit ⟨#[0xb1]⟩ 1 none ∈ gW := ⟨gW_c1 44 rfl rfl, gW_c1 36 rfl rfl, gW_c1 37 rfl rfl⟩
theorem d_S_init_4 : gAl M_S_init 4 0 5 := Or.inr ⟨0, by decide +kernel, rfl, rfl⟩
theorem d_S_init_5 : gIl M_S_init 5 1 6 := Or.inr ⟨1, by decide +kernel, rfl, rfl⟩
theorem d_S_init_6 : gPf M_S_init 6 2 0 .int 9 := ⟨9, by decide +kernel, rfl, RX1, TX1, 3, "FolderRounds$Station", tyX1, rfl, by decide, gW_c1 82 rfl rfl, gws_2, Or.inl rfl, tyX1_ok, nmX1, by decide +kernel, Or.inr ⟨rfl, rfl, rfl⟩⟩
theorem d_S_init_9 : gAl M_S_init 9 0 10 := Or.inr ⟨0, by decide +kernel, rfl, rfl⟩
theorem d_S_init_10 : gD M_S_init 10 (.new 15) 3 13 := ⟨by decide +kernel, rfl⟩
theorem nw_S_init_10 : gNew M_S_init 15 0 [.int 0, .null, .int 0] := ⟨RJx4a65c, TJx4a65c, 3, tyJx4a65c, rfl, rfl, gW_c1 45 rfl rfl, gW_c1 46 rfl rfl, gW_c1 5 rfl rfl, gws_0, tyJx4a65c_ok, by decide⟩
theorem d_S_init_13 : gD M_S_init 13 (.dup) 1 14 := ⟨by decide +kernel, rfl⟩
theorem d_S_init_14 : gD M_S_init 14 (.invokespecial 17) 3 17 := ⟨by decide +kernel, rfl⟩
theorem cs_S_init_14 : gClI M_S_init 17 y_A_init M_A_init 0 := ⟨⟨gW_c1 47 rfl rfl, gW_c1 5 rfl rfl, cd_A_init, by decide +kernel, by decide +kernel⟩, rfl, gW_c1 48 rfl rfl, rfl, rfl⟩
theorem d_S_init_17 : gPf M_S_init 17 2 1 (.object "java/util/ArrayList") 20 := ⟨18, by decide +kernel, rfl, RX1, TX1, 3, "FolderRounds$Station", tyX1, rfl, by decide, gW_c1 83 rfl rfl, gws_2, Or.inl rfl, tyX1_ok, nmX1, by decide +kernel, Or.inr ⟨rfl, rfl, rfl⟩⟩
theorem d_S_init_20 : gAl M_S_init 20 0 21 := Or.inr ⟨0, by decide +kernel, rfl, rfl⟩
theorem d_S_init_21 : gD M_S_init 21 (.new 22) 3 24 := ⟨by decide +kernel, rfl⟩
theorem nw_S_init_21 : gNew M_S_init 22 3 [.null] := ⟨RX2, TX2, 1, tyX2, rfl, rfl, gW_c1 71 rfl rfl, gW_c1 72 rfl rfl, gW_c1 6 rfl rfl, gws_3, tyX2_ok, by decide⟩
theorem d_S_init_24 : gD M_S_init 24 (.dup) 1 25 := ⟨by decide +kernel, rfl⟩
theorem d_S_init_25 : gD M_S_init 25 (.invokespecial 24) 3 28 := ⟨by decide +kernel, rfl⟩
theorem cs_S_init_25 : gClI M_S_init 24 y_T_init M_T_init 0 := ⟨⟨gW_c1 73 rfl rfl, gW_c1 6 rfl rfl, cd_T_init, by decide +kernel, by decide +kernel⟩, rfl, gW_c1 74 rfl rfl, rfl, rfl⟩
theorem d_S_init_28 : gPf M_S_init 28 2 2 (.object "FolderRounds$Table") 31 := ⟨25, by decide +kernel, rfl, RX1, TX1, 3, "FolderRounds$Station", tyX1, rfl, by decide, gW_c1 85 rfl rfl, gws_2, Or.inl rfl, tyX1_ok, nmX1, by decide +kernel, Or.inr ⟨rfl, rfl, rfl⟩⟩
theorem d_S_init_31 : gD M_S_init 31 (.return_) 1 32 := ⟨by decide +kernel, rfl⟩
theorem d_S_ownCounter_0 : gAl M_S_ownCounter 0 0 1 := Or.inr ⟨0, by decide +kernel, rfl, rfl⟩
theorem d_S_ownCounter_1 : gGf M_S_ownCounter 1 2 2 4 := ⟨25, by decide +kernel, rfl, fl_S_25 _ rfl⟩
theorem d_S_ownCounter_4 : gAl M_S_ownCounter 4 0 5 := Or.inr ⟨0, by decide +kernel, rfl, rfl⟩
theorem d_S_ownCounter_5 : gGf M_S_ownCounter 5 2 0 8 := ⟨9, by decide +kernel, rfl, fl_S_9 _ rfl⟩
theorem d_S_ownCounter_8 : gIl M_S_ownCounter 8 1 9 := Or.inr ⟨1, by decide +kernel, rfl, rfl⟩
theorem d_S_ownCounter_9 : gAl M_S_ownCounter 9 0 10 := Or.inr ⟨0, by decide +kernel, rfl, rfl⟩
theorem d_S_ownCounter_10 : gGf M_S_ownCounter 10 2 0 13 := ⟨9, by decide +kernel, rfl, fl_S_9 _ rfl⟩
theorem d_S_ownCounter_13 : gD M_S_ownCounter 13 (.invokevirtual 29) 3 16 := ⟨by decide +kernel, rfl⟩
theorem cs_S_ownCounter_13 : gClV M_S_ownCounter 29 3 y_T_counterAt M_T_counterAt 3 := ⟨⟨gW_c2 0 rfl rfl, gW_c1 6 rfl rfl, cd_T_counterAt, by decide +kernel, by decide +kernel⟩, rfl, gW_c2 1 rfl rfl, gW_c2 2 rfl rfl, TX2, 1, rfl⟩
theorem d_S_ownCounter_16 : gD M_S_ownCounter 16 (.ireturn) 1 17 := ⟨by decide +kernel, rfl⟩
theorem d_S_nextVersion_0 : gAl M_S_nextVersion 0 0 1 := Or.inr ⟨0, by decide +kernel, rfl, rfl⟩
theorem d_S_nextVersion_1 : gGf M_S_nextVersion 1 2 2 4 := ⟨25, by decide +kernel, rfl, fl_S_25 _ rfl⟩
theorem d_S_nextVersion_4 : gAl M_S_nextVersion 4 0 5 := Or.inr ⟨0, by decide +kernel, rfl, rfl⟩
theorem d_S_nextVersion_5 : gGf M_S_nextVersion 5 2 0 8 := ⟨9, by decide +kernel, rfl, fl_S_9 _ rfl⟩
theorem d_S_nextVersion_8 : gIl M_S_nextVersion 8 1 9 := Or.inr ⟨1, by decide +kernel, rfl, rfl⟩
theorem d_S_nextVersion_9 : gD M_S_nextVersion 9 (.invokevirtual 33) 3 12 := ⟨by decide +kernel, rfl⟩
theorem cs_S_nextVersion_9 : gClV M_S_nextVersion 33 3 y_T_vectorAt M_T_vectorAt 2 := ⟨⟨gW_c2 26 rfl rfl, gW_c1 6 rfl rfl, cd_T_vectorAt, by decide +kernel, by decide +kernel⟩, rfl, gW_c2 27 rfl rfl, gW_c2 28 rfl rfl, TX2, 1, rfl⟩
theorem d_S_nextVersion_12 : gAst M_S_nextVersion 12 4 14 := Or.inl ⟨by decide +kernel, rfl⟩
theorem d_S_nextVersion_14 : gAl M_S_nextVersion 14 4 16 := Or.inl ⟨by decide +kernel, rfl⟩
theorem d_S_nextVersion_16 : gAl M_S_nextVersion 16 0 17 := Or.inr ⟨0, by decide +kernel, rfl, rfl⟩
theorem d_S_nextVersion_17 : gGf M_S_nextVersion 17 2 0 20 := ⟨9, by decide +kernel, rfl, fl_S_9 _ rfl⟩
theorem d_S_nextVersion_20 : gD M_S_nextVersion 20 (.dup2) 1 21 := ⟨by decide +kernel, rfl⟩
theorem d_S_nextVersion_21 : gD M_S_nextVersion 21 (.iaload) 1 22 := ⟨by decide +kernel, rfl⟩
theorem d_S_nextVersion_22 : gN M_S_nextVersion 22 1 23 := Or.inl ⟨1, by decide +kernel, by decide, rfl⟩
theorem d_S_nextVersion_23 : gD M_S_nextVersion 23 (.iadd) 1 24 := ⟨by decide +kernel, rfl⟩
theorem d_S_nextVersion_24 : gD M_S_nextVersion 24 (.iastore) 1 25 := ⟨by decide +kernel, rfl⟩
theorem d_S_nextVersion_25 : gD M_S_nextVersion 25 (.new 37) 3 28 := ⟨by decide +kernel, rfl⟩
theorem nw_S_nextVersion_25 : gNew M_S_nextVersion 37 4 [.int 0, .int 0, .int 0, .null] := ⟨RX3, TX3, 4, tyX3, rfl, rfl, gW_c3 52 rfl rfl, gW_c3 53 rfl rfl, gW_c1 27 rfl rfl, gws_4, tyX3_ok, by decide⟩
theorem d_S_nextVersion_28 : gD M_S_nextVersion 28 (.dup) 1 29 := ⟨by decide +kernel, rfl⟩
theorem d_S_nextVersion_29 : gIl M_S_nextVersion 29 1 30 := Or.inr ⟨1, by decide +kernel, rfl, rfl⟩
theorem d_S_nextVersion_30 : gIl M_S_nextVersion 30 2 31 := Or.inr ⟨2, by decide +kernel, rfl, rfl⟩
theorem d_S_nextVersion_31 : gIl M_S_nextVersion 31 3 32 := Or.inr ⟨3, by decide +kernel, rfl, rfl⟩
theorem d_S_nextVersion_32 : gAl M_S_nextVersion 32 4 34 := Or.inl ⟨by decide +kernel, rfl⟩
theorem d_S_nextVersion_34 : gD M_S_nextVersion 34 (.invokespecial 39) 3 37 := ⟨by decide +kernel, rfl⟩
theorem cs_S_nextVersion_34 : gClI M_S_nextVersion 39 y_V_init M_V_init 4 := ⟨⟨gW_c3 54 rfl rfl, gW_c1 27 rfl rfl, cd_V_init, by decide +kernel, by decide +kernel⟩, rfl, gW_c3 55 rfl rfl, rfl, rfl⟩
theorem d_S_nextVersion_37 : gD M_S_nextVersion 37 (.areturn) 1 38 := ⟨by decide +kernel, rfl⟩
theorem d_S_takeIn_0 : gAl M_S_takeIn 0 0 1 := Or.inr ⟨0, by decide +kernel, rfl, rfl⟩
theorem d_S_takeIn_1 : gAl M_S_takeIn 1 1 2 := Or.inr ⟨1, by decide +kernel, rfl, rfl⟩
theorem d_S_takeIn_2 : gD M_S_takeIn 2 (.invokevirtual 46) 3 5 := ⟨by decide +kernel, rfl⟩
theorem cs_S_takeIn_2 : gClV M_S_takeIn 46 2 y_S_bytesWith M_S_bytesWith 1 := ⟨⟨gW_c3 81 rfl rfl, gW_c1 2 rfl rfl, cd_S_bytesWith, by decide +kernel, by decide +kernel⟩, rfl, gW_c3 82 rfl rfl, gW_c3 83 rfl rfl, TX1, 3, rfl⟩
theorem d_S_takeIn_5 : gN M_S_takeIn 5 300 8 := Or.inr (Or.inr (Or.inl ⟨300, by decide +kernel, by decide, rfl⟩))
theorem d_S_takeIn_8 : gB M_S_takeIn 8 (.if_icmp .le 5) 5 11 13 := ⟨by decide +kernel, rfl, by decide⟩
theorem d_S_takeIn_11 : gN M_S_takeIn 11 0 12 := Or.inl ⟨0, by decide +kernel, by decide, rfl⟩
theorem d_S_takeIn_12 : gD M_S_takeIn 12 (.ireturn) 1 13 := ⟨by decide +kernel, rfl⟩
theorem d_S_takeIn_13 : gAl M_S_takeIn 13 0 14 := Or.inr ⟨0, by decide +kernel, rfl, rfl⟩
theorem d_S_takeIn_14 : gAl M_S_takeIn 14 1 15 := Or.inr ⟨1, by decide +kernel, rfl, rfl⟩
theorem d_S_takeIn_15 : gD M_S_takeIn 15 (.invokevirtual 50) 3 18 := ⟨by decide +kernel, rfl⟩
theorem cs_S_takeIn_15 : gClV M_S_takeIn 50 2 y_S_removeReplaced M_S_removeReplaced 1 := ⟨⟨gW_c3 115 rfl rfl, gW_c1 2 rfl rfl, cd_S_removeReplaced, by decide +kernel, by decide +kernel⟩, rfl, gW_c3 116 rfl rfl, gW_c3 117 rfl rfl, TX1, 3, rfl⟩
theorem d_S_takeIn_18 : gAl M_S_takeIn 18 0 19 := Or.inr ⟨0, by decide +kernel, rfl, rfl⟩
theorem d_S_takeIn_19 : gAl M_S_takeIn 19 1 20 := Or.inr ⟨1, by decide +kernel, rfl, rfl⟩
theorem d_S_takeIn_20 : gD M_S_takeIn 20 (.invokevirtual 54) 3 23 := ⟨by decide +kernel, rfl⟩
theorem cs_S_takeIn_20 : gClV M_S_takeIn 54 2 y_S_insert M_S_insert 1 := ⟨⟨gW_c3 128 rfl rfl, gW_c1 2 rfl rfl, cd_S_insert, by decide +kernel, by decide +kernel⟩, rfl, gW_c3 129 rfl rfl, gW_c3 130 rfl rfl, TX1, 3, rfl⟩
theorem d_S_takeIn_23 : gAl M_S_takeIn 23 0 24 := Or.inr ⟨0, by decide +kernel, rfl, rfl⟩
theorem d_S_takeIn_24 : gGf M_S_takeIn 24 2 2 27 := ⟨25, by decide +kernel, rfl, fl_S_25 _ rfl⟩
theorem d_S_takeIn_27 : gAl M_S_takeIn 27 0 28 := Or.inr ⟨0, by decide +kernel, rfl, rfl⟩
theorem d_S_takeIn_28 : gGf M_S_takeIn 28 2 0 31 := ⟨9, by decide +kernel, rfl, fl_S_9 _ rfl⟩
theorem d_S_takeIn_31 : gAl M_S_takeIn 31 1 32 := Or.inr ⟨1, by decide +kernel, rfl, rfl⟩
theorem d_S_takeIn_32 : gD M_S_takeIn 32 (.invokevirtual 57) 3 35 := ⟨by decide +kernel, rfl⟩
theorem cs_S_takeIn_32 : gClV M_S_takeIn 57 3 y_T_joinVersion M_T_joinVersion 2 := ⟨⟨gW_c3 210 rfl rfl, gW_c1 6 rfl rfl, cd_T_joinVersion, by decide +kernel, by decide +kernel⟩, rfl, gW_c3 211 rfl rfl, gW_c3 212 rfl rfl, TX2, 1, rfl⟩
theorem d_S_takeIn_35 : gN M_S_takeIn 35 1 36 := Or.inl ⟨1, by decide +kernel, by decide, rfl⟩
theorem d_S_takeIn_36 : gD M_S_takeIn 36 (.ireturn) 1 37 := ⟨by decide +kernel, rfl⟩
theorem d_S_bytesWith_0 : gAl M_S_bytesWith 0 1 1 := Or.inr ⟨1, by decide +kernel, rfl, rfl⟩
theorem d_S_bytesWith_1 : gD M_S_bytesWith 1 (.invokevirtual 61) 3 4 := ⟨by decide +kernel, rfl⟩
theorem cs_S_bytesWith_1 : gClV M_S_bytesWith 61 4 y_V_byteCount M_V_byteCount 0 := ⟨⟨gW_c3 85 rfl rfl, gW_c1 27 rfl rfl, cd_V_byteCount, by decide +kernel, by decide +kernel⟩, rfl, gW_c3 86 rfl rfl, gW_c3 87 rfl rfl, TX3, 4, rfl⟩
theorem d_S_bytesWith_4 : gIs M_S_bytesWith 4 2 5 := Or.inr ⟨2, by decide +kernel, rfl, rfl⟩
theorem d_S_bytesWith_5 : gN M_S_bytesWith 5 0 6 := Or.inl ⟨0, by decide +kernel, by decide, rfl⟩
theorem d_S_bytesWith_6 : gIs M_S_bytesWith 6 3 7 := Or.inr ⟨3, by decide +kernel, rfl, rfl⟩
theorem d_S_bytesWith_7 : gIl M_S_bytesWith 7 3 8 := Or.inr ⟨3, by decide +kernel, rfl, rfl⟩
theorem d_S_bytesWith_8 : gAl M_S_bytesWith 8 0 9 := Or.inr ⟨0, by decide +kernel, rfl, rfl⟩
theorem d_S_bytesWith_9 : gGf M_S_bytesWith 9 2 1 12 := ⟨18, by decide +kernel, rfl, fl_S_18 _ rfl⟩
theorem d_S_bytesWith_12 : gD M_S_bytesWith 12 (.invokevirtual 65) 3 15 := ⟨by decide +kernel, rfl⟩
theorem cs_S_bytesWith_12 : gClV M_S_bytesWith 65 0 y_A_size M_A_size 0 := ⟨⟨gW_c3 93 rfl rfl, gW_c1 5 rfl rfl, cd_A_size, by decide +kernel, by decide +kernel⟩, rfl, gW_c3 94 rfl rfl, gW_c3 95 rfl rfl, TJx4a65c, 3, rfl⟩
theorem d_S_bytesWith_15 : gB M_S_bytesWith 15 (.if_icmp .ge 39) 39 18 54 := ⟨by decide +kernel, rfl, by decide⟩
theorem d_S_bytesWith_18 : gAl M_S_bytesWith 18 0 19 := Or.inr ⟨0, by decide +kernel, rfl, rfl⟩
theorem d_S_bytesWith_19 : gGf M_S_bytesWith 19 2 1 22 := ⟨18, by decide +kernel, rfl, fl_S_18 _ rfl⟩
theorem d_S_bytesWith_22 : gIl M_S_bytesWith 22 3 23 := Or.inr ⟨3, by decide +kernel, rfl, rfl⟩
theorem d_S_bytesWith_23 : gD M_S_bytesWith 23 (.invokevirtual 68) 3 26 := ⟨by decide +kernel, rfl⟩
theorem cs_S_bytesWith_23 : gClV M_S_bytesWith 68 0 y_A_get M_A_get 1 := ⟨⟨gW_c3 97 rfl rfl, gW_c1 5 rfl rfl, cd_A_get, by decide +kernel, by decide +kernel⟩, rfl, gW_c3 98 rfl rfl, gW_c3 99 rfl rfl, TJx4a65c, 3, rfl⟩
theorem d_S_bytesWith_26 : gD M_S_bytesWith 26 (.checkcast 37) 3 29 := ⟨by decide +kernel, rfl⟩
theorem cl_S_bytesWith_26 : Cond.classLink M_S_bytesWith.2.2.1 37 "FolderRounds$Version" ∈ gW := gW_c3 52 rfl rfl
theorem d_S_bytesWith_29 : gAst M_S_bytesWith 29 4 31 := Or.inl ⟨by decide +kernel, rfl⟩
theorem d_S_bytesWith_31 : gAl M_S_bytesWith 31 1 32 := Or.inr ⟨1, by decide +kernel, rfl, rfl⟩
theorem d_S_bytesWith_32 : gAl M_S_bytesWith 32 4 34 := Or.inl ⟨by decide +kernel, rfl⟩
theorem d_S_bytesWith_34 : gD M_S_bytesWith 34 (.invokevirtual 72) 3 37 := ⟨by decide +kernel, rfl⟩
theorem cs_S_bytesWith_34 : gClV M_S_bytesWith 72 4 y_V_replaces M_V_replaces 1 := ⟨⟨gW_c3 111 rfl rfl, gW_c1 27 rfl rfl, cd_V_replaces, by decide +kernel, by decide +kernel⟩, rfl, gW_c3 112 rfl rfl, gW_c3 113 rfl rfl, TX3, 4, rfl⟩
theorem d_S_bytesWith_37 : gB M_S_bytesWith 37 (.ifCond .ne 11) 11 40 48 := ⟨by decide +kernel, rfl, by decide⟩
theorem d_S_bytesWith_40 : gIl M_S_bytesWith 40 2 41 := Or.inr ⟨2, by decide +kernel, rfl, rfl⟩
theorem d_S_bytesWith_41 : gAl M_S_bytesWith 41 4 43 := Or.inl ⟨by decide +kernel, rfl⟩
theorem d_S_bytesWith_43 : gD M_S_bytesWith 43 (.invokevirtual 61) 3 46 := ⟨by decide +kernel, rfl⟩
theorem cs_S_bytesWith_43 : gClV M_S_bytesWith 61 4 y_V_byteCount M_V_byteCount 0 := ⟨⟨gW_c3 85 rfl rfl, gW_c1 27 rfl rfl, cd_V_byteCount, by decide +kernel, by decide +kernel⟩, rfl, gW_c3 86 rfl rfl, gW_c3 87 rfl rfl, TX3, 4, rfl⟩
theorem d_S_bytesWith_46 : gD M_S_bytesWith 46 (.iadd) 1 47 := ⟨by decide +kernel, rfl⟩
theorem d_S_bytesWith_47 : gIs M_S_bytesWith 47 2 48 := Or.inr ⟨2, by decide +kernel, rfl, rfl⟩
theorem d_S_bytesWith_48 : gIc M_S_bytesWith 48 3 1 51 := ⟨1, by decide +kernel, by decide, rfl⟩
theorem d_S_bytesWith_51 : gB M_S_bytesWith 51 (.goto (-44)) (-44) 54 7 := ⟨by decide +kernel, rfl, by decide⟩
theorem d_S_bytesWith_54 : gIl M_S_bytesWith 54 2 55 := Or.inr ⟨2, by decide +kernel, rfl, rfl⟩
theorem d_S_bytesWith_55 : gD M_S_bytesWith 55 (.ireturn) 1 56 := ⟨by decide +kernel, rfl⟩
theorem d_S_removeReplaced_0 : gAl M_S_removeReplaced 0 0 1 := Or.inr ⟨0, by decide +kernel, rfl, rfl⟩
theorem d_S_removeReplaced_1 : gGf M_S_removeReplaced 1 2 1 4 := ⟨18, by decide +kernel, rfl, fl_S_18 _ rfl⟩
theorem d_S_removeReplaced_4 : gD M_S_removeReplaced 4 (.invokevirtual 65) 3 7 := ⟨by decide +kernel, rfl⟩
theorem cs_S_removeReplaced_4 : gClV M_S_removeReplaced 65 0 y_A_size M_A_size 0 := ⟨⟨gW_c3 93 rfl rfl, gW_c1 5 rfl rfl, cd_A_size, by decide +kernel, by decide +kernel⟩, rfl, gW_c3 94 rfl rfl, gW_c3 95 rfl rfl, TJx4a65c, 3, rfl⟩
theorem d_S_removeReplaced_7 : gN M_S_removeReplaced 7 1 8 := Or.inl ⟨1, by decide +kernel, by decide, rfl⟩
theorem d_S_removeReplaced_8 : gD M_S_removeReplaced 8 (.isub) 1 9 := ⟨by decide +kernel, rfl⟩
theorem d_S_removeReplaced_9 : gIs M_S_removeReplaced 9 2 10 := Or.inr ⟨2, by decide +kernel, rfl, rfl⟩
theorem d_S_removeReplaced_10 : gIl M_S_removeReplaced 10 2 11 := Or.inr ⟨2, by decide +kernel, rfl, rfl⟩
theorem d_S_removeReplaced_11 : gB M_S_removeReplaced 11 (.ifCond .lt 36) 36 14 47 := ⟨by decide +kernel, rfl, by decide⟩
theorem d_S_removeReplaced_14 : gAl M_S_removeReplaced 14 1 15 := Or.inr ⟨1, by decide +kernel, rfl, rfl⟩
theorem d_S_removeReplaced_15 : gAl M_S_removeReplaced 15 0 16 := Or.inr ⟨0, by decide +kernel, rfl, rfl⟩
theorem d_S_removeReplaced_16 : gGf M_S_removeReplaced 16 2 1 19 := ⟨18, by decide +kernel, rfl, fl_S_18 _ rfl⟩
theorem d_S_removeReplaced_19 : gIl M_S_removeReplaced 19 2 20 := Or.inr ⟨2, by decide +kernel, rfl, rfl⟩
theorem d_S_removeReplaced_20 : gD M_S_removeReplaced 20 (.invokevirtual 68) 3 23 := ⟨by decide +kernel, rfl⟩
theorem cs_S_removeReplaced_20 : gClV M_S_removeReplaced 68 0 y_A_get M_A_get 1 := ⟨⟨gW_c3 97 rfl rfl, gW_c1 5 rfl rfl, cd_A_get, by decide +kernel, by decide +kernel⟩, rfl, gW_c3 98 rfl rfl, gW_c3 99 rfl rfl, TJx4a65c, 3, rfl⟩
theorem d_S_removeReplaced_23 : gD M_S_removeReplaced 23 (.checkcast 37) 3 26 := ⟨by decide +kernel, rfl⟩
theorem cl_S_removeReplaced_23 : Cond.classLink M_S_removeReplaced.2.2.1 37 "FolderRounds$Version" ∈ gW := gW_c3 52 rfl rfl
theorem d_S_removeReplaced_26 : gD M_S_removeReplaced 26 (.invokevirtual 72) 3 29 := ⟨by decide +kernel, rfl⟩
theorem cs_S_removeReplaced_26 : gClV M_S_removeReplaced 72 4 y_V_replaces M_V_replaces 1 := ⟨⟨gW_c3 111 rfl rfl, gW_c1 27 rfl rfl, cd_V_replaces, by decide +kernel, by decide +kernel⟩, rfl, gW_c3 112 rfl rfl, gW_c3 113 rfl rfl, TX3, 4, rfl⟩
theorem d_S_removeReplaced_29 : gB M_S_removeReplaced 29 (.ifCond .eq 12) 12 32 41 := ⟨by decide +kernel, rfl, by decide⟩
theorem d_S_removeReplaced_32 : gAl M_S_removeReplaced 32 0 33 := Or.inr ⟨0, by decide +kernel, rfl, rfl⟩
theorem d_S_removeReplaced_33 : gGf M_S_removeReplaced 33 2 1 36 := ⟨18, by decide +kernel, rfl, fl_S_18 _ rfl⟩
theorem d_S_removeReplaced_36 : gIl M_S_removeReplaced 36 2 37 := Or.inr ⟨2, by decide +kernel, rfl, rfl⟩
theorem d_S_removeReplaced_37 : gD M_S_removeReplaced 37 (.invokevirtual 76) 3 40 := ⟨by decide +kernel, rfl⟩
theorem cs_S_removeReplaced_37 : gClV M_S_removeReplaced 76 0 y_A_remove M_A_remove 1 := ⟨⟨gW_c3 119 rfl rfl, gW_c1 5 rfl rfl, cd_A_remove, by decide +kernel, by decide +kernel⟩, rfl, gW_c3 120 rfl rfl, gW_c3 121 rfl rfl, TJx4a65c, 3, rfl⟩
theorem d_S_removeReplaced_40 : gD M_S_removeReplaced 40 (.pop) 1 41 := ⟨by decide +kernel, rfl⟩
theorem d_S_removeReplaced_41 : gIc M_S_removeReplaced 41 2 (-1) 44 := ⟨(-1), by decide +kernel, by decide, rfl⟩
theorem d_S_removeReplaced_44 : gB M_S_removeReplaced 44 (.goto (-34)) (-34) 47 10 := ⟨by decide +kernel, rfl, by decide⟩
theorem d_S_removeReplaced_47 : gD M_S_removeReplaced 47 (.return_) 1 48 := ⟨by decide +kernel, rfl⟩
theorem d_S_insert_0 : gAl M_S_insert 0 0 1 := Or.inr ⟨0, by decide +kernel, rfl, rfl⟩
theorem d_S_insert_1 : gGf M_S_insert 1 2 1 4 := ⟨18, by decide +kernel, rfl, fl_S_18 _ rfl⟩
theorem d_S_insert_4 : gD M_S_insert 4 (.invokevirtual 65) 3 7 := ⟨by decide +kernel, rfl⟩
theorem cs_S_insert_4 : gClV M_S_insert 65 0 y_A_size M_A_size 0 := ⟨⟨gW_c3 93 rfl rfl, gW_c1 5 rfl rfl, cd_A_size, by decide +kernel, by decide +kernel⟩, rfl, gW_c3 94 rfl rfl, gW_c3 95 rfl rfl, TJx4a65c, 3, rfl⟩
theorem d_S_insert_7 : gIs M_S_insert 7 2 8 := Or.inr ⟨2, by decide +kernel, rfl, rfl⟩
theorem d_S_insert_8 : gIl M_S_insert 8 2 9 := Or.inr ⟨2, by decide +kernel, rfl, rfl⟩
theorem d_S_insert_9 : gB M_S_insert 9 (.ifCond .le 29) 29 12 38 := ⟨by decide +kernel, rfl, by decide⟩
theorem d_S_insert_12 : gAl M_S_insert 12 0 13 := Or.inr ⟨0, by decide +kernel, rfl, rfl⟩
theorem d_S_insert_13 : gGf M_S_insert 13 2 1 16 := ⟨18, by decide +kernel, rfl, fl_S_18 _ rfl⟩
theorem d_S_insert_16 : gIl M_S_insert 16 2 17 := Or.inr ⟨2, by decide +kernel, rfl, rfl⟩
theorem d_S_insert_17 : gN M_S_insert 17 1 18 := Or.inl ⟨1, by decide +kernel, by decide, rfl⟩
theorem d_S_insert_18 : gD M_S_insert 18 (.isub) 1 19 := ⟨by decide +kernel, rfl⟩
theorem d_S_insert_19 : gD M_S_insert 19 (.invokevirtual 68) 3 22 := ⟨by decide +kernel, rfl⟩
theorem cs_S_insert_19 : gClV M_S_insert 68 0 y_A_get M_A_get 1 := ⟨⟨gW_c3 97 rfl rfl, gW_c1 5 rfl rfl, cd_A_get, by decide +kernel, by decide +kernel⟩, rfl, gW_c3 98 rfl rfl, gW_c3 99 rfl rfl, TJx4a65c, 3, rfl⟩
theorem d_S_insert_22 : gD M_S_insert 22 (.checkcast 37) 3 25 := ⟨by decide +kernel, rfl⟩
theorem cl_S_insert_22 : Cond.classLink M_S_insert.2.2.1 37 "FolderRounds$Version" ∈ gW := gW_c3 52 rfl rfl
theorem d_S_insert_25 : gAl M_S_insert 25 1 26 := Or.inr ⟨1, by decide +kernel, rfl, rfl⟩
theorem d_S_insert_26 : gD M_S_insert 26 (.invokevirtual 79) 3 29 := ⟨by decide +kernel, rfl⟩
theorem cs_S_insert_26 : gClV M_S_insert 79 4 y_V_compareWith M_V_compareWith 1 := ⟨⟨gW_c3 132 rfl rfl, gW_c1 27 rfl rfl, cd_V_compareWith, by decide +kernel, by decide +kernel⟩, rfl, gW_c3 133 rfl rfl, gW_c3 134 rfl rfl, TX3, 4, rfl⟩
theorem d_S_insert_29 : gB M_S_insert 29 (.ifCond .le 9) 9 32 38 := ⟨by decide +kernel, rfl, by decide⟩
theorem d_S_insert_32 : gIc M_S_insert 32 2 (-1) 35 := ⟨(-1), by decide +kernel, by decide, rfl⟩
theorem d_S_insert_35 : gB M_S_insert 35 (.goto (-27)) (-27) 38 8 := ⟨by decide +kernel, rfl, by decide⟩
theorem d_S_insert_38 : gAl M_S_insert 38 0 39 := Or.inr ⟨0, by decide +kernel, rfl, rfl⟩
theorem d_S_insert_39 : gGf M_S_insert 39 2 1 42 := ⟨18, by decide +kernel, rfl, fl_S_18 _ rfl⟩
theorem d_S_insert_42 : gIl M_S_insert 42 2 43 := Or.inr ⟨2, by decide +kernel, rfl, rfl⟩
theorem d_S_insert_43 : gAl M_S_insert 43 1 44 := Or.inr ⟨1, by decide +kernel, rfl, rfl⟩
theorem d_S_insert_44 : gD M_S_insert 44 (.invokevirtual 82) 3 47 := ⟨by decide +kernel, rfl⟩
theorem cs_S_insert_44 : gClV M_S_insert 82 0 y_A_addAt M_A_addAt 2 := ⟨⟨gW_c3 139 rfl rfl, gW_c1 5 rfl rfl, cd_A_addAt, by decide +kernel, by decide +kernel⟩, rfl, gW_c3 140 rfl rfl, gW_c3 141 rfl rfl, TJx4a65c, 3, rfl⟩
theorem d_S_insert_47 : gD M_S_insert 47 (.return_) 1 48 := ⟨by decide +kernel, rfl⟩
theorem d_S_countSiblings_0 : gN M_S_countSiblings 0 0 1 := Or.inl ⟨0, by decide +kernel, by decide, rfl⟩
theorem d_S_countSiblings_1 : gIs M_S_countSiblings 1 2 2 := Or.inr ⟨2, by decide +kernel, rfl, rfl⟩
theorem d_S_countSiblings_2 : gN M_S_countSiblings 2 0 3 := Or.inl ⟨0, by decide +kernel, by decide, rfl⟩
theorem d_S_countSiblings_3 : gIs M_S_countSiblings 3 3 4 := Or.inr ⟨3, by decide +kernel, rfl, rfl⟩
theorem d_S_countSiblings_4 : gIl M_S_countSiblings 4 3 5 := Or.inr ⟨3, by decide +kernel, rfl, rfl⟩
theorem d_S_countSiblings_5 : gAl M_S_countSiblings 5 0 6 := Or.inr ⟨0, by decide +kernel, rfl, rfl⟩
theorem d_S_countSiblings_6 : gGf M_S_countSiblings 6 2 1 9 := ⟨18, by decide +kernel, rfl, fl_S_18 _ rfl⟩
theorem d_S_countSiblings_9 : gD M_S_countSiblings 9 (.invokevirtual 65) 3 12 := ⟨by decide +kernel, rfl⟩
theorem cs_S_countSiblings_9 : gClV M_S_countSiblings 65 0 y_A_size M_A_size 0 := ⟨⟨gW_c3 93 rfl rfl, gW_c1 5 rfl rfl, cd_A_size, by decide +kernel, by decide +kernel⟩, rfl, gW_c3 94 rfl rfl, gW_c3 95 rfl rfl, TJx4a65c, 3, rfl⟩
theorem d_S_countSiblings_12 : gB M_S_countSiblings 12 (.if_icmp .ge 30) 30 15 42 := ⟨by decide +kernel, rfl, by decide⟩
theorem d_S_countSiblings_15 : gAl M_S_countSiblings 15 0 16 := Or.inr ⟨0, by decide +kernel, rfl, rfl⟩
theorem d_S_countSiblings_16 : gGf M_S_countSiblings 16 2 1 19 := ⟨18, by decide +kernel, rfl, fl_S_18 _ rfl⟩
theorem d_S_countSiblings_19 : gIl M_S_countSiblings 19 3 20 := Or.inr ⟨3, by decide +kernel, rfl, rfl⟩
theorem d_S_countSiblings_20 : gD M_S_countSiblings 20 (.invokevirtual 68) 3 23 := ⟨by decide +kernel, rfl⟩
theorem cs_S_countSiblings_20 : gClV M_S_countSiblings 68 0 y_A_get M_A_get 1 := ⟨⟨gW_c3 97 rfl rfl, gW_c1 5 rfl rfl, cd_A_get, by decide +kernel, by decide +kernel⟩, rfl, gW_c3 98 rfl rfl, gW_c3 99 rfl rfl, TJx4a65c, 3, rfl⟩
theorem d_S_countSiblings_23 : gD M_S_countSiblings 23 (.checkcast 37) 3 26 := ⟨by decide +kernel, rfl⟩
theorem cl_S_countSiblings_23 : Cond.classLink M_S_countSiblings.2.2.1 37 "FolderRounds$Version" ∈ gW := gW_c3 52 rfl rfl
theorem d_S_countSiblings_26 : gIl M_S_countSiblings 26 1 27 := Or.inr ⟨1, by decide +kernel, rfl, rfl⟩
theorem d_S_countSiblings_27 : gD M_S_countSiblings 27 (.invokevirtual 97) 3 30 := ⟨by decide +kernel, rfl⟩
theorem cs_S_countSiblings_27 : gClV M_S_countSiblings 97 4 y_V_hasBytesOf M_V_hasBytesOf 1 := ⟨⟨gW_c3 233 rfl rfl, gW_c1 27 rfl rfl, cd_V_hasBytesOf, by decide +kernel, by decide +kernel⟩, rfl, gW_c3 234 rfl rfl, gW_c3 235 rfl rfl, TX3, 4, rfl⟩
theorem d_S_countSiblings_30 : gB M_S_countSiblings 30 (.ifCond .eq 6) 6 33 36 := ⟨by decide +kernel, rfl, by decide⟩
theorem d_S_countSiblings_33 : gIc M_S_countSiblings 33 2 1 36 := ⟨1, by decide +kernel, by decide, rfl⟩
theorem d_S_countSiblings_36 : gIc M_S_countSiblings 36 3 1 39 := ⟨1, by decide +kernel, by decide, rfl⟩
theorem d_S_countSiblings_39 : gB M_S_countSiblings 39 (.goto (-35)) (-35) 42 4 := ⟨by decide +kernel, rfl, by decide⟩
theorem d_S_countSiblings_42 : gIl M_S_countSiblings 42 2 43 := Or.inr ⟨2, by decide +kernel, rfl, rfl⟩
theorem d_S_countSiblings_43 : gD M_S_countSiblings 43 (.ireturn) 1 44 := ⟨by decide +kernel, rfl⟩
theorem d_S_findSibling_0 : gN M_S_findSibling 0 0 1 := Or.inl ⟨0, by decide +kernel, by decide, rfl⟩
theorem d_S_findSibling_1 : gIs M_S_findSibling 1 3 2 := Or.inr ⟨3, by decide +kernel, rfl, rfl⟩
theorem d_S_findSibling_2 : gN M_S_findSibling 2 0 3 := Or.inl ⟨0, by decide +kernel, by decide, rfl⟩
theorem d_S_findSibling_3 : gIs M_S_findSibling 3 4 5 := Or.inl ⟨by decide +kernel, rfl⟩
theorem d_S_findSibling_5 : gIl M_S_findSibling 5 4 7 := Or.inl ⟨by decide +kernel, rfl⟩
theorem d_S_findSibling_7 : gAl M_S_findSibling 7 0 8 := Or.inr ⟨0, by decide +kernel, rfl, rfl⟩
theorem d_S_findSibling_8 : gGf M_S_findSibling 8 2 1 11 := ⟨18, by decide +kernel, rfl, fl_S_18 _ rfl⟩
theorem d_S_findSibling_11 : gD M_S_findSibling 11 (.invokevirtual 65) 3 14 := ⟨by decide +kernel, rfl⟩
theorem cs_S_findSibling_11 : gClV M_S_findSibling 65 0 y_A_size M_A_size 0 := ⟨⟨gW_c3 93 rfl rfl, gW_c1 5 rfl rfl, cd_A_size, by decide +kernel, by decide +kernel⟩, rfl, gW_c3 94 rfl rfl, gW_c3 95 rfl rfl, TJx4a65c, 3, rfl⟩
theorem d_S_findSibling_14 : gB M_S_findSibling 14 (.if_icmp .ge 43) 43 17 57 := ⟨by decide +kernel, rfl, by decide⟩
theorem d_S_findSibling_17 : gAl M_S_findSibling 17 0 18 := Or.inr ⟨0, by decide +kernel, rfl, rfl⟩
theorem d_S_findSibling_18 : gGf M_S_findSibling 18 2 1 21 := ⟨18, by decide +kernel, rfl, fl_S_18 _ rfl⟩
theorem d_S_findSibling_21 : gIl M_S_findSibling 21 4 23 := Or.inl ⟨by decide +kernel, rfl⟩
theorem d_S_findSibling_23 : gD M_S_findSibling 23 (.invokevirtual 68) 3 26 := ⟨by decide +kernel, rfl⟩
theorem cs_S_findSibling_23 : gClV M_S_findSibling 68 0 y_A_get M_A_get 1 := ⟨⟨gW_c3 97 rfl rfl, gW_c1 5 rfl rfl, cd_A_get, by decide +kernel, by decide +kernel⟩, rfl, gW_c3 98 rfl rfl, gW_c3 99 rfl rfl, TJx4a65c, 3, rfl⟩
theorem d_S_findSibling_26 : gD M_S_findSibling 26 (.checkcast 37) 3 29 := ⟨by decide +kernel, rfl⟩
theorem cl_S_findSibling_26 : Cond.classLink M_S_findSibling.2.2.1 37 "FolderRounds$Version" ∈ gW := gW_c3 52 rfl rfl
theorem d_S_findSibling_29 : gAst M_S_findSibling 29 5 31 := Or.inl ⟨by decide +kernel, rfl⟩
theorem d_S_findSibling_31 : gAl M_S_findSibling 31 5 33 := Or.inl ⟨by decide +kernel, rfl⟩
theorem d_S_findSibling_33 : gIl M_S_findSibling 33 1 34 := Or.inr ⟨1, by decide +kernel, rfl, rfl⟩
theorem d_S_findSibling_34 : gD M_S_findSibling 34 (.invokevirtual 97) 3 37 := ⟨by decide +kernel, rfl⟩
theorem cs_S_findSibling_34 : gClV M_S_findSibling 97 4 y_V_hasBytesOf M_V_hasBytesOf 1 := ⟨⟨gW_c3 233 rfl rfl, gW_c1 27 rfl rfl, cd_V_hasBytesOf, by decide +kernel, by decide +kernel⟩, rfl, gW_c3 234 rfl rfl, gW_c3 235 rfl rfl, TX3, 4, rfl⟩
theorem d_S_findSibling_37 : gB M_S_findSibling 37 (.ifCond .eq 14) 14 40 51 := ⟨by decide +kernel, rfl, by decide⟩
theorem d_S_findSibling_40 : gIl M_S_findSibling 40 3 41 := Or.inr ⟨3, by decide +kernel, rfl, rfl⟩
theorem d_S_findSibling_41 : gIl M_S_findSibling 41 2 42 := Or.inr ⟨2, by decide +kernel, rfl, rfl⟩
theorem d_S_findSibling_42 : gB M_S_findSibling 42 (.if_icmp .ne 6) 6 45 48 := ⟨by decide +kernel, rfl, by decide⟩
theorem d_S_findSibling_45 : gAl M_S_findSibling 45 5 47 := Or.inl ⟨by decide +kernel, rfl⟩
theorem d_S_findSibling_47 : gD M_S_findSibling 47 (.areturn) 1 48 := ⟨by decide +kernel, rfl⟩
theorem d_S_findSibling_48 : gIc M_S_findSibling 48 3 1 51 := ⟨1, by decide +kernel, by decide, rfl⟩
theorem d_S_findSibling_51 : gIc M_S_findSibling 51 4 1 54 := ⟨1, by decide +kernel, by decide, rfl⟩
theorem d_S_findSibling_54 : gB M_S_findSibling 54 (.goto (-49)) (-49) 57 5 := ⟨by decide +kernel, rfl, by decide⟩
theorem d_S_findSibling_57 : gD M_S_findSibling 57 (.aconst_null) 1 58 := ⟨by decide +kernel, rfl⟩
theorem d_S_findSibling_58 : gD M_S_findSibling 58 (.areturn) 1 59 := ⟨by decide +kernel, rfl⟩
theorem d_S_lacks_0 : gAl M_S_lacks 0 0 1 := Or.inr ⟨0, by decide +kernel, rfl, rfl⟩
theorem d_S_lacks_1 : gGf M_S_lacks 1 2 2 4 := ⟨25, by decide +kernel, rfl, fl_S_25 _ rfl⟩
theorem d_S_lacks_4 : gAl M_S_lacks 4 0 5 := Or.inr ⟨0, by decide +kernel, rfl, rfl⟩
theorem d_S_lacks_5 : gGf M_S_lacks 5 2 0 8 := ⟨9, by decide +kernel, rfl, fl_S_9 _ rfl⟩
theorem d_S_lacks_8 : gAl M_S_lacks 8 1 9 := Or.inr ⟨1, by decide +kernel, rfl, rfl⟩
theorem d_S_lacks_9 : gD M_S_lacks 9 (.invokevirtual 42) 3 12 := ⟨by decide +kernel, rfl⟩
theorem cs_S_lacks_9 : gClV M_S_lacks 42 3 y_T_covers M_T_covers 2 := ⟨⟨gW_c4 60 rfl rfl, gW_c1 6 rfl rfl, cd_T_covers, by decide +kernel, by decide +kernel⟩, rfl, gW_c4 61 rfl rfl, gW_c4 62 rfl rfl, TX2, 1, rfl⟩
theorem d_S_lacks_12 : gB M_S_lacks 12 (.ifCond .ne 7) 7 15 19 := ⟨by decide +kernel, rfl, by decide⟩
theorem d_S_lacks_15 : gN M_S_lacks 15 1 16 := Or.inl ⟨1, by decide +kernel, by decide, rfl⟩
theorem d_S_lacks_16 : gB M_S_lacks 16 (.goto 4) 4 19 20 := ⟨by decide +kernel, rfl, by decide⟩
theorem d_S_lacks_19 : gN M_S_lacks 19 0 20 := Or.inl ⟨0, by decide +kernel, by decide, rfl⟩
theorem d_S_lacks_20 : gD M_S_lacks 20 (.ireturn) 1 21 := ⟨by decide +kernel, rfl⟩
theorem d_S_learn_0 : gN M_S_learn 0 0 1 := Or.inl ⟨0, by decide +kernel, by decide, rfl⟩
theorem d_S_learn_1 : gIs M_S_learn 1 2 2 := Or.inr ⟨2, by decide +kernel, rfl, rfl⟩
theorem d_S_learn_2 : gIl M_S_learn 2 2 3 := Or.inr ⟨2, by decide +kernel, rfl, rfl⟩
theorem d_S_learn_3 : gN M_S_learn 3 4 4 := Or.inl ⟨4, by decide +kernel, by decide, rfl⟩
theorem d_S_learn_4 : gB M_S_learn 4 (.if_icmp .ge 26) 26 7 30 := ⟨by decide +kernel, rfl, by decide⟩
theorem d_S_learn_7 : gIl M_S_learn 7 2 8 := Or.inr ⟨2, by decide +kernel, rfl, rfl⟩
theorem d_S_learn_8 : gAl M_S_learn 8 0 9 := Or.inr ⟨0, by decide +kernel, rfl, rfl⟩
theorem d_S_learn_9 : gGf M_S_learn 9 2 0 12 := ⟨9, by decide +kernel, rfl, fl_S_9 _ rfl⟩
theorem d_S_learn_12 : gB M_S_learn 12 (.if_icmp .eq 12) 12 15 24 := ⟨by decide +kernel, rfl, by decide⟩
theorem d_S_learn_15 : gAl M_S_learn 15 0 16 := Or.inr ⟨0, by decide +kernel, rfl, rfl⟩
theorem d_S_learn_16 : gGf M_S_learn 16 2 2 19 := ⟨25, by decide +kernel, rfl, fl_S_25 _ rfl⟩
theorem d_S_learn_19 : gIl M_S_learn 19 2 20 := Or.inr ⟨2, by decide +kernel, rfl, rfl⟩
theorem d_S_learn_20 : gAl M_S_learn 20 1 21 := Or.inr ⟨1, by decide +kernel, rfl, rfl⟩
theorem d_S_learn_21 : gD M_S_learn 21 (.invokevirtual 86) 3 24 := ⟨by decide +kernel, rfl⟩
theorem cs_S_learn_21 : gClV M_S_learn 86 3 y_T_joinStation M_T_joinStation 2 := ⟨⟨gW_c4 68 rfl rfl, gW_c1 6 rfl rfl, cd_T_joinStation, by decide +kernel, by decide +kernel⟩, rfl, gW_c4 69 rfl rfl, gW_c4 70 rfl rfl, TX2, 1, rfl⟩
theorem d_S_learn_24 : gIc M_S_learn 24 2 1 27 := ⟨1, by decide +kernel, by decide, rfl⟩
theorem d_S_learn_27 : gB M_S_learn 27 (.goto (-25)) (-25) 30 2 := ⟨by decide +kernel, rfl, by decide⟩
theorem d_S_learn_30 : gD M_S_learn 30 (.return_) 1 31 := ⟨by decide +kernel, rfl⟩
theorem d_S_dropMarksThatAllHave_0 : gAl M_S_dropMarksThatAllHave 0 0 1 := Or.inr ⟨0, by decide +kernel, rfl, rfl⟩
theorem d_S_dropMarksThatAllHave_1 : gGf M_S_dropMarksThatAllHave 1 2 1 4 := ⟨18, by decide +kernel, rfl, fl_S_18 _ rfl⟩
theorem d_S_dropMarksThatAllHave_4 : gD M_S_dropMarksThatAllHave 4 (.invokevirtual 65) 3 7 := ⟨by decide +kernel, rfl⟩
theorem cs_S_dropMarksThatAllHave_4 : gClV M_S_dropMarksThatAllHave 65 0 y_A_size M_A_size 0 := ⟨⟨gW_c3 93 rfl rfl, gW_c1 5 rfl rfl, cd_A_size, by decide +kernel, by decide +kernel⟩, rfl, gW_c3 94 rfl rfl, gW_c3 95 rfl rfl, TJx4a65c, 3, rfl⟩
theorem d_S_dropMarksThatAllHave_7 : gN M_S_dropMarksThatAllHave 7 1 8 := Or.inl ⟨1, by decide +kernel, by decide, rfl⟩
theorem d_S_dropMarksThatAllHave_8 : gD M_S_dropMarksThatAllHave 8 (.isub) 1 9 := ⟨by decide +kernel, rfl⟩
theorem d_S_dropMarksThatAllHave_9 : gIs M_S_dropMarksThatAllHave 9 1 10 := Or.inr ⟨1, by decide +kernel, rfl, rfl⟩
theorem d_S_dropMarksThatAllHave_10 : gIl M_S_dropMarksThatAllHave 10 1 11 := Or.inr ⟨1, by decide +kernel, rfl, rfl⟩
theorem d_S_dropMarksThatAllHave_11 : gB M_S_dropMarksThatAllHave 11 (.ifCond .lt 45) 45 14 56 := ⟨by decide +kernel, rfl, by decide⟩
theorem d_S_dropMarksThatAllHave_14 : gAl M_S_dropMarksThatAllHave 14 0 15 := Or.inr ⟨0, by decide +kernel, rfl, rfl⟩
theorem d_S_dropMarksThatAllHave_15 : gGf M_S_dropMarksThatAllHave 15 2 1 18 := ⟨18, by decide +kernel, rfl, fl_S_18 _ rfl⟩
theorem d_S_dropMarksThatAllHave_18 : gIl M_S_dropMarksThatAllHave 18 1 19 := Or.inr ⟨1, by decide +kernel, rfl, rfl⟩
theorem d_S_dropMarksThatAllHave_19 : gD M_S_dropMarksThatAllHave 19 (.invokevirtual 68) 3 22 := ⟨by decide +kernel, rfl⟩
theorem cs_S_dropMarksThatAllHave_19 : gClV M_S_dropMarksThatAllHave 68 0 y_A_get M_A_get 1 := ⟨⟨gW_c3 97 rfl rfl, gW_c1 5 rfl rfl, cd_A_get, by decide +kernel, by decide +kernel⟩, rfl, gW_c3 98 rfl rfl, gW_c3 99 rfl rfl, TJx4a65c, 3, rfl⟩
theorem d_S_dropMarksThatAllHave_22 : gD M_S_dropMarksThatAllHave 22 (.checkcast 37) 3 25 := ⟨by decide +kernel, rfl⟩
theorem cl_S_dropMarksThatAllHave_22 : Cond.classLink M_S_dropMarksThatAllHave.2.2.1 37 "FolderRounds$Version" ∈ gW := gW_c3 52 rfl rfl
theorem d_S_dropMarksThatAllHave_25 : gAst M_S_dropMarksThatAllHave 25 2 26 := Or.inr ⟨2, by decide +kernel, rfl, rfl⟩
theorem d_S_dropMarksThatAllHave_26 : gAl M_S_dropMarksThatAllHave 26 2 27 := Or.inr ⟨2, by decide +kernel, rfl, rfl⟩
theorem d_S_dropMarksThatAllHave_27 : gD M_S_dropMarksThatAllHave 27 (.invokevirtual 90) 3 30 := ⟨by decide +kernel, rfl⟩
theorem cs_S_dropMarksThatAllHave_27 : gClV M_S_dropMarksThatAllHave 90 4 y_V_isMark M_V_isMark 0 := ⟨⟨gW_c4 76 rfl rfl, gW_c1 27 rfl rfl, cd_V_isMark, by decide +kernel, by decide +kernel⟩, rfl, gW_c3 90 rfl rfl, gW_c3 91 rfl rfl, TX3, 4, rfl⟩
theorem d_S_dropMarksThatAllHave_30 : gB M_S_dropMarksThatAllHave 30 (.ifCond .eq 20) 20 33 50 := ⟨by decide +kernel, rfl, by decide⟩
theorem d_S_dropMarksThatAllHave_33 : gAl M_S_dropMarksThatAllHave 33 0 34 := Or.inr ⟨0, by decide +kernel, rfl, rfl⟩
theorem d_S_dropMarksThatAllHave_34 : gAl M_S_dropMarksThatAllHave 34 2 35 := Or.inr ⟨2, by decide +kernel, rfl, rfl⟩
theorem d_S_dropMarksThatAllHave_35 : gD M_S_dropMarksThatAllHave 35 (.invokevirtual 94) 3 38 := ⟨by decide +kernel, rfl⟩
theorem cs_S_dropMarksThatAllHave_35 : gClV M_S_dropMarksThatAllHave 94 2 y_S_allHave M_S_allHave 1 := ⟨⟨gW_c4 77 rfl rfl, gW_c1 2 rfl rfl, cd_S_allHave, by decide +kernel, by decide +kernel⟩, rfl, gW_c4 78 rfl rfl, gW_c4 79 rfl rfl, TX1, 3, rfl⟩
theorem d_S_dropMarksThatAllHave_38 : gB M_S_dropMarksThatAllHave 38 (.ifCond .eq 12) 12 41 50 := ⟨by decide +kernel, rfl, by decide⟩
theorem d_S_dropMarksThatAllHave_41 : gAl M_S_dropMarksThatAllHave 41 0 42 := Or.inr ⟨0, by decide +kernel, rfl, rfl⟩
theorem d_S_dropMarksThatAllHave_42 : gGf M_S_dropMarksThatAllHave 42 2 1 45 := ⟨18, by decide +kernel, rfl, fl_S_18 _ rfl⟩
theorem d_S_dropMarksThatAllHave_45 : gIl M_S_dropMarksThatAllHave 45 1 46 := Or.inr ⟨1, by decide +kernel, rfl, rfl⟩
theorem d_S_dropMarksThatAllHave_46 : gD M_S_dropMarksThatAllHave 46 (.invokevirtual 76) 3 49 := ⟨by decide +kernel, rfl⟩
theorem cs_S_dropMarksThatAllHave_46 : gClV M_S_dropMarksThatAllHave 76 0 y_A_remove M_A_remove 1 := ⟨⟨gW_c3 119 rfl rfl, gW_c1 5 rfl rfl, cd_A_remove, by decide +kernel, by decide +kernel⟩, rfl, gW_c3 120 rfl rfl, gW_c3 121 rfl rfl, TJx4a65c, 3, rfl⟩
theorem d_S_dropMarksThatAllHave_49 : gD M_S_dropMarksThatAllHave 49 (.pop) 1 50 := ⟨by decide +kernel, rfl⟩
theorem d_S_dropMarksThatAllHave_50 : gIc M_S_dropMarksThatAllHave 50 1 (-1) 53 := ⟨(-1), by decide +kernel, by decide, rfl⟩
theorem d_S_dropMarksThatAllHave_53 : gB M_S_dropMarksThatAllHave 53 (.goto (-43)) (-43) 56 10 := ⟨by decide +kernel, rfl, by decide⟩
theorem d_S_dropMarksThatAllHave_56 : gD M_S_dropMarksThatAllHave 56 (.return_) 1 57 := ⟨by decide +kernel, rfl⟩
theorem d_S_allHave_0 : gN M_S_allHave 0 0 1 := Or.inl ⟨0, by decide +kernel, by decide, rfl⟩
theorem d_S_allHave_1 : gIs M_S_allHave 1 2 2 := Or.inr ⟨2, by decide +kernel, rfl, rfl⟩
theorem d_S_allHave_2 : gIl M_S_allHave 2 2 3 := Or.inr ⟨2, by decide +kernel, rfl, rfl⟩
theorem d_S_allHave_3 : gN M_S_allHave 3 4 4 := Or.inl ⟨4, by decide +kernel, by decide, rfl⟩
theorem d_S_allHave_4 : gB M_S_allHave 4 (.if_icmp .ge 23) 23 7 27 := ⟨by decide +kernel, rfl, by decide⟩
theorem d_S_allHave_7 : gAl M_S_allHave 7 0 8 := Or.inr ⟨0, by decide +kernel, rfl, rfl⟩
theorem d_S_allHave_8 : gGf M_S_allHave 8 2 2 11 := ⟨25, by decide +kernel, rfl, fl_S_25 _ rfl⟩
theorem d_S_allHave_11 : gIl M_S_allHave 11 2 12 := Or.inr ⟨2, by decide +kernel, rfl, rfl⟩
theorem d_S_allHave_12 : gAl M_S_allHave 12 1 13 := Or.inr ⟨1, by decide +kernel, rfl, rfl⟩
theorem d_S_allHave_13 : gD M_S_allHave 13 (.invokevirtual 42) 3 16 := ⟨by decide +kernel, rfl⟩
theorem cs_S_allHave_13 : gClV M_S_allHave 42 3 y_T_covers M_T_covers 2 := ⟨⟨gW_c4 60 rfl rfl, gW_c1 6 rfl rfl, cd_T_covers, by decide +kernel, by decide +kernel⟩, rfl, gW_c4 61 rfl rfl, gW_c4 62 rfl rfl, TX2, 1, rfl⟩
theorem d_S_allHave_16 : gB M_S_allHave 16 (.ifCond .ne 5) 5 19 21 := ⟨by decide +kernel, rfl, by decide⟩
theorem d_S_allHave_19 : gN M_S_allHave 19 0 20 := Or.inl ⟨0, by decide +kernel, by decide, rfl⟩
theorem d_S_allHave_20 : gD M_S_allHave 20 (.ireturn) 1 21 := ⟨by decide +kernel, rfl⟩
theorem d_S_allHave_21 : gIc M_S_allHave 21 2 1 24 := ⟨1, by decide +kernel, by decide, rfl⟩
theorem d_S_allHave_24 : gB M_S_allHave 24 (.goto (-22)) (-22) 27 2 := ⟨by decide +kernel, rfl, by decide⟩
theorem d_S_allHave_27 : gN M_S_allHave 27 1 28 := Or.inl ⟨1, by decide +kernel, by decide, rfl⟩
theorem d_S_allHave_28 : gD M_S_allHave 28 (.ireturn) 1 29 := ⟨by decide +kernel, rfl⟩
theorem d_S_knowsLackAmong_0 : gN M_S_knowsLackAmong 0 0 1 := Or.inl ⟨0, by decide +kernel, by decide, rfl⟩
theorem d_S_knowsLackAmong_1 : gIs M_S_knowsLackAmong 1 3 2 := Or.inr ⟨3, by decide +kernel, rfl, rfl⟩
theorem d_S_knowsLackAmong_2 : gIl M_S_knowsLackAmong 2 3 3 := Or.inr ⟨3, by decide +kernel, rfl, rfl⟩
theorem d_S_knowsLackAmong_3 : gN M_S_knowsLackAmong 3 4 4 := Or.inl ⟨4, by decide +kernel, by decide, rfl⟩
theorem d_S_knowsLackAmong_4 : gB M_S_knowsLackAmong 4 (.if_icmp .ge 52) 52 7 56 := ⟨by decide +kernel, rfl, by decide⟩
theorem d_S_knowsLackAmong_7 : gIl M_S_knowsLackAmong 7 3 8 := Or.inr ⟨3, by decide +kernel, rfl, rfl⟩
theorem d_S_knowsLackAmong_8 : gAl M_S_knowsLackAmong 8 0 9 := Or.inr ⟨0, by decide +kernel, rfl, rfl⟩
theorem d_S_knowsLackAmong_9 : gGf M_S_knowsLackAmong 9 2 0 12 := ⟨9, by decide +kernel, rfl, fl_S_9 _ rfl⟩
theorem d_S_knowsLackAmong_12 : gB M_S_knowsLackAmong 12 (.if_icmp .eq 16) 16 15 28 := ⟨by decide +kernel, rfl, by decide⟩
theorem d_S_knowsLackAmong_15 : gIl M_S_knowsLackAmong 15 1 16 := Or.inr ⟨1, by decide +kernel, rfl, rfl⟩
theorem d_S_knowsLackAmong_16 : gIl M_S_knowsLackAmong 16 3 17 := Or.inr ⟨3, by decide +kernel, rfl, rfl⟩
theorem d_S_knowsLackAmong_17 : gD M_S_knowsLackAmong 17 (.ishr) 1 18 := ⟨by decide +kernel, rfl⟩
theorem d_S_knowsLackAmong_18 : gN M_S_knowsLackAmong 18 1 19 := Or.inl ⟨1, by decide +kernel, by decide, rfl⟩
theorem d_S_knowsLackAmong_19 : gD M_S_knowsLackAmong 19 (.iand) 1 20 := ⟨by decide +kernel, rfl⟩
theorem d_S_knowsLackAmong_20 : gN M_S_knowsLackAmong 20 1 21 := Or.inl ⟨1, by decide +kernel, by decide, rfl⟩
theorem d_S_knowsLackAmong_21 : gB M_S_knowsLackAmong 21 (.if_icmp .ne 7) 7 24 28 := ⟨by decide +kernel, rfl, by decide⟩
theorem d_S_knowsLackAmong_24 : gN M_S_knowsLackAmong 24 1 25 := Or.inl ⟨1, by decide +kernel, by decide, rfl⟩
theorem d_S_knowsLackAmong_25 : gB M_S_knowsLackAmong 25 (.goto 4) 4 28 29 := ⟨by decide +kernel, rfl, by decide⟩
theorem d_S_knowsLackAmong_28 : gN M_S_knowsLackAmong 28 0 29 := Or.inl ⟨0, by decide +kernel, by decide, rfl⟩
theorem d_S_knowsLackAmong_29 : gIs M_S_knowsLackAmong 29 4 31 := Or.inl ⟨by decide +kernel, rfl⟩
theorem d_S_knowsLackAmong_31 : gIl M_S_knowsLackAmong 31 4 33 := Or.inl ⟨by decide +kernel, rfl⟩
theorem d_S_knowsLackAmong_33 : gB M_S_knowsLackAmong 33 (.ifCond .eq 17) 17 36 50 := ⟨by decide +kernel, rfl, by decide⟩
theorem d_S_knowsLackAmong_36 : gAl M_S_knowsLackAmong 36 0 37 := Or.inr ⟨0, by decide +kernel, rfl, rfl⟩
theorem d_S_knowsLackAmong_37 : gGf M_S_knowsLackAmong 37 2 2 40 := ⟨25, by decide +kernel, rfl, fl_S_25 _ rfl⟩
theorem d_S_knowsLackAmong_40 : gIl M_S_knowsLackAmong 40 3 41 := Or.inr ⟨3, by decide +kernel, rfl, rfl⟩
theorem d_S_knowsLackAmong_41 : gAl M_S_knowsLackAmong 41 2 42 := Or.inr ⟨2, by decide +kernel, rfl, rfl⟩
theorem d_S_knowsLackAmong_42 : gD M_S_knowsLackAmong 42 (.invokevirtual 42) 3 45 := ⟨by decide +kernel, rfl⟩
theorem cs_S_knowsLackAmong_42 : gClV M_S_knowsLackAmong 42 3 y_T_covers M_T_covers 2 := ⟨⟨gW_c4 60 rfl rfl, gW_c1 6 rfl rfl, cd_T_covers, by decide +kernel, by decide +kernel⟩, rfl, gW_c4 61 rfl rfl, gW_c4 62 rfl rfl, TX2, 1, rfl⟩
theorem d_S_knowsLackAmong_45 : gB M_S_knowsLackAmong 45 (.ifCond .ne 5) 5 48 50 := ⟨by decide +kernel, rfl, by decide⟩
theorem d_S_knowsLackAmong_48 : gN M_S_knowsLackAmong 48 1 49 := Or.inl ⟨1, by decide +kernel, by decide, rfl⟩
theorem d_S_knowsLackAmong_49 : gD M_S_knowsLackAmong 49 (.ireturn) 1 50 := ⟨by decide +kernel, rfl⟩
theorem d_S_knowsLackAmong_50 : gIc M_S_knowsLackAmong 50 3 1 53 := ⟨1, by decide +kernel, by decide, rfl⟩
theorem d_S_knowsLackAmong_53 : gB M_S_knowsLackAmong 53 (.goto (-51)) (-51) 56 2 := ⟨by decide +kernel, rfl, by decide⟩
theorem d_S_knowsLackAmong_56 : gN M_S_knowsLackAmong 56 0 57 := Or.inl ⟨0, by decide +kernel, by decide, rfl⟩
theorem d_S_knowsLackAmong_57 : gD M_S_knowsLackAmong 57 (.ireturn) 1 58 := ⟨by decide +kernel, rfl⟩
theorem d_S_countMarks_0 : gN M_S_countMarks 0 0 1 := Or.inl ⟨0, by decide +kernel, by decide, rfl⟩
theorem d_S_countMarks_1 : gIs M_S_countMarks 1 1 2 := Or.inr ⟨1, by decide +kernel, rfl, rfl⟩
theorem d_S_countMarks_2 : gN M_S_countMarks 2 0 3 := Or.inl ⟨0, by decide +kernel, by decide, rfl⟩
theorem d_S_countMarks_3 : gIs M_S_countMarks 3 2 4 := Or.inr ⟨2, by decide +kernel, rfl, rfl⟩
theorem d_S_countMarks_4 : gIl M_S_countMarks 4 2 5 := Or.inr ⟨2, by decide +kernel, rfl, rfl⟩
theorem d_S_countMarks_5 : gAl M_S_countMarks 5 0 6 := Or.inr ⟨0, by decide +kernel, rfl, rfl⟩
theorem d_S_countMarks_6 : gGf M_S_countMarks 6 2 1 9 := ⟨18, by decide +kernel, rfl, fl_S_18 _ rfl⟩
theorem d_S_countMarks_9 : gD M_S_countMarks 9 (.invokevirtual 65) 3 12 := ⟨by decide +kernel, rfl⟩
theorem cs_S_countMarks_9 : gClV M_S_countMarks 65 0 y_A_size M_A_size 0 := ⟨⟨gW_c3 93 rfl rfl, gW_c1 5 rfl rfl, cd_A_size, by decide +kernel, by decide +kernel⟩, rfl, gW_c3 94 rfl rfl, gW_c3 95 rfl rfl, TJx4a65c, 3, rfl⟩
theorem d_S_countMarks_12 : gB M_S_countMarks 12 (.if_icmp .ge 29) 29 15 41 := ⟨by decide +kernel, rfl, by decide⟩
theorem d_S_countMarks_15 : gAl M_S_countMarks 15 0 16 := Or.inr ⟨0, by decide +kernel, rfl, rfl⟩
theorem d_S_countMarks_16 : gGf M_S_countMarks 16 2 1 19 := ⟨18, by decide +kernel, rfl, fl_S_18 _ rfl⟩
theorem d_S_countMarks_19 : gIl M_S_countMarks 19 2 20 := Or.inr ⟨2, by decide +kernel, rfl, rfl⟩
theorem d_S_countMarks_20 : gD M_S_countMarks 20 (.invokevirtual 68) 3 23 := ⟨by decide +kernel, rfl⟩
theorem cs_S_countMarks_20 : gClV M_S_countMarks 68 0 y_A_get M_A_get 1 := ⟨⟨gW_c3 97 rfl rfl, gW_c1 5 rfl rfl, cd_A_get, by decide +kernel, by decide +kernel⟩, rfl, gW_c3 98 rfl rfl, gW_c3 99 rfl rfl, TJx4a65c, 3, rfl⟩
theorem d_S_countMarks_23 : gD M_S_countMarks 23 (.checkcast 37) 3 26 := ⟨by decide +kernel, rfl⟩
theorem cl_S_countMarks_23 : Cond.classLink M_S_countMarks.2.2.1 37 "FolderRounds$Version" ∈ gW := gW_c3 52 rfl rfl
theorem d_S_countMarks_26 : gD M_S_countMarks 26 (.invokevirtual 90) 3 29 := ⟨by decide +kernel, rfl⟩
theorem cs_S_countMarks_26 : gClV M_S_countMarks 90 4 y_V_isMark M_V_isMark 0 := ⟨⟨gW_c4 76 rfl rfl, gW_c1 27 rfl rfl, cd_V_isMark, by decide +kernel, by decide +kernel⟩, rfl, gW_c3 90 rfl rfl, gW_c3 91 rfl rfl, TX3, 4, rfl⟩
theorem d_S_countMarks_29 : gB M_S_countMarks 29 (.ifCond .eq 6) 6 32 35 := ⟨by decide +kernel, rfl, by decide⟩
theorem d_S_countMarks_32 : gIc M_S_countMarks 32 1 1 35 := ⟨1, by decide +kernel, by decide, rfl⟩
theorem d_S_countMarks_35 : gIc M_S_countMarks 35 2 1 38 := ⟨1, by decide +kernel, by decide, rfl⟩
theorem d_S_countMarks_38 : gB M_S_countMarks 38 (.goto (-34)) (-34) 41 4 := ⟨by decide +kernel, rfl, by decide⟩
theorem d_S_countMarks_41 : gIl M_S_countMarks 41 1 42 := Or.inr ⟨1, by decide +kernel, rfl, rfl⟩
theorem d_S_countMarks_42 : gD M_S_countMarks 42 (.ireturn) 1 43 := ⟨by decide +kernel, rfl⟩
theorem d_S_countBytes_0 : gN M_S_countBytes 0 0 1 := Or.inl ⟨0, by decide +kernel, by decide, rfl⟩
theorem d_S_countBytes_1 : gIs M_S_countBytes 1 1 2 := Or.inr ⟨1, by decide +kernel, rfl, rfl⟩
theorem d_S_countBytes_2 : gN M_S_countBytes 2 0 3 := Or.inl ⟨0, by decide +kernel, by decide, rfl⟩
theorem d_S_countBytes_3 : gIs M_S_countBytes 3 2 4 := Or.inr ⟨2, by decide +kernel, rfl, rfl⟩
theorem d_S_countBytes_4 : gIl M_S_countBytes 4 2 5 := Or.inr ⟨2, by decide +kernel, rfl, rfl⟩
theorem d_S_countBytes_5 : gAl M_S_countBytes 5 0 6 := Or.inr ⟨0, by decide +kernel, rfl, rfl⟩
theorem d_S_countBytes_6 : gGf M_S_countBytes 6 2 1 9 := ⟨18, by decide +kernel, rfl, fl_S_18 _ rfl⟩
theorem d_S_countBytes_9 : gD M_S_countBytes 9 (.invokevirtual 65) 3 12 := ⟨by decide +kernel, rfl⟩
theorem cs_S_countBytes_9 : gClV M_S_countBytes 65 0 y_A_size M_A_size 0 := ⟨⟨gW_c3 93 rfl rfl, gW_c1 5 rfl rfl, cd_A_size, by decide +kernel, by decide +kernel⟩, rfl, gW_c3 94 rfl rfl, gW_c3 95 rfl rfl, TJx4a65c, 3, rfl⟩
theorem d_S_countBytes_12 : gB M_S_countBytes 12 (.if_icmp .ge 26) 26 15 38 := ⟨by decide +kernel, rfl, by decide⟩
theorem d_S_countBytes_15 : gIl M_S_countBytes 15 1 16 := Or.inr ⟨1, by decide +kernel, rfl, rfl⟩
theorem d_S_countBytes_16 : gAl M_S_countBytes 16 0 17 := Or.inr ⟨0, by decide +kernel, rfl, rfl⟩
theorem d_S_countBytes_17 : gGf M_S_countBytes 17 2 1 20 := ⟨18, by decide +kernel, rfl, fl_S_18 _ rfl⟩
theorem d_S_countBytes_20 : gIl M_S_countBytes 20 2 21 := Or.inr ⟨2, by decide +kernel, rfl, rfl⟩
theorem d_S_countBytes_21 : gD M_S_countBytes 21 (.invokevirtual 68) 3 24 := ⟨by decide +kernel, rfl⟩
theorem cs_S_countBytes_21 : gClV M_S_countBytes 68 0 y_A_get M_A_get 1 := ⟨⟨gW_c3 97 rfl rfl, gW_c1 5 rfl rfl, cd_A_get, by decide +kernel, by decide +kernel⟩, rfl, gW_c3 98 rfl rfl, gW_c3 99 rfl rfl, TJx4a65c, 3, rfl⟩
theorem d_S_countBytes_24 : gD M_S_countBytes 24 (.checkcast 37) 3 27 := ⟨by decide +kernel, rfl⟩
theorem cl_S_countBytes_24 : Cond.classLink M_S_countBytes.2.2.1 37 "FolderRounds$Version" ∈ gW := gW_c3 52 rfl rfl
theorem d_S_countBytes_27 : gD M_S_countBytes 27 (.invokevirtual 61) 3 30 := ⟨by decide +kernel, rfl⟩
theorem cs_S_countBytes_27 : gClV M_S_countBytes 61 4 y_V_byteCount M_V_byteCount 0 := ⟨⟨gW_c3 85 rfl rfl, gW_c1 27 rfl rfl, cd_V_byteCount, by decide +kernel, by decide +kernel⟩, rfl, gW_c3 86 rfl rfl, gW_c3 87 rfl rfl, TX3, 4, rfl⟩
theorem d_S_countBytes_30 : gD M_S_countBytes 30 (.iadd) 1 31 := ⟨by decide +kernel, rfl⟩
theorem d_S_countBytes_31 : gIs M_S_countBytes 31 1 32 := Or.inr ⟨1, by decide +kernel, rfl, rfl⟩
theorem d_S_countBytes_32 : gIc M_S_countBytes 32 2 1 35 := ⟨1, by decide +kernel, by decide, rfl⟩
theorem d_S_countBytes_35 : gB M_S_countBytes 35 (.goto (-31)) (-31) 38 4 := ⟨by decide +kernel, rfl, by decide⟩
theorem d_S_countBytes_38 : gIl M_S_countBytes 38 1 39 := Or.inr ⟨1, by decide +kernel, rfl, rfl⟩
theorem d_S_countBytes_39 : gD M_S_countBytes 39 (.ireturn) 1 40 := ⟨by decide +kernel, rfl⟩
theorem d_S_hasSameSiblingsAs_0 : gAl M_S_hasSameSiblingsAs 0 1 1 := Or.inr ⟨1, by decide +kernel, rfl, rfl⟩
theorem d_S_hasSameSiblingsAs_1 : gN M_S_hasSameSiblingsAs 1 0 2 := Or.inl ⟨0, by decide +kernel, by decide, rfl⟩
theorem d_S_hasSameSiblingsAs_2 : gD M_S_hasSameSiblingsAs 2 (.invokevirtual 101) 3 5 := ⟨by decide +kernel, rfl⟩
theorem cs_S_hasSameSiblingsAs_2 : gClV M_S_hasSameSiblingsAs 101 2 y_S_skipMarks M_S_skipMarks 1 := ⟨⟨gW_c4 209 rfl rfl, gW_c1 2 rfl rfl, cd_S_skipMarks, by decide +kernel, by decide +kernel⟩, rfl, gW_c4 210 rfl rfl, gW_c4 211 rfl rfl, TX1, 3, rfl⟩
theorem d_S_hasSameSiblingsAs_5 : gIs M_S_hasSameSiblingsAs 5 2 6 := Or.inr ⟨2, by decide +kernel, rfl, rfl⟩
theorem d_S_hasSameSiblingsAs_6 : gN M_S_hasSameSiblingsAs 6 0 7 := Or.inl ⟨0, by decide +kernel, by decide, rfl⟩
theorem d_S_hasSameSiblingsAs_7 : gIs M_S_hasSameSiblingsAs 7 3 8 := Or.inr ⟨3, by decide +kernel, rfl, rfl⟩
theorem d_S_hasSameSiblingsAs_8 : gIl M_S_hasSameSiblingsAs 8 3 9 := Or.inr ⟨3, by decide +kernel, rfl, rfl⟩
theorem d_S_hasSameSiblingsAs_9 : gAl M_S_hasSameSiblingsAs 9 0 10 := Or.inr ⟨0, by decide +kernel, rfl, rfl⟩
theorem d_S_hasSameSiblingsAs_10 : gGf M_S_hasSameSiblingsAs 10 2 1 13 := ⟨18, by decide +kernel, rfl, fl_S_18 _ rfl⟩
theorem d_S_hasSameSiblingsAs_13 : gD M_S_hasSameSiblingsAs 13 (.invokevirtual 65) 3 16 := ⟨by decide +kernel, rfl⟩
theorem cs_S_hasSameSiblingsAs_13 : gClV M_S_hasSameSiblingsAs 65 0 y_A_size M_A_size 0 := ⟨⟨gW_c3 93 rfl rfl, gW_c1 5 rfl rfl, cd_A_size, by decide +kernel, by decide +kernel⟩, rfl, gW_c3 94 rfl rfl, gW_c3 95 rfl rfl, TJx4a65c, 3, rfl⟩
theorem d_S_hasSameSiblingsAs_16 : gB M_S_hasSameSiblingsAs 16 (.if_icmp .ge 73) 73 19 89 := ⟨by decide +kernel, rfl, by decide⟩
theorem d_S_hasSameSiblingsAs_19 : gAl M_S_hasSameSiblingsAs 19 0 20 := Or.inr ⟨0, by decide +kernel, rfl, rfl⟩
theorem d_S_hasSameSiblingsAs_20 : gGf M_S_hasSameSiblingsAs 20 2 1 23 := ⟨18, by decide +kernel, rfl, fl_S_18 _ rfl⟩
theorem d_S_hasSameSiblingsAs_23 : gIl M_S_hasSameSiblingsAs 23 3 24 := Or.inr ⟨3, by decide +kernel, rfl, rfl⟩
theorem d_S_hasSameSiblingsAs_24 : gD M_S_hasSameSiblingsAs 24 (.invokevirtual 68) 3 27 := ⟨by decide +kernel, rfl⟩
theorem cs_S_hasSameSiblingsAs_24 : gClV M_S_hasSameSiblingsAs 68 0 y_A_get M_A_get 1 := ⟨⟨gW_c3 97 rfl rfl, gW_c1 5 rfl rfl, cd_A_get, by decide +kernel, by decide +kernel⟩, rfl, gW_c3 98 rfl rfl, gW_c3 99 rfl rfl, TJx4a65c, 3, rfl⟩
theorem d_S_hasSameSiblingsAs_27 : gD M_S_hasSameSiblingsAs 27 (.checkcast 37) 3 30 := ⟨by decide +kernel, rfl⟩
theorem cl_S_hasSameSiblingsAs_27 : Cond.classLink M_S_hasSameSiblingsAs.2.2.1 37 "FolderRounds$Version" ∈ gW := gW_c3 52 rfl rfl
theorem d_S_hasSameSiblingsAs_30 : gAst M_S_hasSameSiblingsAs 30 4 32 := Or.inl ⟨by decide +kernel, rfl⟩
theorem d_S_hasSameSiblingsAs_32 : gAl M_S_hasSameSiblingsAs 32 4 34 := Or.inl ⟨by decide +kernel, rfl⟩
theorem d_S_hasSameSiblingsAs_34 : gD M_S_hasSameSiblingsAs 34 (.invokevirtual 90) 3 37 := ⟨by decide +kernel, rfl⟩
theorem cs_S_hasSameSiblingsAs_34 : gClV M_S_hasSameSiblingsAs 90 4 y_V_isMark M_V_isMark 0 := ⟨⟨gW_c4 76 rfl rfl, gW_c1 27 rfl rfl, cd_V_isMark, by decide +kernel, by decide +kernel⟩, rfl, gW_c3 90 rfl rfl, gW_c3 91 rfl rfl, TX3, 4, rfl⟩
theorem d_S_hasSameSiblingsAs_37 : gB M_S_hasSameSiblingsAs 37 (.ifCond .eq 6) 6 40 43 := ⟨by decide +kernel, rfl, by decide⟩
theorem d_S_hasSameSiblingsAs_40 : gB M_S_hasSameSiblingsAs 40 (.goto 43) 43 43 83 := ⟨by decide +kernel, rfl, by decide⟩
theorem d_S_hasSameSiblingsAs_43 : gIl M_S_hasSameSiblingsAs 43 2 44 := Or.inr ⟨2, by decide +kernel, rfl, rfl⟩
theorem d_S_hasSameSiblingsAs_44 : gAl M_S_hasSameSiblingsAs 44 1 45 := Or.inr ⟨1, by decide +kernel, rfl, rfl⟩
theorem d_S_hasSameSiblingsAs_45 : gGf M_S_hasSameSiblingsAs 45 2 1 48 := ⟨18, by decide +kernel, rfl, fl_S_18 _ rfl⟩
theorem d_S_hasSameSiblingsAs_48 : gD M_S_hasSameSiblingsAs 48 (.invokevirtual 65) 3 51 := ⟨by decide +kernel, rfl⟩
theorem cs_S_hasSameSiblingsAs_48 : gClV M_S_hasSameSiblingsAs 65 0 y_A_size M_A_size 0 := ⟨⟨gW_c3 93 rfl rfl, gW_c1 5 rfl rfl, cd_A_size, by decide +kernel, by decide +kernel⟩, rfl, gW_c3 94 rfl rfl, gW_c3 95 rfl rfl, TJx4a65c, 3, rfl⟩
theorem d_S_hasSameSiblingsAs_51 : gB M_S_hasSameSiblingsAs 51 (.if_icmp .ge 22) 22 54 73 := ⟨by decide +kernel, rfl, by decide⟩
theorem d_S_hasSameSiblingsAs_54 : gAl M_S_hasSameSiblingsAs 54 4 56 := Or.inl ⟨by decide +kernel, rfl⟩
theorem d_S_hasSameSiblingsAs_56 : gAl M_S_hasSameSiblingsAs 56 1 57 := Or.inr ⟨1, by decide +kernel, rfl, rfl⟩
theorem d_S_hasSameSiblingsAs_57 : gGf M_S_hasSameSiblingsAs 57 2 1 60 := ⟨18, by decide +kernel, rfl, fl_S_18 _ rfl⟩
theorem d_S_hasSameSiblingsAs_60 : gIl M_S_hasSameSiblingsAs 60 2 61 := Or.inr ⟨2, by decide +kernel, rfl, rfl⟩
theorem d_S_hasSameSiblingsAs_61 : gD M_S_hasSameSiblingsAs 61 (.invokevirtual 68) 3 64 := ⟨by decide +kernel, rfl⟩
theorem cs_S_hasSameSiblingsAs_61 : gClV M_S_hasSameSiblingsAs 68 0 y_A_get M_A_get 1 := ⟨⟨gW_c3 97 rfl rfl, gW_c1 5 rfl rfl, cd_A_get, by decide +kernel, by decide +kernel⟩, rfl, gW_c3 98 rfl rfl, gW_c3 99 rfl rfl, TJx4a65c, 3, rfl⟩
theorem d_S_hasSameSiblingsAs_64 : gD M_S_hasSameSiblingsAs 64 (.checkcast 37) 3 67 := ⟨by decide +kernel, rfl⟩
theorem cl_S_hasSameSiblingsAs_64 : Cond.classLink M_S_hasSameSiblingsAs.2.2.1 37 "FolderRounds$Version" ∈ gW := gW_c3 52 rfl rfl
theorem d_S_hasSameSiblingsAs_67 : gD M_S_hasSameSiblingsAs 67 (.invokevirtual 79) 3 70 := ⟨by decide +kernel, rfl⟩
theorem cs_S_hasSameSiblingsAs_67 : gClV M_S_hasSameSiblingsAs 79 4 y_V_compareWith M_V_compareWith 1 := ⟨⟨gW_c3 132 rfl rfl, gW_c1 27 rfl rfl, cd_V_compareWith, by decide +kernel, by decide +kernel⟩, rfl, gW_c3 133 rfl rfl, gW_c3 134 rfl rfl, TX3, 4, rfl⟩
theorem d_S_hasSameSiblingsAs_70 : gB M_S_hasSameSiblingsAs 70 (.ifCond .eq 5) 5 73 75 := ⟨by decide +kernel, rfl, by decide⟩
theorem d_S_hasSameSiblingsAs_73 : gN M_S_hasSameSiblingsAs 73 0 74 := Or.inl ⟨0, by decide +kernel, by decide, rfl⟩
theorem d_S_hasSameSiblingsAs_74 : gD M_S_hasSameSiblingsAs 74 (.ireturn) 1 75 := ⟨by decide +kernel, rfl⟩
theorem d_S_hasSameSiblingsAs_75 : gAl M_S_hasSameSiblingsAs 75 1 76 := Or.inr ⟨1, by decide +kernel, rfl, rfl⟩
theorem d_S_hasSameSiblingsAs_76 : gIl M_S_hasSameSiblingsAs 76 2 77 := Or.inr ⟨2, by decide +kernel, rfl, rfl⟩
theorem d_S_hasSameSiblingsAs_77 : gN M_S_hasSameSiblingsAs 77 1 78 := Or.inl ⟨1, by decide +kernel, by decide, rfl⟩
theorem d_S_hasSameSiblingsAs_78 : gD M_S_hasSameSiblingsAs 78 (.iadd) 1 79 := ⟨by decide +kernel, rfl⟩
theorem d_S_hasSameSiblingsAs_79 : gD M_S_hasSameSiblingsAs 79 (.invokevirtual 101) 3 82 := ⟨by decide +kernel, rfl⟩
theorem cs_S_hasSameSiblingsAs_79 : gClV M_S_hasSameSiblingsAs 101 2 y_S_skipMarks M_S_skipMarks 1 := ⟨⟨gW_c4 209 rfl rfl, gW_c1 2 rfl rfl, cd_S_skipMarks, by decide +kernel, by decide +kernel⟩, rfl, gW_c4 210 rfl rfl, gW_c4 211 rfl rfl, TX1, 3, rfl⟩
theorem d_S_hasSameSiblingsAs_82 : gIs M_S_hasSameSiblingsAs 82 2 83 := Or.inr ⟨2, by decide +kernel, rfl, rfl⟩
theorem d_S_hasSameSiblingsAs_83 : gIc M_S_hasSameSiblingsAs 83 3 1 86 := ⟨1, by decide +kernel, by decide, rfl⟩
theorem d_S_hasSameSiblingsAs_86 : gB M_S_hasSameSiblingsAs 86 (.goto (-78)) (-78) 89 8 := ⟨by decide +kernel, rfl, by decide⟩
theorem d_S_hasSameSiblingsAs_89 : gIl M_S_hasSameSiblingsAs 89 2 90 := Or.inr ⟨2, by decide +kernel, rfl, rfl⟩
theorem d_S_hasSameSiblingsAs_90 : gAl M_S_hasSameSiblingsAs 90 1 91 := Or.inr ⟨1, by decide +kernel, rfl, rfl⟩
theorem d_S_hasSameSiblingsAs_91 : gGf M_S_hasSameSiblingsAs 91 2 1 94 := ⟨18, by decide +kernel, rfl, fl_S_18 _ rfl⟩
theorem d_S_hasSameSiblingsAs_94 : gD M_S_hasSameSiblingsAs 94 (.invokevirtual 65) 3 97 := ⟨by decide +kernel, rfl⟩
theorem cs_S_hasSameSiblingsAs_94 : gClV M_S_hasSameSiblingsAs 65 0 y_A_size M_A_size 0 := ⟨⟨gW_c3 93 rfl rfl, gW_c1 5 rfl rfl, cd_A_size, by decide +kernel, by decide +kernel⟩, rfl, gW_c3 94 rfl rfl, gW_c3 95 rfl rfl, TJx4a65c, 3, rfl⟩
theorem d_S_hasSameSiblingsAs_97 : gB M_S_hasSameSiblingsAs 97 (.if_icmp .lt 7) 7 100 104 := ⟨by decide +kernel, rfl, by decide⟩
theorem d_S_hasSameSiblingsAs_100 : gN M_S_hasSameSiblingsAs 100 1 101 := Or.inl ⟨1, by decide +kernel, by decide, rfl⟩
theorem d_S_hasSameSiblingsAs_101 : gB M_S_hasSameSiblingsAs 101 (.goto 4) 4 104 105 := ⟨by decide +kernel, rfl, by decide⟩
theorem d_S_hasSameSiblingsAs_104 : gN M_S_hasSameSiblingsAs 104 0 105 := Or.inl ⟨0, by decide +kernel, by decide, rfl⟩
theorem d_S_hasSameSiblingsAs_105 : gD M_S_hasSameSiblingsAs 105 (.ireturn) 1 106 := ⟨by decide +kernel, rfl⟩
theorem d_S_skipMarks_0 : gIl M_S_skipMarks 0 1 1 := Or.inr ⟨1, by decide +kernel, rfl, rfl⟩
theorem d_S_skipMarks_1 : gIs M_S_skipMarks 1 2 2 := Or.inr ⟨2, by decide +kernel, rfl, rfl⟩
theorem d_S_skipMarks_2 : gIl M_S_skipMarks 2 2 3 := Or.inr ⟨2, by decide +kernel, rfl, rfl⟩
theorem d_S_skipMarks_3 : gAl M_S_skipMarks 3 0 4 := Or.inr ⟨0, by decide +kernel, rfl, rfl⟩
theorem d_S_skipMarks_4 : gGf M_S_skipMarks 4 2 1 7 := ⟨18, by decide +kernel, rfl, fl_S_18 _ rfl⟩
theorem d_S_skipMarks_7 : gD M_S_skipMarks 7 (.invokevirtual 65) 3 10 := ⟨by decide +kernel, rfl⟩
theorem cs_S_skipMarks_7 : gClV M_S_skipMarks 65 0 y_A_size M_A_size 0 := ⟨⟨gW_c3 93 rfl rfl, gW_c1 5 rfl rfl, cd_A_size, by decide +kernel, by decide +kernel⟩, rfl, gW_c3 94 rfl rfl, gW_c3 95 rfl rfl, TJx4a65c, 3, rfl⟩
theorem d_S_skipMarks_10 : gB M_S_skipMarks 10 (.if_icmp .ge 26) 26 13 36 := ⟨by decide +kernel, rfl, by decide⟩
theorem d_S_skipMarks_13 : gAl M_S_skipMarks 13 0 14 := Or.inr ⟨0, by decide +kernel, rfl, rfl⟩
theorem d_S_skipMarks_14 : gGf M_S_skipMarks 14 2 1 17 := ⟨18, by decide +kernel, rfl, fl_S_18 _ rfl⟩
theorem d_S_skipMarks_17 : gIl M_S_skipMarks 17 2 18 := Or.inr ⟨2, by decide +kernel, rfl, rfl⟩
theorem d_S_skipMarks_18 : gD M_S_skipMarks 18 (.invokevirtual 68) 3 21 := ⟨by decide +kernel, rfl⟩
theorem cs_S_skipMarks_18 : gClV M_S_skipMarks 68 0 y_A_get M_A_get 1 := ⟨⟨gW_c3 97 rfl rfl, gW_c1 5 rfl rfl, cd_A_get, by decide +kernel, by decide +kernel⟩, rfl, gW_c3 98 rfl rfl, gW_c3 99 rfl rfl, TJx4a65c, 3, rfl⟩
theorem d_S_skipMarks_21 : gD M_S_skipMarks 21 (.checkcast 37) 3 24 := ⟨by decide +kernel, rfl⟩
theorem cl_S_skipMarks_21 : Cond.classLink M_S_skipMarks.2.2.1 37 "FolderRounds$Version" ∈ gW := gW_c3 52 rfl rfl
theorem d_S_skipMarks_24 : gD M_S_skipMarks 24 (.invokevirtual 90) 3 27 := ⟨by decide +kernel, rfl⟩
theorem cs_S_skipMarks_24 : gClV M_S_skipMarks 90 4 y_V_isMark M_V_isMark 0 := ⟨⟨gW_c4 76 rfl rfl, gW_c1 27 rfl rfl, cd_V_isMark, by decide +kernel, by decide +kernel⟩, rfl, gW_c3 90 rfl rfl, gW_c3 91 rfl rfl, TX3, 4, rfl⟩
theorem d_S_skipMarks_27 : gB M_S_skipMarks 27 (.ifCond .eq 9) 9 30 36 := ⟨by decide +kernel, rfl, by decide⟩
theorem d_S_skipMarks_30 : gIc M_S_skipMarks 30 2 1 33 := ⟨1, by decide +kernel, by decide, rfl⟩
theorem d_S_skipMarks_33 : gB M_S_skipMarks 33 (.goto (-31)) (-31) 36 2 := ⟨by decide +kernel, rfl, by decide⟩
theorem d_S_skipMarks_36 : gIl M_S_skipMarks 36 2 37 := Or.inr ⟨2, by decide +kernel, rfl, rfl⟩
theorem d_S_skipMarks_37 : gD M_S_skipMarks 37 (.ireturn) 1 38 := ⟨by decide +kernel, rfl⟩
end
section
/-! ===== decode rows ===== -/
theorem d_F_init_0 : gAl M_F_init 0 0 1 := Or.inr ⟨0, by decide +kernel, rfl, rfl⟩
theorem d_F_init_1 : gD M_F_init 1 (.invokespecial 3) 3 4 := ⟨by decide +kernel, rfl⟩
theorem oi_F_init_1 : Cond.methodLink M_F_init.2.2.1 3 objectInit ∈ gW ∧ Cond.instanceMethod objectInit ∈ gW ∧ Cond.code objectInit ⟨#[0xb1]⟩ 1 none ∈ gW := ⟨gW_c1 35 rfl rfl, gW_c1 36 rfl rfl, gW_c1 37 rfl rfl⟩
theorem d_F_init_4 : gAl M_F_init 4 0 5 := Or.inr ⟨0, by decide +kernel, rfl, rfl⟩
theorem d_F_init_5 : gN M_F_init 5 4 6 := Or.inl ⟨4, by decide +kernel, by decide, rfl⟩
theorem d_F_init_6 : gD M_F_init 6 (.anewarray 11) 3 9 := ⟨by decide +kernel, rfl⟩
theorem cl_F_init_6 : Cond.classLink M_F_init.2.2.1 11 "FolderRounds$Station" ∈ gW := gW_c1 38 rfl rfl
theorem d_F_init_9 : gPf M_F_init 9 5 0 (.array (.object "FolderRounds$Station")) 12 := ⟨13, by decide +kernel, rfl, RX4, TX4, 4, "FolderRounds", tyX4, rfl, by decide, gW_c1 116 rfl rfl, gws_5, Or.inl rfl, tyX4_ok, nmX4, by decide +kernel, Or.inr ⟨rfl, rfl, rfl⟩⟩
theorem d_F_init_12 : gN M_F_init 12 0 13 := Or.inl ⟨0, by decide +kernel, by decide, rfl⟩
theorem d_F_init_13 : gIs M_F_init 13 1 14 := Or.inr ⟨1, by decide +kernel, rfl, rfl⟩
theorem d_F_init_14 : gIl M_F_init 14 1 15 := Or.inr ⟨1, by decide +kernel, rfl, rfl⟩
theorem d_F_init_15 : gN M_F_init 15 4 16 := Or.inl ⟨4, by decide +kernel, by decide, rfl⟩
theorem d_F_init_16 : gB M_F_init 16 (.if_icmp .ge 23) 23 19 39 := ⟨by decide +kernel, rfl, by decide⟩
theorem d_F_init_19 : gAl M_F_init 19 0 20 := Or.inr ⟨0, by decide +kernel, rfl, rfl⟩
theorem d_F_init_20 : gGf M_F_init 20 5 0 23 := ⟨13, by decide +kernel, rfl, fl_F_13 _ rfl⟩
theorem d_F_init_23 : gIl M_F_init 23 1 24 := Or.inr ⟨1, by decide +kernel, rfl, rfl⟩
theorem d_F_init_24 : gD M_F_init 24 (.new 11) 3 27 := ⟨by decide +kernel, rfl⟩
theorem nw_F_init_24 : gNew M_F_init 11 2 [.int 0, .null, .null] := ⟨RX1, TX1, 3, tyX1, rfl, rfl, gW_c1 38 rfl rfl, gW_c1 40 rfl rfl, gW_c1 2 rfl rfl, gws_2, tyX1_ok, by decide⟩
theorem d_F_init_27 : gD M_F_init 27 (.dup) 1 28 := ⟨by decide +kernel, rfl⟩
theorem d_F_init_28 : gIl M_F_init 28 1 29 := Or.inr ⟨1, by decide +kernel, rfl, rfl⟩
theorem d_F_init_29 : gD M_F_init 29 (.invokespecial 17) 3 32 := ⟨by decide +kernel, rfl⟩
theorem cs_F_init_29 : gClI M_F_init 17 y_S_init M_S_init 1 := ⟨⟨gW_c1 41 rfl rfl, gW_c1 2 rfl rfl, cd_S_init, by decide +kernel, by decide +kernel⟩, rfl, gW_c1 42 rfl rfl, rfl, rfl⟩
theorem d_F_init_32 : gD M_F_init 32 (.aastore) 1 33 := ⟨by decide +kernel, rfl⟩
theorem d_F_init_33 : gIc M_F_init 33 1 1 36 := ⟨1, by decide +kernel, by decide, rfl⟩
theorem d_F_init_36 : gB M_F_init 36 (.goto (-22)) (-22) 39 14 := ⟨by decide +kernel, rfl, by decide⟩
theorem d_F_init_39 : gAl M_F_init 39 0 40 := Or.inr ⟨0, by decide +kernel, rfl, rfl⟩
theorem d_F_init_40 : gN M_F_init 40 3 41 := Or.inl ⟨3, by decide +kernel, by decide, rfl⟩
theorem d_F_init_41 : gD M_F_init 41 (.anewarray 20) 3 44 := ⟨by decide +kernel, rfl⟩
theorem cl_F_init_41 : Cond.classLink M_F_init.2.2.1 20 "FolderRounds$Cartridge" ∈ gW := gW_c1 94 rfl rfl
theorem d_F_init_44 : gPf M_F_init 44 5 1 (.array (.object "FolderRounds$Cartridge")) 47 := ⟨22, by decide +kernel, rfl, RX4, TX4, 4, "FolderRounds", tyX4, rfl, by decide, gW_c1 117 rfl rfl, gws_5, Or.inl rfl, tyX4_ok, nmX4, by decide +kernel, Or.inr ⟨rfl, rfl, rfl⟩⟩
theorem d_F_init_47 : gN M_F_init 47 0 48 := Or.inl ⟨0, by decide +kernel, by decide, rfl⟩
theorem d_F_init_48 : gIs M_F_init 48 1 49 := Or.inr ⟨1, by decide +kernel, rfl, rfl⟩
theorem d_F_init_49 : gIl M_F_init 49 1 50 := Or.inr ⟨1, by decide +kernel, rfl, rfl⟩
theorem d_F_init_50 : gN M_F_init 50 3 51 := Or.inl ⟨3, by decide +kernel, by decide, rfl⟩
theorem d_F_init_51 : gB M_F_init 51 (.if_icmp .ge 22) 22 54 73 := ⟨by decide +kernel, rfl, by decide⟩
theorem d_F_init_54 : gAl M_F_init 54 0 55 := Or.inr ⟨0, by decide +kernel, rfl, rfl⟩
theorem d_F_init_55 : gGf M_F_init 55 5 1 58 := ⟨22, by decide +kernel, rfl, fl_F_22 _ rfl⟩
theorem d_F_init_58 : gIl M_F_init 58 1 59 := Or.inr ⟨1, by decide +kernel, rfl, rfl⟩
theorem d_F_init_59 : gD M_F_init 59 (.new 20) 3 62 := ⟨by decide +kernel, rfl⟩
theorem nw_F_init_59 : gNew M_F_init 20 1 [.null, .null] := ⟨RX0, TX0, 2, tyX0, rfl, rfl, gW_c1 94 rfl rfl, gW_c1 96 rfl rfl, gW_c1 7 rfl rfl, gws_1, tyX0_ok, by decide⟩
theorem d_F_init_62 : gD M_F_init 62 (.dup) 1 63 := ⟨by decide +kernel, rfl⟩
theorem d_F_init_63 : gD M_F_init 63 (.invokespecial 26) 3 66 := ⟨by decide +kernel, rfl⟩
theorem cs_F_init_63 : gClI M_F_init 26 y_C_init M_C_init 0 := ⟨⟨gW_c1 97 rfl rfl, gW_c1 7 rfl rfl, cd_C_init, by decide +kernel, by decide +kernel⟩, rfl, gW_c1 98 rfl rfl, rfl, rfl⟩
theorem d_F_init_66 : gD M_F_init 66 (.aastore) 1 67 := ⟨by decide +kernel, rfl⟩
theorem d_F_init_67 : gIc M_F_init 67 1 1 70 := ⟨1, by decide +kernel, by decide, rfl⟩
theorem d_F_init_70 : gB M_F_init 70 (.goto (-21)) (-21) 73 49 := ⟨by decide +kernel, rfl, by decide⟩
theorem d_F_init_73 : gAl M_F_init 73 0 74 := Or.inr ⟨0, by decide +kernel, rfl, rfl⟩
theorem d_F_init_74 : gD M_F_init 74 (.new 27) 3 77 := ⟨by decide +kernel, rfl⟩
theorem nw_F_init_74 : gNew M_F_init 27 0 [.int 0, .null, .int 0] := ⟨RJx4a65c, TJx4a65c, 3, tyJx4a65c, rfl, rfl, gW_c1 114 rfl rfl, gW_c1 46 rfl rfl, gW_c1 5 rfl rfl, gws_0, tyJx4a65c_ok, by decide⟩
theorem d_F_init_77 : gD M_F_init 77 (.dup) 1 78 := ⟨by decide +kernel, rfl⟩
theorem d_F_init_78 : gD M_F_init 78 (.invokespecial 29) 3 81 := ⟨by decide +kernel, rfl⟩
theorem cs_F_init_78 : gClI M_F_init 29 y_A_init M_A_init 0 := ⟨⟨gW_c1 115 rfl rfl, gW_c1 5 rfl rfl, cd_A_init, by decide +kernel, by decide +kernel⟩, rfl, gW_c1 48 rfl rfl, rfl, rfl⟩
theorem d_F_init_81 : gPf M_F_init 81 5 2 (.object "java/util/ArrayList") 84 := ⟨30, by decide +kernel, rfl, RX4, TX4, 4, "FolderRounds", tyX4, rfl, by decide, gW_c1 118 rfl rfl, gws_5, Or.inl rfl, tyX4_ok, nmX4, by decide +kernel, Or.inr ⟨rfl, rfl, rfl⟩⟩
theorem d_F_init_84 : gAl M_F_init 84 0 85 := Or.inr ⟨0, by decide +kernel, rfl, rfl⟩
theorem d_F_init_85 : gN M_F_init 85 0 86 := Or.inl ⟨0, by decide +kernel, by decide, rfl⟩
theorem d_F_init_86 : gPf M_F_init 86 5 3 .int 89 := ⟨34, by decide +kernel, rfl, RX4, TX4, 4, "FolderRounds", tyX4, rfl, by decide, gW_c1 119 rfl rfl, gws_5, Or.inl rfl, tyX4_ok, nmX4, by decide +kernel, Or.inl rfl⟩
theorem d_F_init_89 : gD M_F_init 89 (.return_) 1 90 := ⟨by decide +kernel, rfl⟩
theorem d_F_leftOut_0 : gAl M_F_leftOut 0 0 1 := Or.inr ⟨0, by decide +kernel, rfl, rfl⟩
theorem d_F_leftOut_1 : gGf M_F_leftOut 1 5 3 4 := ⟨34, by decide +kernel, rfl, fl_F_34 _ rfl⟩
theorem d_F_leftOut_4 : gD M_F_leftOut 4 (.ireturn) 1 5 := ⟨by decide +kernel, rfl⟩
theorem d_F_edit_0 : gAl M_F_edit 0 0 1 := Or.inr ⟨0, by decide +kernel, rfl, rfl⟩
theorem d_F_edit_1 : gIl M_F_edit 1 1 2 := Or.inr ⟨1, by decide +kernel, rfl, rfl⟩
theorem d_F_edit_2 : gD M_F_edit 2 (.invokevirtual 38) 3 5 := ⟨by decide +kernel, rfl⟩
theorem cs_F_edit_2 : gClV M_F_edit 38 5 y_F_stationAt M_F_stationAt 1 := ⟨⟨gW_c1 143 rfl rfl, gW_c1 1 rfl rfl, cd_F_stationAt, by decide +kernel, by decide +kernel⟩, rfl, gW_c1 145 rfl rfl, gW_c0 0 rfl rfl, TX4, 4, rfl⟩
theorem d_F_edit_5 : gAst M_F_edit 5 5 7 := Or.inl ⟨by decide +kernel, rfl⟩
theorem d_F_edit_7 : gIl M_F_edit 7 2 8 := Or.inr ⟨2, by decide +kernel, rfl, rfl⟩
theorem d_F_edit_8 : gD M_F_edit 8 (.invokestatic 42) 3 11 := ⟨by decide +kernel, rfl⟩
theorem cs_F_edit_8 : gClS M_F_edit 42 y_F_checkDocument M_F_checkDocument 1 := ⟨⟨gW_c1 215 rfl rfl, gW_c1 1 rfl rfl, cd_F_checkDocument, by decide +kernel, by decide +kernel⟩, gW_c1 216 rfl rfl⟩
theorem d_F_edit_11 : gIl M_F_edit 11 3 12 := Or.inr ⟨3, by decide +kernel, rfl, rfl⟩
theorem d_F_edit_12 : gB M_F_edit 12 (.ifCond .lt 22) 22 15 34 := ⟨by decide +kernel, rfl, by decide⟩
theorem d_F_edit_15 : gIl M_F_edit 15 3 16 := Or.inr ⟨3, by decide +kernel, rfl, rfl⟩
theorem d_F_edit_16 : gN M_F_edit 16 40 18 := Or.inr (Or.inl ⟨40, by decide +kernel, by decide, rfl⟩)
theorem d_F_edit_18 : gB M_F_edit 18 (.if_icmp .gt 16) 16 21 34 := ⟨by decide +kernel, rfl, by decide⟩
theorem d_F_edit_21 : gIl M_F_edit 21 4 23 := Or.inl ⟨by decide +kernel, rfl⟩
theorem d_F_edit_23 : gB M_F_edit 23 (.ifCond .lt 11) 11 26 34 := ⟨by decide +kernel, rfl, by decide⟩
theorem d_F_edit_26 : gIl M_F_edit 26 4 28 := Or.inl ⟨by decide +kernel, rfl⟩
theorem d_F_edit_28 : gN M_F_edit 28 256 31 := Or.inr (Or.inr (Or.inl ⟨256, by decide +kernel, by decide, rfl⟩))
theorem d_F_edit_31 : gB M_F_edit 31 (.if_icmp .lt 11) 11 34 42 := ⟨by decide +kernel, rfl, by decide⟩
theorem th_F_edit_34 : gTh M_F_edit 34 "java/lang/IllegalArgumentException" := ⟨45, 47, by decide +kernel, by decide +kernel, by decide +kernel, by decide +kernel, by decide +kernel, gW_c1 218 rfl rfl, gW_c1 13 rfl rfl, vx_F_47, by decide +kernel⟩
theorem d_F_edit_37 : gD M_F_edit 37 (.dup) 1 38 := ⟨by decide +kernel, rfl⟩
theorem d_F_edit_38 : gD M_F_edit 38 (.invokespecial 47) 3 41 := ⟨by decide +kernel, rfl⟩
theorem d_F_edit_41 : gD M_F_edit 41 (.athrow) 1 42 := ⟨by decide +kernel, rfl⟩
theorem d_F_edit_42 : gAl M_F_edit 42 5 44 := Or.inl ⟨by decide +kernel, rfl⟩
theorem d_F_edit_44 : gIl M_F_edit 44 2 45 := Or.inr ⟨2, by decide +kernel, rfl, rfl⟩
theorem d_F_edit_45 : gIl M_F_edit 45 3 46 := Or.inr ⟨3, by decide +kernel, rfl, rfl⟩
theorem d_F_edit_46 : gIl M_F_edit 46 4 48 := Or.inl ⟨by decide +kernel, rfl⟩
theorem d_F_edit_48 : gD M_F_edit 48 (.invokestatic 48) 3 51 := ⟨by decide +kernel, rfl⟩
theorem cs_F_edit_48 : gClS M_F_edit 48 y_F_makeVersion M_F_makeVersion 4 := ⟨⟨gW_c1 233 rfl rfl, gW_c1 1 rfl rfl, cd_F_makeVersion, by decide +kernel, by decide +kernel⟩, gW_c1 234 rfl rfl⟩
theorem d_F_edit_51 : gD M_F_edit 51 (.return_) 1 52 := ⟨by decide +kernel, rfl⟩
theorem d_F_stationAt_0 : gIl M_F_stationAt 0 1 1 := Or.inr ⟨1, by decide +kernel, rfl, rfl⟩
theorem d_F_stationAt_1 : gD M_F_stationAt 1 (.invokestatic 110) 3 4 := ⟨by decide +kernel, rfl⟩
theorem cs_F_stationAt_1 : gClS M_F_stationAt 110 y_F_checkStation M_F_checkStation 1 := ⟨⟨gW_c1 147 rfl rfl, gW_c1 1 rfl rfl, cd_F_checkStation, by decide +kernel, by decide +kernel⟩, gW_c1 148 rfl rfl⟩
theorem d_F_stationAt_4 : gAl M_F_stationAt 4 0 5 := Or.inr ⟨0, by decide +kernel, rfl, rfl⟩
theorem d_F_stationAt_5 : gGf M_F_stationAt 5 5 0 8 := ⟨13, by decide +kernel, rfl, fl_F_13 _ rfl⟩
theorem d_F_stationAt_8 : gIl M_F_stationAt 8 1 9 := Or.inr ⟨1, by decide +kernel, rfl, rfl⟩
theorem d_F_stationAt_9 : gD M_F_stationAt 9 (.aaload) 1 10 := ⟨by decide +kernel, rfl⟩
theorem d_F_stationAt_10 : gD M_F_stationAt 10 (.areturn) 1 11 := ⟨by decide +kernel, rfl⟩
theorem d_F_checkStation_0 : gIl M_F_checkStation 0 0 1 := Or.inr ⟨0, by decide +kernel, rfl, rfl⟩
theorem d_F_checkStation_1 : gB M_F_checkStation 1 (.ifCond .lt 8) 8 4 9 := ⟨by decide +kernel, rfl, by decide⟩
theorem d_F_checkStation_4 : gIl M_F_checkStation 4 0 5 := Or.inr ⟨0, by decide +kernel, rfl, rfl⟩
theorem d_F_checkStation_5 : gN M_F_checkStation 5 4 6 := Or.inl ⟨4, by decide +kernel, by decide, rfl⟩
theorem d_F_checkStation_6 : gB M_F_checkStation 6 (.if_icmp .lt 11) 11 9 17 := ⟨by decide +kernel, rfl, by decide⟩
theorem th_F_checkStation_9 : gTh M_F_checkStation 9 "java/util/NoSuchElementException" := ⟨133, 135, by decide +kernel, by decide +kernel, by decide +kernel, by decide +kernel, by decide +kernel, gW_c1 150 rfl rfl, gW_c1 12 rfl rfl, vx_F_135, by decide +kernel⟩
theorem d_F_checkStation_12 : gD M_F_checkStation 12 (.dup) 1 13 := ⟨by decide +kernel, rfl⟩
theorem d_F_checkStation_13 : gD M_F_checkStation 13 (.invokespecial 135) 3 16 := ⟨by decide +kernel, rfl⟩
theorem d_F_checkStation_16 : gD M_F_checkStation 16 (.athrow) 1 17 := ⟨by decide +kernel, rfl⟩
theorem d_F_checkStation_17 : gD M_F_checkStation 17 (.return_) 1 18 := ⟨by decide +kernel, rfl⟩
theorem d_F_checkDocument_0 : gIl M_F_checkDocument 0 0 1 := Or.inr ⟨0, by decide +kernel, rfl, rfl⟩
theorem d_F_checkDocument_1 : gB M_F_checkDocument 1 (.ifCond .lt 9) 9 4 10 := ⟨by decide +kernel, rfl, by decide⟩
theorem d_F_checkDocument_4 : gIl M_F_checkDocument 4 0 5 := Or.inr ⟨0, by decide +kernel, rfl, rfl⟩
theorem d_F_checkDocument_5 : gN M_F_checkDocument 5 10 7 := Or.inr (Or.inl ⟨10, by decide +kernel, by decide, rfl⟩)
theorem d_F_checkDocument_7 : gB M_F_checkDocument 7 (.if_icmp .lt 11) 11 10 18 := ⟨by decide +kernel, rfl, by decide⟩
theorem th_F_checkDocument_10 : gTh M_F_checkDocument 10 "java/util/NoSuchElementException" := ⟨133, 135, by decide +kernel, by decide +kernel, by decide +kernel, by decide +kernel, by decide +kernel, gW_c1 150 rfl rfl, gW_c1 12 rfl rfl, vx_F_135, by decide +kernel⟩
theorem d_F_checkDocument_13 : gD M_F_checkDocument 13 (.dup) 1 14 := ⟨by decide +kernel, rfl⟩
theorem d_F_checkDocument_14 : gD M_F_checkDocument 14 (.invokespecial 135) 3 17 := ⟨by decide +kernel, rfl⟩
theorem d_F_checkDocument_17 : gD M_F_checkDocument 17 (.athrow) 1 18 := ⟨by decide +kernel, rfl⟩
theorem d_F_checkDocument_18 : gD M_F_checkDocument 18 (.return_) 1 19 := ⟨by decide +kernel, rfl⟩
theorem d_F_makeVersion_0 : gAl M_F_makeVersion 0 0 1 := Or.inr ⟨0, by decide +kernel, rfl, rfl⟩
theorem d_F_makeVersion_1 : gIl M_F_makeVersion 1 1 2 := Or.inr ⟨1, by decide +kernel, rfl, rfl⟩
theorem d_F_makeVersion_2 : gD M_F_makeVersion 2 (.invokevirtual 147) 3 5 := ⟨by decide +kernel, rfl⟩
theorem cs_F_makeVersion_2 : gClV M_F_makeVersion 147 2 y_S_ownCounter M_S_ownCounter 1 := ⟨⟨gW_c1 236 rfl rfl, gW_c1 2 rfl rfl, cd_S_ownCounter, by decide +kernel, by decide +kernel⟩, rfl, gW_c1 237 rfl rfl, gW_c1 238 rfl rfl, TX1, 3, rfl⟩
theorem d_F_makeVersion_5 : gN M_F_makeVersion 5 200 8 := Or.inr (Or.inr (Or.inl ⟨200, by decide +kernel, by decide, rfl⟩))
theorem d_F_makeVersion_8 : gB M_F_makeVersion 8 (.if_icmp .lt 11) 11 11 19 := ⟨by decide +kernel, rfl, by decide⟩
theorem th_F_makeVersion_11 : gTh M_F_makeVersion 11 "java/lang/UnsupportedOperationException" := ⟨150, 152, by decide +kernel, by decide +kernel, by decide +kernel, by decide +kernel, by decide +kernel, gW_c2 7 rfl rfl, gW_c1 14 rfl rfl, vx_F_152, by decide +kernel⟩
theorem d_F_makeVersion_14 : gD M_F_makeVersion 14 (.dup) 1 15 := ⟨by decide +kernel, rfl⟩
theorem d_F_makeVersion_15 : gD M_F_makeVersion 15 (.invokespecial 152) 3 18 := ⟨by decide +kernel, rfl⟩
theorem d_F_makeVersion_18 : gD M_F_makeVersion 18 (.athrow) 1 19 := ⟨by decide +kernel, rfl⟩
theorem d_F_makeVersion_19 : gAl M_F_makeVersion 19 0 20 := Or.inr ⟨0, by decide +kernel, rfl, rfl⟩
theorem d_F_makeVersion_20 : gAl M_F_makeVersion 20 0 21 := Or.inr ⟨0, by decide +kernel, rfl, rfl⟩
theorem d_F_makeVersion_21 : gIl M_F_makeVersion 21 1 22 := Or.inr ⟨1, by decide +kernel, rfl, rfl⟩
theorem d_F_makeVersion_22 : gIl M_F_makeVersion 22 2 23 := Or.inr ⟨2, by decide +kernel, rfl, rfl⟩
theorem d_F_makeVersion_23 : gIl M_F_makeVersion 23 3 24 := Or.inr ⟨3, by decide +kernel, rfl, rfl⟩
theorem d_F_makeVersion_24 : gD M_F_makeVersion 24 (.invokevirtual 153) 3 27 := ⟨by decide +kernel, rfl⟩
theorem cs_F_makeVersion_24 : gClV M_F_makeVersion 153 2 y_S_nextVersion M_S_nextVersion 3 := ⟨⟨gW_c2 22 rfl rfl, gW_c1 2 rfl rfl, cd_S_nextVersion, by decide +kernel, by decide +kernel⟩, rfl, gW_c2 23 rfl rfl, gW_c2 24 rfl rfl, TX1, 3, rfl⟩
theorem d_F_makeVersion_27 : gD M_F_makeVersion 27 (.invokevirtual 156) 3 30 := ⟨by decide +kernel, rfl⟩
theorem cs_F_makeVersion_27 : gClV M_F_makeVersion 156 2 y_S_takeIn M_S_takeIn 1 := ⟨⟨gW_c3 77 rfl rfl, gW_c1 2 rfl rfl, cd_S_takeIn, by decide +kernel, by decide +kernel⟩, rfl, gW_c3 78 rfl rfl, gW_c3 79 rfl rfl, TX1, 3, rfl⟩
theorem d_F_makeVersion_30 : gB M_F_makeVersion 30 (.ifCond .ne 11) 11 33 41 := ⟨by decide +kernel, rfl, by decide⟩
theorem th_F_makeVersion_33 : gTh M_F_makeVersion 33 "java/lang/UnsupportedOperationException" := ⟨150, 152, by decide +kernel, by decide +kernel, by decide +kernel, by decide +kernel, by decide +kernel, gW_c2 7 rfl rfl, gW_c1 14 rfl rfl, vx_F_152, by decide +kernel⟩
theorem d_F_makeVersion_36 : gD M_F_makeVersion 36 (.dup) 1 37 := ⟨by decide +kernel, rfl⟩
theorem d_F_makeVersion_37 : gD M_F_makeVersion 37 (.invokespecial 152) 3 40 := ⟨by decide +kernel, rfl⟩
theorem d_F_makeVersion_40 : gD M_F_makeVersion 40 (.athrow) 1 41 := ⟨by decide +kernel, rfl⟩
theorem d_F_makeVersion_41 : gD M_F_makeVersion 41 (.return_) 1 42 := ⟨by decide +kernel, rfl⟩
theorem d_F_erase_0 : gAl M_F_erase 0 0 1 := Or.inr ⟨0, by decide +kernel, rfl, rfl⟩
theorem d_F_erase_1 : gIl M_F_erase 1 1 2 := Or.inr ⟨1, by decide +kernel, rfl, rfl⟩
theorem d_F_erase_2 : gD M_F_erase 2 (.invokevirtual 38) 3 5 := ⟨by decide +kernel, rfl⟩
theorem cs_F_erase_2 : gClV M_F_erase 38 5 y_F_stationAt M_F_stationAt 1 := ⟨⟨gW_c1 143 rfl rfl, gW_c1 1 rfl rfl, cd_F_stationAt, by decide +kernel, by decide +kernel⟩, rfl, gW_c1 145 rfl rfl, gW_c0 0 rfl rfl, TX4, 4, rfl⟩
theorem d_F_erase_5 : gAst M_F_erase 5 3 6 := Or.inr ⟨3, by decide +kernel, rfl, rfl⟩
theorem d_F_erase_6 : gIl M_F_erase 6 2 7 := Or.inr ⟨2, by decide +kernel, rfl, rfl⟩
theorem d_F_erase_7 : gD M_F_erase 7 (.invokestatic 42) 3 10 := ⟨by decide +kernel, rfl⟩
theorem cs_F_erase_7 : gClS M_F_erase 42 y_F_checkDocument M_F_checkDocument 1 := ⟨⟨gW_c1 215 rfl rfl, gW_c1 1 rfl rfl, cd_F_checkDocument, by decide +kernel, by decide +kernel⟩, gW_c1 216 rfl rfl⟩
theorem d_F_erase_10 : gAl M_F_erase 10 3 11 := Or.inr ⟨3, by decide +kernel, rfl, rfl⟩
theorem d_F_erase_11 : gIl M_F_erase 11 2 12 := Or.inr ⟨2, by decide +kernel, rfl, rfl⟩
theorem d_F_erase_12 : gN M_F_erase 12 (-1) 13 := Or.inl ⟨(-1), by decide +kernel, by decide, rfl⟩
theorem d_F_erase_13 : gN M_F_erase 13 0 14 := Or.inl ⟨0, by decide +kernel, by decide, rfl⟩
theorem d_F_erase_14 : gD M_F_erase 14 (.invokestatic 48) 3 17 := ⟨by decide +kernel, rfl⟩
theorem cs_F_erase_14 : gClS M_F_erase 48 y_F_makeVersion M_F_makeVersion 4 := ⟨⟨gW_c1 233 rfl rfl, gW_c1 1 rfl rfl, cd_F_makeVersion, by decide +kernel, by decide +kernel⟩, gW_c1 234 rfl rfl⟩
theorem d_F_erase_17 : gD M_F_erase 17 (.return_) 1 18 := ⟨by decide +kernel, rfl⟩
theorem d_F_siblings_0 : gAl M_F_siblings 0 0 1 := Or.inr ⟨0, by decide +kernel, rfl, rfl⟩
theorem d_F_siblings_1 : gIl M_F_siblings 1 1 2 := Or.inr ⟨1, by decide +kernel, rfl, rfl⟩
theorem d_F_siblings_2 : gD M_F_siblings 2 (.invokevirtual 38) 3 5 := ⟨by decide +kernel, rfl⟩
theorem cs_F_siblings_2 : gClV M_F_siblings 38 5 y_F_stationAt M_F_stationAt 1 := ⟨⟨gW_c1 143 rfl rfl, gW_c1 1 rfl rfl, cd_F_stationAt, by decide +kernel, by decide +kernel⟩, rfl, gW_c1 145 rfl rfl, gW_c0 0 rfl rfl, TX4, 4, rfl⟩
theorem d_F_siblings_5 : gAst M_F_siblings 5 3 6 := Or.inr ⟨3, by decide +kernel, rfl, rfl⟩
theorem d_F_siblings_6 : gIl M_F_siblings 6 2 7 := Or.inr ⟨2, by decide +kernel, rfl, rfl⟩
theorem d_F_siblings_7 : gD M_F_siblings 7 (.invokestatic 42) 3 10 := ⟨by decide +kernel, rfl⟩
theorem cs_F_siblings_7 : gClS M_F_siblings 42 y_F_checkDocument M_F_checkDocument 1 := ⟨⟨gW_c1 215 rfl rfl, gW_c1 1 rfl rfl, cd_F_checkDocument, by decide +kernel, by decide +kernel⟩, gW_c1 216 rfl rfl⟩
theorem d_F_siblings_10 : gAl M_F_siblings 10 3 11 := Or.inr ⟨3, by decide +kernel, rfl, rfl⟩
theorem d_F_siblings_11 : gIl M_F_siblings 11 2 12 := Or.inr ⟨2, by decide +kernel, rfl, rfl⟩
theorem d_F_siblings_12 : gD M_F_siblings 12 (.invokevirtual 52) 3 15 := ⟨by decide +kernel, rfl⟩
theorem cs_F_siblings_12 : gClV M_F_siblings 52 2 y_S_countSiblings M_S_countSiblings 1 := ⟨⟨gW_c3 229 rfl rfl, gW_c1 2 rfl rfl, cd_S_countSiblings, by decide +kernel, by decide +kernel⟩, rfl, gW_c3 230 rfl rfl, gW_c3 231 rfl rfl, TX1, 3, rfl⟩
theorem d_F_siblings_15 : gD M_F_siblings 15 (.ireturn) 1 16 := ⟨by decide +kernel, rfl⟩
theorem d_F_counter_0 : gAl M_F_counter 0 0 1 := Or.inr ⟨0, by decide +kernel, rfl, rfl⟩
theorem d_F_counter_1 : gIl M_F_counter 1 1 2 := Or.inr ⟨1, by decide +kernel, rfl, rfl⟩
theorem d_F_counter_2 : gIl M_F_counter 2 2 3 := Or.inr ⟨2, by decide +kernel, rfl, rfl⟩
theorem d_F_counter_3 : gIl M_F_counter 3 3 4 := Or.inr ⟨3, by decide +kernel, rfl, rfl⟩
theorem d_F_counter_4 : gD M_F_counter 4 (.invokevirtual 56) 3 7 := ⟨by decide +kernel, rfl⟩
theorem cs_F_counter_4 : gClV M_F_counter 56 5 y_F_siblingAt M_F_siblingAt 3 := ⟨⟨gW_c4 5 rfl rfl, gW_c1 1 rfl rfl, cd_F_siblingAt, by decide +kernel, by decide +kernel⟩, rfl, gW_c4 7 rfl rfl, gW_c0 7 rfl rfl, TX4, 4, rfl⟩
theorem d_F_counter_7 : gAst M_F_counter 7 5 9 := Or.inl ⟨by decide +kernel, rfl⟩
theorem d_F_counter_9 : gIl M_F_counter 9 4 11 := Or.inl ⟨by decide +kernel, rfl⟩
theorem d_F_counter_11 : gD M_F_counter 11 (.invokestatic 60) 3 14 := ⟨by decide +kernel, rfl⟩
theorem cs_F_counter_11 : gClS M_F_counter 60 y_F_checkCounter M_F_checkCounter 1 := ⟨⟨gW_c4 13 rfl rfl, gW_c1 1 rfl rfl, cd_F_checkCounter, by decide +kernel, by decide +kernel⟩, gW_c4 14 rfl rfl⟩
theorem d_F_counter_14 : gAl M_F_counter 14 5 16 := Or.inl ⟨by decide +kernel, rfl⟩
theorem d_F_counter_16 : gGf M_F_counter 16 4 3 19 := ⟨63, by decide +kernel, rfl, fl_F_63 _ rfl⟩
theorem d_F_counter_19 : gIl M_F_counter 19 4 21 := Or.inl ⟨by decide +kernel, rfl⟩
theorem d_F_counter_21 : gD M_F_counter 21 (.iaload) 1 22 := ⟨by decide +kernel, rfl⟩
theorem d_F_counter_22 : gD M_F_counter 22 (.ireturn) 1 23 := ⟨by decide +kernel, rfl⟩
theorem d_F_siblingAt_0 : gAl M_F_siblingAt 0 0 1 := Or.inr ⟨0, by decide +kernel, rfl, rfl⟩
theorem d_F_siblingAt_1 : gIl M_F_siblingAt 1 1 2 := Or.inr ⟨1, by decide +kernel, rfl, rfl⟩
theorem d_F_siblingAt_2 : gD M_F_siblingAt 2 (.invokevirtual 38) 3 5 := ⟨by decide +kernel, rfl⟩
theorem cs_F_siblingAt_2 : gClV M_F_siblingAt 38 5 y_F_stationAt M_F_stationAt 1 := ⟨⟨gW_c1 143 rfl rfl, gW_c1 1 rfl rfl, cd_F_stationAt, by decide +kernel, by decide +kernel⟩, rfl, gW_c1 145 rfl rfl, gW_c0 0 rfl rfl, TX4, 4, rfl⟩
theorem d_F_siblingAt_5 : gAst M_F_siblingAt 5 4 7 := Or.inl ⟨by decide +kernel, rfl⟩
theorem d_F_siblingAt_7 : gIl M_F_siblingAt 7 2 8 := Or.inr ⟨2, by decide +kernel, rfl, rfl⟩
theorem d_F_siblingAt_8 : gD M_F_siblingAt 8 (.invokestatic 42) 3 11 := ⟨by decide +kernel, rfl⟩
theorem cs_F_siblingAt_8 : gClS M_F_siblingAt 42 y_F_checkDocument M_F_checkDocument 1 := ⟨⟨gW_c1 215 rfl rfl, gW_c1 1 rfl rfl, cd_F_checkDocument, by decide +kernel, by decide +kernel⟩, gW_c1 216 rfl rfl⟩
theorem d_F_siblingAt_11 : gAl M_F_siblingAt 11 4 13 := Or.inl ⟨by decide +kernel, rfl⟩
theorem d_F_siblingAt_13 : gIl M_F_siblingAt 13 2 14 := Or.inr ⟨2, by decide +kernel, rfl, rfl⟩
theorem d_F_siblingAt_14 : gIl M_F_siblingAt 14 3 15 := Or.inr ⟨3, by decide +kernel, rfl, rfl⟩
theorem d_F_siblingAt_15 : gD M_F_siblingAt 15 (.invokevirtual 143) 3 18 := ⟨by decide +kernel, rfl⟩
theorem cs_F_siblingAt_15 : gClV M_F_siblingAt 143 2 y_S_findSibling M_S_findSibling 2 := ⟨⟨gW_c4 9 rfl rfl, gW_c1 2 rfl rfl, cd_S_findSibling, by decide +kernel, by decide +kernel⟩, rfl, gW_c4 10 rfl rfl, gW_c4 11 rfl rfl, TX1, 3, rfl⟩
theorem d_F_siblingAt_18 : gAst M_F_siblingAt 18 5 20 := Or.inl ⟨by decide +kernel, rfl⟩
theorem d_F_siblingAt_20 : gAl M_F_siblingAt 20 5 22 := Or.inl ⟨by decide +kernel, rfl⟩
theorem d_F_siblingAt_22 : gB M_F_siblingAt 22 (.ifnonnull 11) 11 25 33 := ⟨by decide +kernel, rfl, by decide⟩
theorem th_F_siblingAt_25 : gTh M_F_siblingAt 25 "java/util/NoSuchElementException" := ⟨133, 135, by decide +kernel, by decide +kernel, by decide +kernel, by decide +kernel, by decide +kernel, gW_c1 150 rfl rfl, gW_c1 12 rfl rfl, vx_F_135, by decide +kernel⟩
theorem d_F_siblingAt_28 : gD M_F_siblingAt 28 (.dup) 1 29 := ⟨by decide +kernel, rfl⟩
theorem d_F_siblingAt_29 : gD M_F_siblingAt 29 (.invokespecial 135) 3 32 := ⟨by decide +kernel, rfl⟩
theorem d_F_siblingAt_32 : gD M_F_siblingAt 32 (.athrow) 1 33 := ⟨by decide +kernel, rfl⟩
theorem d_F_siblingAt_33 : gAl M_F_siblingAt 33 5 35 := Or.inl ⟨by decide +kernel, rfl⟩
theorem d_F_siblingAt_35 : gD M_F_siblingAt 35 (.areturn) 1 36 := ⟨by decide +kernel, rfl⟩
theorem d_F_checkCounter_0 : gIl M_F_checkCounter 0 0 1 := Or.inr ⟨0, by decide +kernel, rfl, rfl⟩
theorem d_F_checkCounter_1 : gB M_F_checkCounter 1 (.ifCond .lt 8) 8 4 9 := ⟨by decide +kernel, rfl, by decide⟩
theorem d_F_checkCounter_4 : gIl M_F_checkCounter 4 0 5 := Or.inr ⟨0, by decide +kernel, rfl, rfl⟩
theorem d_F_checkCounter_5 : gN M_F_checkCounter 5 4 6 := Or.inl ⟨4, by decide +kernel, by decide, rfl⟩
theorem d_F_checkCounter_6 : gB M_F_checkCounter 6 (.if_icmp .lt 11) 11 9 17 := ⟨by decide +kernel, rfl, by decide⟩
theorem th_F_checkCounter_9 : gTh M_F_checkCounter 9 "java/lang/IndexOutOfBoundsException" := ⟨72, 74, by decide +kernel, by decide +kernel, by decide +kernel, by decide +kernel, by decide +kernel, gW_c4 16 rfl rfl, gW_c1 29 rfl rfl, vx_F_74, by decide +kernel⟩
theorem d_F_checkCounter_12 : gD M_F_checkCounter 12 (.dup) 1 13 := ⟨by decide +kernel, rfl⟩
theorem d_F_checkCounter_13 : gD M_F_checkCounter 13 (.invokespecial 74) 3 16 := ⟨by decide +kernel, rfl⟩
theorem d_F_checkCounter_16 : gD M_F_checkCounter 16 (.athrow) 1 17 := ⟨by decide +kernel, rfl⟩
theorem d_F_checkCounter_17 : gD M_F_checkCounter 17 (.return_) 1 18 := ⟨by decide +kernel, rfl⟩
theorem d_F_byteOf_0 : gAl M_F_byteOf 0 0 1 := Or.inr ⟨0, by decide +kernel, rfl, rfl⟩
theorem d_F_byteOf_1 : gIl M_F_byteOf 1 1 2 := Or.inr ⟨1, by decide +kernel, rfl, rfl⟩
theorem d_F_byteOf_2 : gIl M_F_byteOf 2 2 3 := Or.inr ⟨2, by decide +kernel, rfl, rfl⟩
theorem d_F_byteOf_3 : gIl M_F_byteOf 3 3 4 := Or.inr ⟨3, by decide +kernel, rfl, rfl⟩
theorem d_F_byteOf_4 : gD M_F_byteOf 4 (.invokevirtual 56) 3 7 := ⟨by decide +kernel, rfl⟩
theorem cs_F_byteOf_4 : gClV M_F_byteOf 56 5 y_F_siblingAt M_F_siblingAt 3 := ⟨⟨gW_c4 5 rfl rfl, gW_c1 1 rfl rfl, cd_F_siblingAt, by decide +kernel, by decide +kernel⟩, rfl, gW_c4 7 rfl rfl, gW_c0 7 rfl rfl, TX4, 4, rfl⟩
theorem d_F_byteOf_7 : gAst M_F_byteOf 7 5 9 := Or.inl ⟨by decide +kernel, rfl⟩
theorem d_F_byteOf_9 : gIl M_F_byteOf 9 4 11 := Or.inl ⟨by decide +kernel, rfl⟩
theorem d_F_byteOf_11 : gN M_F_byteOf 11 (-1) 12 := Or.inl ⟨(-1), by decide +kernel, by decide, rfl⟩
theorem d_F_byteOf_12 : gB M_F_byteOf 12 (.if_icmp .lt 13) 13 15 25 := ⟨by decide +kernel, rfl, by decide⟩
theorem d_F_byteOf_15 : gIl M_F_byteOf 15 4 17 := Or.inl ⟨by decide +kernel, rfl⟩
theorem d_F_byteOf_17 : gAl M_F_byteOf 17 5 19 := Or.inl ⟨by decide +kernel, rfl⟩
theorem d_F_byteOf_19 : gGf M_F_byteOf 19 4 1 22 := ⟨69, by decide +kernel, rfl, fl_F_69 _ rfl⟩
theorem d_F_byteOf_22 : gB M_F_byteOf 22 (.if_icmp .lt 11) 11 25 33 := ⟨by decide +kernel, rfl, by decide⟩
theorem th_F_byteOf_25 : gTh M_F_byteOf 25 "java/lang/IndexOutOfBoundsException" := ⟨72, 74, by decide +kernel, by decide +kernel, by decide +kernel, by decide +kernel, by decide +kernel, gW_c4 16 rfl rfl, gW_c1 29 rfl rfl, vx_F_74, by decide +kernel⟩
theorem d_F_byteOf_28 : gD M_F_byteOf 28 (.dup) 1 29 := ⟨by decide +kernel, rfl⟩
theorem d_F_byteOf_29 : gD M_F_byteOf 29 (.invokespecial 74) 3 32 := ⟨by decide +kernel, rfl⟩
theorem d_F_byteOf_32 : gD M_F_byteOf 32 (.athrow) 1 33 := ⟨by decide +kernel, rfl⟩
theorem d_F_byteOf_33 : gIl M_F_byteOf 33 4 35 := Or.inl ⟨by decide +kernel, rfl⟩
theorem d_F_byteOf_35 : gN M_F_byteOf 35 (-1) 36 := Or.inl ⟨(-1), by decide +kernel, by decide, rfl⟩
theorem d_F_byteOf_36 : gB M_F_byteOf 36 (.if_icmp .ne 11) 11 39 47 := ⟨by decide +kernel, rfl, by decide⟩
theorem d_F_byteOf_39 : gAl M_F_byteOf 39 5 41 := Or.inl ⟨by decide +kernel, rfl⟩
theorem d_F_byteOf_41 : gGf M_F_byteOf 41 4 1 44 := ⟨69, by decide +kernel, rfl, fl_F_69 _ rfl⟩
theorem d_F_byteOf_44 : gB M_F_byteOf 44 (.goto 15) 15 47 59 := ⟨by decide +kernel, rfl, by decide⟩
theorem d_F_byteOf_47 : gAl M_F_byteOf 47 5 49 := Or.inl ⟨by decide +kernel, rfl⟩
theorem d_F_byteOf_49 : gGf M_F_byteOf 49 4 2 52 := ⟨75, by decide +kernel, rfl, fl_F_75 _ rfl⟩
theorem d_F_byteOf_52 : gIl M_F_byteOf 52 4 54 := Or.inl ⟨by decide +kernel, rfl⟩
theorem d_F_byteOf_54 : gD M_F_byteOf 54 (.iadd) 1 55 := ⟨by decide +kernel, rfl⟩
theorem d_F_byteOf_55 : gN M_F_byteOf 55 256 58 := Or.inr (Or.inr (Or.inl ⟨256, by decide +kernel, by decide, rfl⟩))
theorem d_F_byteOf_58 : gD M_F_byteOf 58 (.irem) 1 59 := ⟨by decide +kernel, rfl⟩
theorem d_F_byteOf_59 : gD M_F_byteOf 59 (.ireturn) 1 60 := ⟨by decide +kernel, rfl⟩
theorem d_F_visit_0 : gAl M_F_visit 0 0 1 := Or.inr ⟨0, by decide +kernel, rfl, rfl⟩
theorem d_F_visit_1 : gAl M_F_visit 1 0 2 := Or.inr ⟨0, by decide +kernel, rfl, rfl⟩
theorem d_F_visit_2 : gIl M_F_visit 2 1 3 := Or.inr ⟨1, by decide +kernel, rfl, rfl⟩
theorem d_F_visit_3 : gD M_F_visit 3 (.invokevirtual 78) 3 6 := ⟨by decide +kernel, rfl⟩
theorem cs_F_visit_3 : gClV M_F_visit 78 5 y_F_cartridgeAt M_F_cartridgeAt 1 := ⟨⟨gW_c4 35 rfl rfl, gW_c1 1 rfl rfl, cd_F_cartridgeAt, by decide +kernel, by decide +kernel⟩, rfl, gW_c4 37 rfl rfl, gW_c0 8 rfl rfl, TX4, 4, rfl⟩
theorem d_F_visit_6 : gAl M_F_visit 6 0 7 := Or.inr ⟨0, by decide +kernel, rfl, rfl⟩
theorem d_F_visit_7 : gIl M_F_visit 7 2 8 := Or.inr ⟨2, by decide +kernel, rfl, rfl⟩
theorem d_F_visit_8 : gD M_F_visit 8 (.invokevirtual 38) 3 11 := ⟨by decide +kernel, rfl⟩
theorem cs_F_visit_8 : gClV M_F_visit 38 5 y_F_stationAt M_F_stationAt 1 := ⟨⟨gW_c1 143 rfl rfl, gW_c1 1 rfl rfl, cd_F_stationAt, by decide +kernel, by decide +kernel⟩, rfl, gW_c1 145 rfl rfl, gW_c0 0 rfl rfl, TX4, 4, rfl⟩
theorem d_F_visit_11 : gIl M_F_visit 11 3 12 := Or.inr ⟨3, by decide +kernel, rfl, rfl⟩
theorem d_F_visit_12 : gN M_F_visit 12 2147483647 14 := Or.inr (Or.inr (Or.inr ⟨82, by decide +kernel, gW_c4 39 rfl rfl, rfl⟩))
theorem d_F_visit_14 : gD M_F_visit 14 (.invokevirtual 83) 3 17 := ⟨by decide +kernel, rfl⟩
theorem cs_F_visit_14 : gClV M_F_visit 83 5 y_F_goThrough M_F_goThrough 4 := ⟨⟨gW_c4 40 rfl rfl, gW_c1 1 rfl rfl, cd_F_goThrough, by decide +kernel, by decide +kernel⟩, rfl, gW_c4 42 rfl rfl, gW_c0 9 rfl rfl, TX4, 4, rfl⟩
theorem d_F_visit_17 : gD M_F_visit 17 (.ireturn) 1 18 := ⟨by decide +kernel, rfl⟩
theorem d_F_cartridgeAt_0 : gIl M_F_cartridgeAt 0 1 1 := Or.inr ⟨1, by decide +kernel, rfl, rfl⟩
theorem d_F_cartridgeAt_1 : gB M_F_cartridgeAt 1 (.ifCond .lt 8) 8 4 9 := ⟨by decide +kernel, rfl, by decide⟩
theorem d_F_cartridgeAt_4 : gIl M_F_cartridgeAt 4 1 5 := Or.inr ⟨1, by decide +kernel, rfl, rfl⟩
theorem d_F_cartridgeAt_5 : gN M_F_cartridgeAt 5 3 6 := Or.inl ⟨3, by decide +kernel, by decide, rfl⟩
theorem d_F_cartridgeAt_6 : gB M_F_cartridgeAt 6 (.if_icmp .lt 11) 11 9 17 := ⟨by decide +kernel, rfl, by decide⟩
theorem th_F_cartridgeAt_9 : gTh M_F_cartridgeAt 9 "java/util/NoSuchElementException" := ⟨133, 135, by decide +kernel, by decide +kernel, by decide +kernel, by decide +kernel, by decide +kernel, gW_c1 150 rfl rfl, gW_c1 12 rfl rfl, vx_F_135, by decide +kernel⟩
theorem d_F_cartridgeAt_12 : gD M_F_cartridgeAt 12 (.dup) 1 13 := ⟨by decide +kernel, rfl⟩
theorem d_F_cartridgeAt_13 : gD M_F_cartridgeAt 13 (.invokespecial 135) 3 16 := ⟨by decide +kernel, rfl⟩
theorem d_F_cartridgeAt_16 : gD M_F_cartridgeAt 16 (.athrow) 1 17 := ⟨by decide +kernel, rfl⟩
theorem d_F_cartridgeAt_17 : gAl M_F_cartridgeAt 17 0 18 := Or.inr ⟨0, by decide +kernel, rfl, rfl⟩
theorem d_F_cartridgeAt_18 : gGf M_F_cartridgeAt 18 5 1 21 := ⟨22, by decide +kernel, rfl, fl_F_22 _ rfl⟩
theorem d_F_cartridgeAt_21 : gIl M_F_cartridgeAt 21 1 22 := Or.inr ⟨1, by decide +kernel, rfl, rfl⟩
theorem d_F_cartridgeAt_22 : gD M_F_cartridgeAt 22 (.aaload) 1 23 := ⟨by decide +kernel, rfl⟩
theorem d_F_cartridgeAt_23 : gD M_F_cartridgeAt 23 (.areturn) 1 24 := ⟨by decide +kernel, rfl⟩
theorem d_F_goThrough_0 : gAl M_F_goThrough 0 0 1 := Or.inr ⟨0, by decide +kernel, rfl, rfl⟩
theorem d_F_goThrough_1 : gAl M_F_goThrough 1 1 2 := Or.inr ⟨1, by decide +kernel, rfl, rfl⟩
theorem d_F_goThrough_2 : gAl M_F_goThrough 2 2 3 := Or.inr ⟨2, by decide +kernel, rfl, rfl⟩
theorem d_F_goThrough_3 : gIl M_F_goThrough 3 4 5 := Or.inl ⟨by decide +kernel, rfl⟩
theorem d_F_goThrough_5 : gD M_F_goThrough 5 (.invokevirtual 160) 3 8 := ⟨by decide +kernel, rfl⟩
theorem cs_F_goThrough_5 : gClV M_F_goThrough 160 5 y_F_unload M_F_unload 3 := ⟨⟨gW_c4 44 rfl rfl, gW_c1 1 rfl rfl, cd_F_unload, by decide +kernel, by decide +kernel⟩, rfl, gW_c4 46 rfl rfl, gW_c0 10 rfl rfl, TX4, 4, rfl⟩
theorem d_F_goThrough_8 : gIs M_F_goThrough 8 5 10 := Or.inl ⟨by decide +kernel, rfl⟩
theorem d_F_goThrough_10 : gAl M_F_goThrough 10 1 11 := Or.inr ⟨1, by decide +kernel, rfl, rfl⟩
theorem d_F_goThrough_11 : gGf M_F_goThrough 11 1 0 14 := ⟨87, by decide +kernel, rfl, fl_F_87 _ rfl⟩
theorem d_F_goThrough_14 : gD M_F_goThrough 14 (.invokevirtual 164) 3 17 := ⟨by decide +kernel, rfl⟩
theorem cs_F_goThrough_14 : gClV M_F_goThrough 164 0 y_A_isEmpty M_A_isEmpty 0 := ⟨⟨gW_c4 50 rfl rfl, gW_c1 5 rfl rfl, cd_A_isEmpty, by decide +kernel, by decide +kernel⟩, rfl, gW_c4 51 rfl rfl, gW_c4 52 rfl rfl, TJx4a65c, 3, rfl⟩
theorem d_F_goThrough_17 : gB M_F_goThrough 17 (.ifCond .ne 5) 5 20 22 := ⟨by decide +kernel, rfl, by decide⟩
theorem d_F_goThrough_20 : gN M_F_goThrough 20 0 21 := Or.inl ⟨0, by decide +kernel, by decide, rfl⟩
theorem d_F_goThrough_21 : gD M_F_goThrough 21 (.ireturn) 1 22 := ⟨by decide +kernel, rfl⟩
theorem d_F_goThrough_22 : gAl M_F_goThrough 22 2 23 := Or.inr ⟨2, by decide +kernel, rfl, rfl⟩
theorem d_F_goThrough_23 : gAl M_F_goThrough 23 1 24 := Or.inr ⟨1, by decide +kernel, rfl, rfl⟩
theorem d_F_goThrough_24 : gGf M_F_goThrough 24 1 1 27 := ⟨97, by decide +kernel, rfl, fl_F_97 _ rfl⟩
theorem d_F_goThrough_27 : gD M_F_goThrough 27 (.invokevirtual 168) 3 30 := ⟨by decide +kernel, rfl⟩
theorem cs_F_goThrough_27 : gClV M_F_goThrough 168 2 y_S_learn M_S_learn 1 := ⟨⟨gW_c4 64 rfl rfl, gW_c1 2 rfl rfl, cd_S_learn, by decide +kernel, by decide +kernel⟩, rfl, gW_c4 65 rfl rfl, gW_c4 66 rfl rfl, TX1, 3, rfl⟩
theorem d_F_goThrough_30 : gAl M_F_goThrough 30 2 31 := Or.inr ⟨2, by decide +kernel, rfl, rfl⟩
theorem d_F_goThrough_31 : gD M_F_goThrough 31 (.invokevirtual 172) 3 34 := ⟨by decide +kernel, rfl⟩
theorem cs_F_goThrough_31 : gClV M_F_goThrough 172 2 y_S_dropMarksThatAllHave M_S_dropMarksThatAllHave 0 := ⟨⟨gW_c4 72 rfl rfl, gW_c1 2 rfl rfl, cd_S_dropMarksThatAllHave, by decide +kernel, by decide +kernel⟩, rfl, gW_c4 73 rfl rfl, gW_c4 74 rfl rfl, TX1, 3, rfl⟩
theorem d_F_goThrough_34 : gAl M_F_goThrough 34 1 35 := Or.inr ⟨1, by decide +kernel, rfl, rfl⟩
theorem d_F_goThrough_35 : gGf M_F_goThrough 35 1 1 38 := ⟨97, by decide +kernel, rfl, fl_F_97 _ rfl⟩
theorem d_F_goThrough_38 : gAl M_F_goThrough 38 2 39 := Or.inr ⟨2, by decide +kernel, rfl, rfl⟩
theorem d_F_goThrough_39 : gGf M_F_goThrough 39 2 2 42 := ⟨113, by decide +kernel, rfl, fl_F_113 _ rfl⟩
theorem d_F_goThrough_42 : gD M_F_goThrough 42 (.invokevirtual 175) 3 45 := ⟨by decide +kernel, rfl⟩
theorem cs_F_goThrough_42 : gClV M_F_goThrough 175 3 y_T_become M_T_become 1 := ⟨⟨gW_c4 81 rfl rfl, gW_c1 6 rfl rfl, cd_T_become, by decide +kernel, by decide +kernel⟩, rfl, gW_c4 82 rfl rfl, gW_c4 83 rfl rfl, TX2, 1, rfl⟩
theorem d_F_goThrough_45 : gAl M_F_goThrough 45 0 46 := Or.inr ⟨0, by decide +kernel, rfl, rfl⟩
theorem d_F_goThrough_46 : gAl M_F_goThrough 46 1 47 := Or.inr ⟨1, by decide +kernel, rfl, rfl⟩
theorem d_F_goThrough_47 : gAl M_F_goThrough 47 2 48 := Or.inr ⟨2, by decide +kernel, rfl, rfl⟩
theorem d_F_goThrough_48 : gIl M_F_goThrough 48 3 49 := Or.inr ⟨3, by decide +kernel, rfl, rfl⟩
theorem d_F_goThrough_49 : gIl M_F_goThrough 49 4 51 := Or.inl ⟨by decide +kernel, rfl⟩
theorem d_F_goThrough_51 : gIl M_F_goThrough 51 5 53 := Or.inl ⟨by decide +kernel, rfl⟩
theorem d_F_goThrough_53 : gD M_F_goThrough 53 (.isub) 1 54 := ⟨by decide +kernel, rfl⟩
theorem d_F_goThrough_54 : gD M_F_goThrough 54 (.invokevirtual 177) 3 57 := ⟨by decide +kernel, rfl⟩
theorem cs_F_goThrough_54 : gClV M_F_goThrough 177 5 y_F_load M_F_load 4 := ⟨⟨gW_c4 86 rfl rfl, gW_c1 1 rfl rfl, cd_F_load, by decide +kernel, by decide +kernel⟩, rfl, gW_c4 88 rfl rfl, gW_c0 11 rfl rfl, TX4, 4, rfl⟩
theorem d_F_goThrough_57 : gD M_F_goThrough 57 (.ireturn) 1 58 := ⟨by decide +kernel, rfl⟩
theorem d_F_unload_0 : gAl M_F_unload 0 1 1 := Or.inr ⟨1, by decide +kernel, rfl, rfl⟩
theorem d_F_unload_1 : gGf M_F_unload 1 1 0 4 := ⟨87, by decide +kernel, rfl, fl_F_87 _ rfl⟩
theorem d_F_unload_4 : gD M_F_unload 4 (.invokevirtual 90) 3 7 := ⟨by decide +kernel, rfl⟩
theorem cs_F_unload_4 : gClV M_F_unload 90 0 y_A_size M_A_size 0 := ⟨⟨gW_c4 48 rfl rfl, gW_c1 5 rfl rfl, cd_A_size, by decide +kernel, by decide +kernel⟩, rfl, gW_c3 94 rfl rfl, gW_c3 95 rfl rfl, TJx4a65c, 3, rfl⟩
theorem d_F_unload_7 : gIl M_F_unload 7 3 8 := Or.inr ⟨3, by decide +kernel, rfl, rfl⟩
theorem d_F_unload_8 : gD M_F_unload 8 (.invokestatic 180) 3 11 := ⟨by decide +kernel, rfl⟩
theorem cs_F_unload_8 : gClS M_F_unload 180 y_J_min M_J_min 2 := ⟨⟨gW_c4 49 rfl rfl, gW_c1 23 rfl rfl, cd_J_min, by decide +kernel, by decide +kernel⟩, gW_c2 112 rfl rfl⟩
theorem d_F_unload_11 : gIs M_F_unload 11 4 13 := Or.inl ⟨by decide +kernel, rfl⟩
theorem d_F_unload_13 : gN M_F_unload 13 0 14 := Or.inl ⟨0, by decide +kernel, by decide, rfl⟩
theorem d_F_unload_14 : gIs M_F_unload 14 5 16 := Or.inl ⟨by decide +kernel, rfl⟩
theorem d_F_unload_16 : gIl M_F_unload 16 5 18 := Or.inl ⟨by decide +kernel, rfl⟩
theorem d_F_unload_18 : gIl M_F_unload 18 4 20 := Or.inl ⟨by decide +kernel, rfl⟩
theorem d_F_unload_20 : gB M_F_unload 20 (.if_icmp .ge 60) 60 23 80 := ⟨by decide +kernel, rfl, by decide⟩
theorem d_F_unload_23 : gAl M_F_unload 23 1 24 := Or.inr ⟨1, by decide +kernel, rfl, rfl⟩
theorem d_F_unload_24 : gGf M_F_unload 24 1 0 27 := ⟨87, by decide +kernel, rfl, fl_F_87 _ rfl⟩
theorem d_F_unload_27 : gD M_F_unload 27 (.invokevirtual 164) 3 30 := ⟨by decide +kernel, rfl⟩
theorem cs_F_unload_27 : gClV M_F_unload 164 0 y_A_isEmpty M_A_isEmpty 0 := ⟨⟨gW_c4 50 rfl rfl, gW_c1 5 rfl rfl, cd_A_isEmpty, by decide +kernel, by decide +kernel⟩, rfl, gW_c4 51 rfl rfl, gW_c4 52 rfl rfl, TJx4a65c, 3, rfl⟩
theorem d_F_unload_30 : gB M_F_unload 30 (.ifCond .ne 50) 50 33 80 := ⟨by decide +kernel, rfl, by decide⟩
theorem d_F_unload_33 : gAl M_F_unload 33 1 34 := Or.inr ⟨1, by decide +kernel, rfl, rfl⟩
theorem d_F_unload_34 : gGf M_F_unload 34 1 0 37 := ⟨87, by decide +kernel, rfl, fl_F_87 _ rfl⟩
theorem d_F_unload_37 : gN M_F_unload 37 0 38 := Or.inl ⟨0, by decide +kernel, by decide, rfl⟩
theorem d_F_unload_38 : gD M_F_unload 38 (.invokevirtual 186) 3 41 := ⟨by decide +kernel, rfl⟩
theorem cs_F_unload_38 : gClV M_F_unload 186 0 y_A_remove M_A_remove 1 := ⟨⟨gW_c4 54 rfl rfl, gW_c1 5 rfl rfl, cd_A_remove, by decide +kernel, by decide +kernel⟩, rfl, gW_c3 120 rfl rfl, gW_c3 121 rfl rfl, TJx4a65c, 3, rfl⟩
theorem d_F_unload_41 : gD M_F_unload 41 (.checkcast 64) 3 44 := ⟨by decide +kernel, rfl⟩
theorem cl_F_unload_41 : Cond.classLink M_F_unload.2.2.1 64 "FolderRounds$Version" ∈ gW := gW_c4 55 rfl rfl
theorem d_F_unload_44 : gAst M_F_unload 44 6 46 := Or.inl ⟨by decide +kernel, rfl⟩
theorem d_F_unload_46 : gAl M_F_unload 46 2 47 := Or.inr ⟨2, by decide +kernel, rfl, rfl⟩
theorem d_F_unload_47 : gAl M_F_unload 47 6 49 := Or.inl ⟨by decide +kernel, rfl⟩
theorem d_F_unload_49 : gD M_F_unload 49 (.invokevirtual 189) 3 52 := ⟨by decide +kernel, rfl⟩
theorem cs_F_unload_49 : gClV M_F_unload 189 2 y_S_lacks M_S_lacks 1 := ⟨⟨gW_c4 56 rfl rfl, gW_c1 2 rfl rfl, cd_S_lacks, by decide +kernel, by decide +kernel⟩, rfl, gW_c4 57 rfl rfl, gW_c4 58 rfl rfl, TX1, 3, rfl⟩
theorem d_F_unload_52 : gB M_F_unload 52 (.ifCond .eq 22) 22 55 74 := ⟨by decide +kernel, rfl, by decide⟩
theorem d_F_unload_55 : gAl M_F_unload 55 2 56 := Or.inr ⟨2, by decide +kernel, rfl, rfl⟩
theorem d_F_unload_56 : gAl M_F_unload 56 6 58 := Or.inl ⟨by decide +kernel, rfl⟩
theorem d_F_unload_58 : gD M_F_unload 58 (.invokevirtual 156) 3 61 := ⟨by decide +kernel, rfl⟩
theorem cs_F_unload_58 : gClV M_F_unload 156 2 y_S_takeIn M_S_takeIn 1 := ⟨⟨gW_c3 77 rfl rfl, gW_c1 2 rfl rfl, cd_S_takeIn, by decide +kernel, by decide +kernel⟩, rfl, gW_c3 78 rfl rfl, gW_c3 79 rfl rfl, TX1, 3, rfl⟩
theorem d_F_unload_61 : gB M_F_unload 61 (.ifCond .ne 13) 13 64 74 := ⟨by decide +kernel, rfl, by decide⟩
theorem d_F_unload_64 : gAl M_F_unload 64 0 65 := Or.inr ⟨0, by decide +kernel, rfl, rfl⟩
theorem d_F_unload_65 : gD M_F_unload 65 (.dup) 1 66 := ⟨by decide +kernel, rfl⟩
theorem d_F_unload_66 : gGf M_F_unload 66 5 3 69 := ⟨34, by decide +kernel, rfl, fl_F_34 _ rfl⟩
theorem d_F_unload_69 : gN M_F_unload 69 1 70 := Or.inl ⟨1, by decide +kernel, by decide, rfl⟩
theorem d_F_unload_70 : gD M_F_unload 70 (.iadd) 1 71 := ⟨by decide +kernel, rfl⟩
theorem d_F_unload_71 : gPf M_F_unload 71 5 3 .int 74 := ⟨34, by decide +kernel, rfl, RX4, TX4, 4, "FolderRounds", tyX4, rfl, by decide, gW_c1 119 rfl rfl, gws_5, Or.inl rfl, tyX4_ok, nmX4, by decide +kernel, Or.inl rfl⟩
theorem d_F_unload_74 : gIc M_F_unload 74 5 1 77 := ⟨1, by decide +kernel, by decide, rfl⟩
theorem d_F_unload_77 : gB M_F_unload 77 (.goto (-61)) (-61) 80 16 := ⟨by decide +kernel, rfl, by decide⟩
theorem d_F_unload_80 : gIl M_F_unload 80 4 82 := Or.inl ⟨by decide +kernel, rfl⟩
theorem d_F_unload_82 : gD M_F_unload 82 (.ireturn) 1 83 := ⟨by decide +kernel, rfl⟩
theorem d_F_load_0 : gAl M_F_load 0 0 1 := Or.inr ⟨0, by decide +kernel, rfl, rfl⟩
theorem d_F_load_1 : gAl M_F_load 1 2 2 := Or.inr ⟨2, by decide +kernel, rfl, rfl⟩
theorem d_F_load_2 : gIl M_F_load 2 3 3 := Or.inr ⟨3, by decide +kernel, rfl, rfl⟩
theorem d_F_load_3 : gD M_F_load 3 (.invokevirtual 192) 3 6 := ⟨by decide +kernel, rfl⟩
theorem cs_F_load_3 : gClV M_F_load 192 5 y_F_chooseWhatToLoad M_F_chooseWhatToLoad 2 := ⟨⟨gW_c4 90 rfl rfl, gW_c1 1 rfl rfl, cd_F_chooseWhatToLoad, by decide +kernel, by decide +kernel⟩, rfl, gW_c4 92 rfl rfl, gW_c0 12 rfl rfl, TX4, 4, rfl⟩
theorem d_F_load_6 : gN M_F_load 6 0 7 := Or.inl ⟨0, by decide +kernel, by decide, rfl⟩
theorem d_F_load_7 : gIs M_F_load 7 5 9 := Or.inl ⟨by decide +kernel, rfl⟩
theorem d_F_load_9 : gN M_F_load 9 0 10 := Or.inl ⟨0, by decide +kernel, by decide, rfl⟩
theorem d_F_load_10 : gIs M_F_load 10 6 12 := Or.inl ⟨by decide +kernel, rfl⟩
theorem d_F_load_12 : gIl M_F_load 12 6 14 := Or.inl ⟨by decide +kernel, rfl⟩
theorem d_F_load_14 : gAl M_F_load 14 0 15 := Or.inr ⟨0, by decide +kernel, rfl, rfl⟩
theorem d_F_load_15 : gGf M_F_load 15 5 2 18 := ⟨30, by decide +kernel, rfl, fl_F_30 _ rfl⟩
theorem d_F_load_18 : gD M_F_load 18 (.invokevirtual 90) 3 21 := ⟨by decide +kernel, rfl⟩
theorem cs_F_load_18 : gClV M_F_load 90 0 y_A_size M_A_size 0 := ⟨⟨gW_c4 48 rfl rfl, gW_c1 5 rfl rfl, cd_A_size, by decide +kernel, by decide +kernel⟩, rfl, gW_c3 94 rfl rfl, gW_c3 95 rfl rfl, TJx4a65c, 3, rfl⟩
theorem d_F_load_21 : gB M_F_load 21 (.if_icmp .ge 55) 55 24 76 := ⟨by decide +kernel, rfl, by decide⟩
theorem d_F_load_24 : gIl M_F_load 24 5 26 := Or.inl ⟨by decide +kernel, rfl⟩
theorem d_F_load_26 : gIl M_F_load 26 4 28 := Or.inl ⟨by decide +kernel, rfl⟩
theorem d_F_load_28 : gB M_F_load 28 (.if_icmp .ge 48) 48 31 76 := ⟨by decide +kernel, rfl, by decide⟩
theorem d_F_load_31 : gAl M_F_load 31 0 32 := Or.inr ⟨0, by decide +kernel, rfl, rfl⟩
theorem d_F_load_32 : gGf M_F_load 32 5 2 35 := ⟨30, by decide +kernel, rfl, fl_F_30 _ rfl⟩
theorem d_F_load_35 : gIl M_F_load 35 6 37 := Or.inl ⟨by decide +kernel, rfl⟩
theorem d_F_load_37 : gD M_F_load 37 (.invokevirtual 136) 3 40 := ⟨by decide +kernel, rfl⟩
theorem cs_F_load_37 : gClV M_F_load 136 0 y_A_get M_A_get 1 := ⟨⟨gW_c4 98 rfl rfl, gW_c1 5 rfl rfl, cd_A_get, by decide +kernel, by decide +kernel⟩, rfl, gW_c3 98 rfl rfl, gW_c3 99 rfl rfl, TJx4a65c, 3, rfl⟩
theorem d_F_load_40 : gD M_F_load 40 (.checkcast 64) 3 43 := ⟨by decide +kernel, rfl⟩
theorem cl_F_load_40 : Cond.classLink M_F_load.2.2.1 64 "FolderRounds$Version" ∈ gW := gW_c4 55 rfl rfl
theorem d_F_load_43 : gAst M_F_load 43 7 45 := Or.inl ⟨by decide +kernel, rfl⟩
theorem d_F_load_45 : gAl M_F_load 45 7 47 := Or.inl ⟨by decide +kernel, rfl⟩
theorem d_F_load_47 : gD M_F_load 47 (.invokevirtual 196) 3 50 := ⟨by decide +kernel, rfl⟩
theorem cs_F_load_47 : gClV M_F_load 196 4 y_V_roomTaken M_V_roomTaken 0 := ⟨⟨gW_c4 112 rfl rfl, gW_c1 27 rfl rfl, cd_V_roomTaken, by decide +kernel, by decide +kernel⟩, rfl, gW_c4 113 rfl rfl, gW_c4 114 rfl rfl, TX3, 4, rfl⟩
theorem d_F_load_50 : gAl M_F_load 50 1 51 := Or.inr ⟨1, by decide +kernel, rfl, rfl⟩
theorem d_F_load_51 : gD M_F_load 51 (.invokevirtual 130) 3 54 := ⟨by decide +kernel, rfl⟩
theorem cs_F_load_51 : gClV M_F_load 130 1 y_C_roomLeft M_C_roomLeft 0 := ⟨⟨gW_c4 117 rfl rfl, gW_c1 7 rfl rfl, cd_C_roomLeft, by decide +kernel, by decide +kernel⟩, rfl, gW_c4 118 rfl rfl, gW_c4 119 rfl rfl, TX0, 2, rfl⟩
theorem d_F_load_54 : gB M_F_load 54 (.if_icmp .gt 16) 16 57 70 := ⟨by decide +kernel, rfl, by decide⟩
theorem d_F_load_57 : gAl M_F_load 57 1 58 := Or.inr ⟨1, by decide +kernel, rfl, rfl⟩
theorem d_F_load_58 : gGf M_F_load 58 1 0 61 := ⟨87, by decide +kernel, rfl, fl_F_87 _ rfl⟩
theorem d_F_load_61 : gAl M_F_load 61 7 63 := Or.inl ⟨by decide +kernel, rfl⟩
theorem d_F_load_63 : gD M_F_load 63 (.invokevirtual 199) 3 66 := ⟨by decide +kernel, rfl⟩
theorem cs_F_load_63 : gClV M_F_load 199 0 y_A_add M_A_add 1 := ⟨⟨gW_c4 125 rfl rfl, gW_c1 5 rfl rfl, cd_A_add, by decide +kernel, by decide +kernel⟩, rfl, gW_c4 126 rfl rfl, gW_c4 127 rfl rfl, TJx4a65c, 3, rfl⟩
theorem d_F_load_66 : gD M_F_load 66 (.pop) 1 67 := ⟨by decide +kernel, rfl⟩
theorem d_F_load_67 : gIc M_F_load 67 5 1 70 := ⟨1, by decide +kernel, by decide, rfl⟩
theorem d_F_load_70 : gIc M_F_load 70 6 1 73 := ⟨1, by decide +kernel, by decide, rfl⟩
theorem d_F_load_73 : gB M_F_load 73 (.goto (-61)) (-61) 76 12 := ⟨by decide +kernel, rfl, by decide⟩
theorem d_F_load_76 : gIl M_F_load 76 5 78 := Or.inl ⟨by decide +kernel, rfl⟩
theorem d_F_load_78 : gD M_F_load 78 (.ireturn) 1 79 := ⟨by decide +kernel, rfl⟩
theorem d_F_chooseWhatToLoad_0 : gAl M_F_chooseWhatToLoad 0 0 1 := Or.inr ⟨0, by decide +kernel, rfl, rfl⟩
theorem d_F_chooseWhatToLoad_1 : gGf M_F_chooseWhatToLoad 1 5 2 4 := ⟨30, by decide +kernel, rfl, fl_F_30 _ rfl⟩
theorem d_F_chooseWhatToLoad_4 : gD M_F_chooseWhatToLoad 4 (.invokevirtual 94) 3 7 := ⟨by decide +kernel, rfl⟩
theorem cs_F_chooseWhatToLoad_4 : gClV M_F_chooseWhatToLoad 94 0 y_A_clear M_A_clear 0 := ⟨⟨gW_c4 94 rfl rfl, gW_c1 5 rfl rfl, cd_A_clear, by decide +kernel, by decide +kernel⟩, rfl, gW_c4 95 rfl rfl, gW_c4 96 rfl rfl, TJx4a65c, 3, rfl⟩
theorem d_F_chooseWhatToLoad_7 : gN M_F_chooseWhatToLoad 7 0 8 := Or.inl ⟨0, by decide +kernel, by decide, rfl⟩
theorem d_F_chooseWhatToLoad_8 : gIs M_F_chooseWhatToLoad 8 3 9 := Or.inr ⟨3, by decide +kernel, rfl, rfl⟩
theorem d_F_chooseWhatToLoad_9 : gIl M_F_chooseWhatToLoad 9 3 10 := Or.inr ⟨3, by decide +kernel, rfl, rfl⟩
theorem d_F_chooseWhatToLoad_10 : gAl M_F_chooseWhatToLoad 10 1 11 := Or.inr ⟨1, by decide +kernel, rfl, rfl⟩
theorem d_F_chooseWhatToLoad_11 : gGf M_F_chooseWhatToLoad 11 2 1 14 := ⟨203, by decide +kernel, rfl, fl_F_203 _ rfl⟩
theorem d_F_chooseWhatToLoad_14 : gD M_F_chooseWhatToLoad 14 (.invokevirtual 90) 3 17 := ⟨by decide +kernel, rfl⟩
theorem cs_F_chooseWhatToLoad_14 : gClV M_F_chooseWhatToLoad 90 0 y_A_size M_A_size 0 := ⟨⟨gW_c4 48 rfl rfl, gW_c1 5 rfl rfl, cd_A_size, by decide +kernel, by decide +kernel⟩, rfl, gW_c3 94 rfl rfl, gW_c3 95 rfl rfl, TJx4a65c, 3, rfl⟩
theorem d_F_chooseWhatToLoad_17 : gB M_F_chooseWhatToLoad 17 (.if_icmp .ge 38) 38 20 55 := ⟨by decide +kernel, rfl, by decide⟩
theorem d_F_chooseWhatToLoad_20 : gAl M_F_chooseWhatToLoad 20 1 21 := Or.inr ⟨1, by decide +kernel, rfl, rfl⟩
theorem d_F_chooseWhatToLoad_21 : gGf M_F_chooseWhatToLoad 21 2 1 24 := ⟨203, by decide +kernel, rfl, fl_F_203 _ rfl⟩
theorem d_F_chooseWhatToLoad_24 : gIl M_F_chooseWhatToLoad 24 3 25 := Or.inr ⟨3, by decide +kernel, rfl, rfl⟩
theorem d_F_chooseWhatToLoad_25 : gD M_F_chooseWhatToLoad 25 (.invokevirtual 136) 3 28 := ⟨by decide +kernel, rfl⟩
theorem cs_F_chooseWhatToLoad_25 : gClV M_F_chooseWhatToLoad 136 0 y_A_get M_A_get 1 := ⟨⟨gW_c4 98 rfl rfl, gW_c1 5 rfl rfl, cd_A_get, by decide +kernel, by decide +kernel⟩, rfl, gW_c3 98 rfl rfl, gW_c3 99 rfl rfl, TJx4a65c, 3, rfl⟩
theorem d_F_chooseWhatToLoad_28 : gD M_F_chooseWhatToLoad 28 (.checkcast 64) 3 31 := ⟨by decide +kernel, rfl⟩
theorem cl_F_chooseWhatToLoad_28 : Cond.classLink M_F_chooseWhatToLoad.2.2.1 64 "FolderRounds$Version" ∈ gW := gW_c4 55 rfl rfl
theorem d_F_chooseWhatToLoad_31 : gAst M_F_chooseWhatToLoad 31 4 33 := Or.inl ⟨by decide +kernel, rfl⟩
theorem d_F_chooseWhatToLoad_33 : gAl M_F_chooseWhatToLoad 33 1 34 := Or.inr ⟨1, by decide +kernel, rfl, rfl⟩
theorem d_F_chooseWhatToLoad_34 : gIl M_F_chooseWhatToLoad 34 2 35 := Or.inr ⟨2, by decide +kernel, rfl, rfl⟩
theorem d_F_chooseWhatToLoad_35 : gAl M_F_chooseWhatToLoad 35 4 37 := Or.inl ⟨by decide +kernel, rfl⟩
theorem d_F_chooseWhatToLoad_37 : gD M_F_chooseWhatToLoad 37 (.invokevirtual 206) 3 40 := ⟨by decide +kernel, rfl⟩
theorem cs_F_chooseWhatToLoad_37 : gClV M_F_chooseWhatToLoad 206 2 y_S_knowsLackAmong M_S_knowsLackAmong 2 := ⟨⟨gW_c4 99 rfl rfl, gW_c1 2 rfl rfl, cd_S_knowsLackAmong, by decide +kernel, by decide +kernel⟩, rfl, gW_c4 100 rfl rfl, gW_c4 101 rfl rfl, TX1, 3, rfl⟩
theorem d_F_chooseWhatToLoad_40 : gB M_F_chooseWhatToLoad 40 (.ifCond .eq 9) 9 43 49 := ⟨by decide +kernel, rfl, by decide⟩
theorem d_F_chooseWhatToLoad_43 : gAl M_F_chooseWhatToLoad 43 0 44 := Or.inr ⟨0, by decide +kernel, rfl, rfl⟩
theorem d_F_chooseWhatToLoad_44 : gAl M_F_chooseWhatToLoad 44 4 46 := Or.inl ⟨by decide +kernel, rfl⟩
theorem d_F_chooseWhatToLoad_46 : gD M_F_chooseWhatToLoad 46 (.invokevirtual 210) 3 49 := ⟨by decide +kernel, rfl⟩
theorem cs_F_chooseWhatToLoad_46 : gClV M_F_chooseWhatToLoad 210 5 y_F_addBySum M_F_addBySum 1 := ⟨⟨gW_c4 103 rfl rfl, gW_c1 1 rfl rfl, cd_F_addBySum, by decide +kernel, by decide +kernel⟩, rfl, gW_c4 105 rfl rfl, gW_c0 13 rfl rfl, TX4, 4, rfl⟩
theorem d_F_chooseWhatToLoad_49 : gIc M_F_chooseWhatToLoad 49 3 1 52 := ⟨1, by decide +kernel, by decide, rfl⟩
theorem d_F_chooseWhatToLoad_52 : gB M_F_chooseWhatToLoad 52 (.goto (-43)) (-43) 55 9 := ⟨by decide +kernel, rfl, by decide⟩
theorem d_F_chooseWhatToLoad_55 : gD M_F_chooseWhatToLoad 55 (.return_) 1 56 := ⟨by decide +kernel, rfl⟩
theorem d_F_addBySum_0 : gAl M_F_addBySum 0 1 1 := Or.inr ⟨1, by decide +kernel, rfl, rfl⟩
theorem d_F_addBySum_1 : gD M_F_addBySum 1 (.invokevirtual 214) 3 4 := ⟨by decide +kernel, rfl⟩
theorem cs_F_addBySum_1 : gClV M_F_addBySum 214 4 y_V_sumOfCounters M_V_sumOfCounters 0 := ⟨⟨gW_c4 107 rfl rfl, gW_c1 27 rfl rfl, cd_V_sumOfCounters, by decide +kernel, by decide +kernel⟩, rfl, gW_c4 108 rfl rfl, gW_c4 109 rfl rfl, TX3, 4, rfl⟩
theorem d_F_addBySum_4 : gIs M_F_addBySum 4 2 5 := Or.inr ⟨2, by decide +kernel, rfl, rfl⟩
theorem d_F_addBySum_5 : gAl M_F_addBySum 5 0 6 := Or.inr ⟨0, by decide +kernel, rfl, rfl⟩
theorem d_F_addBySum_6 : gGf M_F_addBySum 6 5 2 9 := ⟨30, by decide +kernel, rfl, fl_F_30 _ rfl⟩
theorem d_F_addBySum_9 : gD M_F_addBySum 9 (.invokevirtual 90) 3 12 := ⟨by decide +kernel, rfl⟩
theorem cs_F_addBySum_9 : gClV M_F_addBySum 90 0 y_A_size M_A_size 0 := ⟨⟨gW_c4 48 rfl rfl, gW_c1 5 rfl rfl, cd_A_size, by decide +kernel, by decide +kernel⟩, rfl, gW_c3 94 rfl rfl, gW_c3 95 rfl rfl, TJx4a65c, 3, rfl⟩
theorem d_F_addBySum_12 : gIs M_F_addBySum 12 3 13 := Or.inr ⟨3, by decide +kernel, rfl, rfl⟩
theorem d_F_addBySum_13 : gIl M_F_addBySum 13 3 14 := Or.inr ⟨3, by decide +kernel, rfl, rfl⟩
theorem d_F_addBySum_14 : gB M_F_addBySum 14 (.ifCond .le 29) 29 17 43 := ⟨by decide +kernel, rfl, by decide⟩
theorem d_F_addBySum_17 : gAl M_F_addBySum 17 0 18 := Or.inr ⟨0, by decide +kernel, rfl, rfl⟩
theorem d_F_addBySum_18 : gGf M_F_addBySum 18 5 2 21 := ⟨30, by decide +kernel, rfl, fl_F_30 _ rfl⟩
theorem d_F_addBySum_21 : gIl M_F_addBySum 21 3 22 := Or.inr ⟨3, by decide +kernel, rfl, rfl⟩
theorem d_F_addBySum_22 : gN M_F_addBySum 22 1 23 := Or.inl ⟨1, by decide +kernel, by decide, rfl⟩
theorem d_F_addBySum_23 : gD M_F_addBySum 23 (.isub) 1 24 := ⟨by decide +kernel, rfl⟩
theorem d_F_addBySum_24 : gD M_F_addBySum 24 (.invokevirtual 136) 3 27 := ⟨by decide +kernel, rfl⟩
theorem cs_F_addBySum_24 : gClV M_F_addBySum 136 0 y_A_get M_A_get 1 := ⟨⟨gW_c4 98 rfl rfl, gW_c1 5 rfl rfl, cd_A_get, by decide +kernel, by decide +kernel⟩, rfl, gW_c3 98 rfl rfl, gW_c3 99 rfl rfl, TJx4a65c, 3, rfl⟩
theorem d_F_addBySum_27 : gD M_F_addBySum 27 (.checkcast 64) 3 30 := ⟨by decide +kernel, rfl⟩
theorem cl_F_addBySum_27 : Cond.classLink M_F_addBySum.2.2.1 64 "FolderRounds$Version" ∈ gW := gW_c4 55 rfl rfl
theorem d_F_addBySum_30 : gD M_F_addBySum 30 (.invokevirtual 214) 3 33 := ⟨by decide +kernel, rfl⟩
theorem cs_F_addBySum_30 : gClV M_F_addBySum 214 4 y_V_sumOfCounters M_V_sumOfCounters 0 := ⟨⟨gW_c4 107 rfl rfl, gW_c1 27 rfl rfl, cd_V_sumOfCounters, by decide +kernel, by decide +kernel⟩, rfl, gW_c4 108 rfl rfl, gW_c4 109 rfl rfl, TX3, 4, rfl⟩
theorem d_F_addBySum_33 : gIl M_F_addBySum 33 2 34 := Or.inr ⟨2, by decide +kernel, rfl, rfl⟩
theorem d_F_addBySum_34 : gB M_F_addBySum 34 (.if_icmp .le 9) 9 37 43 := ⟨by decide +kernel, rfl, by decide⟩
theorem d_F_addBySum_37 : gIc M_F_addBySum 37 3 (-1) 40 := ⟨(-1), by decide +kernel, by decide, rfl⟩
theorem d_F_addBySum_40 : gB M_F_addBySum 40 (.goto (-27)) (-27) 43 13 := ⟨by decide +kernel, rfl, by decide⟩
theorem d_F_addBySum_43 : gAl M_F_addBySum 43 0 44 := Or.inr ⟨0, by decide +kernel, rfl, rfl⟩
theorem d_F_addBySum_44 : gGf M_F_addBySum 44 5 2 47 := ⟨30, by decide +kernel, rfl, fl_F_30 _ rfl⟩
theorem d_F_addBySum_47 : gIl M_F_addBySum 47 3 48 := Or.inr ⟨3, by decide +kernel, rfl, rfl⟩
theorem d_F_addBySum_48 : gAl M_F_addBySum 48 1 49 := Or.inr ⟨1, by decide +kernel, rfl, rfl⟩
theorem d_F_addBySum_49 : gD M_F_addBySum 49 (.invokevirtual 217) 3 52 := ⟨by decide +kernel, rfl⟩
theorem cs_F_addBySum_49 : gClV M_F_addBySum 217 0 y_A_addAt M_A_addAt 2 := ⟨⟨gW_c4 111 rfl rfl, gW_c1 5 rfl rfl, cd_A_addAt, by decide +kernel, by decide +kernel⟩, rfl, gW_c3 140 rfl rfl, gW_c3 141 rfl rfl, TJx4a65c, 3, rfl⟩
theorem d_F_addBySum_52 : gD M_F_addBySum 52 (.return_) 1 53 := ⟨by decide +kernel, rfl⟩
theorem d_F_cut_0 : gAl M_F_cut 0 0 1 := Or.inr ⟨0, by decide +kernel, rfl, rfl⟩
theorem d_F_cut_1 : gIl M_F_cut 1 1 2 := Or.inr ⟨1, by decide +kernel, rfl, rfl⟩
theorem d_F_cut_2 : gD M_F_cut 2 (.invokevirtual 78) 3 5 := ⟨by decide +kernel, rfl⟩
theorem cs_F_cut_2 : gClV M_F_cut 78 5 y_F_cartridgeAt M_F_cartridgeAt 1 := ⟨⟨gW_c4 35 rfl rfl, gW_c1 1 rfl rfl, cd_F_cartridgeAt, by decide +kernel, by decide +kernel⟩, rfl, gW_c4 37 rfl rfl, gW_c0 8 rfl rfl, TX4, 4, rfl⟩
theorem d_F_cut_5 : gAst M_F_cut 5 5 7 := Or.inl ⟨by decide +kernel, rfl⟩
theorem d_F_cut_7 : gAl M_F_cut 7 0 8 := Or.inr ⟨0, by decide +kernel, rfl, rfl⟩
theorem d_F_cut_8 : gIl M_F_cut 8 2 9 := Or.inr ⟨2, by decide +kernel, rfl, rfl⟩
theorem d_F_cut_9 : gD M_F_cut 9 (.invokevirtual 38) 3 12 := ⟨by decide +kernel, rfl⟩
theorem cs_F_cut_9 : gClV M_F_cut 38 5 y_F_stationAt M_F_stationAt 1 := ⟨⟨gW_c1 143 rfl rfl, gW_c1 1 rfl rfl, cd_F_stationAt, by decide +kernel, by decide +kernel⟩, rfl, gW_c1 145 rfl rfl, gW_c0 0 rfl rfl, TX4, 4, rfl⟩
theorem d_F_cut_12 : gAst M_F_cut 12 6 14 := Or.inl ⟨by decide +kernel, rfl⟩
theorem d_F_cut_14 : gIl M_F_cut 14 4 16 := Or.inl ⟨by decide +kernel, rfl⟩
theorem d_F_cut_16 : gB M_F_cut 16 (.ifCond .ge 11) 11 19 27 := ⟨by decide +kernel, rfl, by decide⟩
theorem th_F_cut_19 : gTh M_F_cut 19 "java/lang/IllegalArgumentException" := ⟨45, 47, by decide +kernel, by decide +kernel, by decide +kernel, by decide +kernel, by decide +kernel, gW_c1 218 rfl rfl, gW_c1 13 rfl rfl, vx_F_47, by decide +kernel⟩
theorem d_F_cut_22 : gD M_F_cut 22 (.dup) 1 23 := ⟨by decide +kernel, rfl⟩
theorem d_F_cut_23 : gD M_F_cut 23 (.invokespecial 47) 3 26 := ⟨by decide +kernel, rfl⟩
theorem d_F_cut_26 : gD M_F_cut 26 (.athrow) 1 27 := ⟨by decide +kernel, rfl⟩
theorem d_F_cut_27 : gAl M_F_cut 27 0 28 := Or.inr ⟨0, by decide +kernel, rfl, rfl⟩
theorem d_F_cut_28 : gAl M_F_cut 28 5 30 := Or.inl ⟨by decide +kernel, rfl⟩
theorem d_F_cut_30 : gAl M_F_cut 30 6 32 := Or.inl ⟨by decide +kernel, rfl⟩
theorem d_F_cut_32 : gIl M_F_cut 32 3 33 := Or.inr ⟨3, by decide +kernel, rfl, rfl⟩
theorem d_F_cut_33 : gIl M_F_cut 33 4 35 := Or.inl ⟨by decide +kernel, rfl⟩
theorem d_F_cut_35 : gD M_F_cut 35 (.invokevirtual 83) 3 38 := ⟨by decide +kernel, rfl⟩
theorem cs_F_cut_35 : gClV M_F_cut 83 5 y_F_goThrough M_F_goThrough 4 := ⟨⟨gW_c4 40 rfl rfl, gW_c1 1 rfl rfl, cd_F_goThrough, by decide +kernel, by decide +kernel⟩, rfl, gW_c4 42 rfl rfl, gW_c0 9 rfl rfl, TX4, 4, rfl⟩
theorem d_F_cut_38 : gD M_F_cut 38 (.ireturn) 1 39 := ⟨by decide +kernel, rfl⟩
theorem d_F_lose_0 : gAl M_F_lose 0 0 1 := Or.inr ⟨0, by decide +kernel, rfl, rfl⟩
theorem d_F_lose_1 : gIl M_F_lose 1 1 2 := Or.inr ⟨1, by decide +kernel, rfl, rfl⟩
theorem d_F_lose_2 : gD M_F_lose 2 (.invokevirtual 78) 3 5 := ⟨by decide +kernel, rfl⟩
theorem cs_F_lose_2 : gClV M_F_lose 78 5 y_F_cartridgeAt M_F_cartridgeAt 1 := ⟨⟨gW_c4 35 rfl rfl, gW_c1 1 rfl rfl, cd_F_cartridgeAt, by decide +kernel, by decide +kernel⟩, rfl, gW_c4 37 rfl rfl, gW_c0 8 rfl rfl, TX4, 4, rfl⟩
theorem d_F_lose_5 : gAst M_F_lose 5 2 6 := Or.inr ⟨2, by decide +kernel, rfl, rfl⟩
theorem d_F_lose_6 : gAl M_F_lose 6 2 7 := Or.inr ⟨2, by decide +kernel, rfl, rfl⟩
theorem d_F_lose_7 : gGf M_F_lose 7 1 0 10 := ⟨87, by decide +kernel, rfl, fl_F_87 _ rfl⟩
theorem d_F_lose_10 : gD M_F_lose 10 (.invokevirtual 90) 3 13 := ⟨by decide +kernel, rfl⟩
theorem cs_F_lose_10 : gClV M_F_lose 90 0 y_A_size M_A_size 0 := ⟨⟨gW_c4 48 rfl rfl, gW_c1 5 rfl rfl, cd_A_size, by decide +kernel, by decide +kernel⟩, rfl, gW_c3 94 rfl rfl, gW_c3 95 rfl rfl, TJx4a65c, 3, rfl⟩
theorem d_F_lose_13 : gIs M_F_lose 13 3 14 := Or.inr ⟨3, by decide +kernel, rfl, rfl⟩
theorem d_F_lose_14 : gAl M_F_lose 14 2 15 := Or.inr ⟨2, by decide +kernel, rfl, rfl⟩
theorem d_F_lose_15 : gGf M_F_lose 15 1 0 18 := ⟨87, by decide +kernel, rfl, fl_F_87 _ rfl⟩
theorem d_F_lose_18 : gD M_F_lose 18 (.invokevirtual 94) 3 21 := ⟨by decide +kernel, rfl⟩
theorem cs_F_lose_18 : gClV M_F_lose 94 0 y_A_clear M_A_clear 0 := ⟨⟨gW_c4 94 rfl rfl, gW_c1 5 rfl rfl, cd_A_clear, by decide +kernel, by decide +kernel⟩, rfl, gW_c4 95 rfl rfl, gW_c4 96 rfl rfl, TJx4a65c, 3, rfl⟩
theorem d_F_lose_21 : gAl M_F_lose 21 2 22 := Or.inr ⟨2, by decide +kernel, rfl, rfl⟩
theorem d_F_lose_22 : gGf M_F_lose 22 1 1 25 := ⟨97, by decide +kernel, rfl, fl_F_97 _ rfl⟩
theorem d_F_lose_25 : gD M_F_lose 25 (.invokevirtual 101) 3 28 := ⟨by decide +kernel, rfl⟩
theorem cs_F_lose_25 : gClV M_F_lose 101 3 y_T_becomeZeros M_T_becomeZeros 0 := ⟨⟨gW_c4 147 rfl rfl, gW_c1 6 rfl rfl, cd_T_becomeZeros, by decide +kernel, by decide +kernel⟩, rfl, gW_c4 148 rfl rfl, gW_c4 149 rfl rfl, TX2, 1, rfl⟩
theorem d_F_lose_28 : gIl M_F_lose 28 3 29 := Or.inr ⟨3, by decide +kernel, rfl, rfl⟩
theorem d_F_lose_29 : gD M_F_lose 29 (.ireturn) 1 30 := ⟨by decide +kernel, rfl⟩
theorem d_F_copy_0 : gAl M_F_copy 0 0 1 := Or.inr ⟨0, by decide +kernel, rfl, rfl⟩
theorem d_F_copy_1 : gIl M_F_copy 1 1 2 := Or.inr ⟨1, by decide +kernel, rfl, rfl⟩
theorem d_F_copy_2 : gD M_F_copy 2 (.invokevirtual 78) 3 5 := ⟨by decide +kernel, rfl⟩
theorem cs_F_copy_2 : gClV M_F_copy 78 5 y_F_cartridgeAt M_F_cartridgeAt 1 := ⟨⟨gW_c4 35 rfl rfl, gW_c1 1 rfl rfl, cd_F_cartridgeAt, by decide +kernel, by decide +kernel⟩, rfl, gW_c4 37 rfl rfl, gW_c0 8 rfl rfl, TX4, 4, rfl⟩
theorem d_F_copy_5 : gAst M_F_copy 5 3 6 := Or.inr ⟨3, by decide +kernel, rfl, rfl⟩
theorem d_F_copy_6 : gAl M_F_copy 6 0 7 := Or.inr ⟨0, by decide +kernel, rfl, rfl⟩
theorem d_F_copy_7 : gIl M_F_copy 7 2 8 := Or.inr ⟨2, by decide +kernel, rfl, rfl⟩
theorem d_F_copy_8 : gD M_F_copy 8 (.invokevirtual 78) 3 11 := ⟨by decide +kernel, rfl⟩
theorem cs_F_copy_8 : gClV M_F_copy 78 5 y_F_cartridgeAt M_F_cartridgeAt 1 := ⟨⟨gW_c4 35 rfl rfl, gW_c1 1 rfl rfl, cd_F_cartridgeAt, by decide +kernel, by decide +kernel⟩, rfl, gW_c4 37 rfl rfl, gW_c0 8 rfl rfl, TX4, 4, rfl⟩
theorem d_F_copy_11 : gAst M_F_copy 11 4 13 := Or.inl ⟨by decide +kernel, rfl⟩
theorem d_F_copy_13 : gIl M_F_copy 13 1 14 := Or.inr ⟨1, by decide +kernel, rfl, rfl⟩
theorem d_F_copy_14 : gIl M_F_copy 14 2 15 := Or.inr ⟨2, by decide +kernel, rfl, rfl⟩
theorem d_F_copy_15 : gB M_F_copy 15 (.if_icmp .eq 9) 9 18 24 := ⟨by decide +kernel, rfl, by decide⟩
theorem d_F_copy_18 : gAl M_F_copy 18 4 20 := Or.inl ⟨by decide +kernel, rfl⟩
theorem d_F_copy_20 : gAl M_F_copy 20 3 21 := Or.inr ⟨3, by decide +kernel, rfl, rfl⟩
theorem d_F_copy_21 : gD M_F_copy 21 (.invokevirtual 106) 3 24 := ⟨by decide +kernel, rfl⟩
theorem cs_F_copy_21 : gClV M_F_copy 106 1 y_C_become M_C_become 1 := ⟨⟨gW_c4 161 rfl rfl, gW_c1 7 rfl rfl, cd_C_become, by decide +kernel, by decide +kernel⟩, rfl, gW_c4 162 rfl rfl, gW_c4 163 rfl rfl, TX0, 2, rfl⟩
theorem d_F_copy_24 : gD M_F_copy 24 (.return_) 1 25 := ⟨by decide +kernel, rfl⟩
theorem d_F_known_0 : gAl M_F_known 0 0 1 := Or.inr ⟨0, by decide +kernel, rfl, rfl⟩
theorem d_F_known_1 : gIl M_F_known 1 1 2 := Or.inr ⟨1, by decide +kernel, rfl, rfl⟩
theorem d_F_known_2 : gD M_F_known 2 (.invokevirtual 38) 3 5 := ⟨by decide +kernel, rfl⟩
theorem cs_F_known_2 : gClV M_F_known 38 5 y_F_stationAt M_F_stationAt 1 := ⟨⟨gW_c1 143 rfl rfl, gW_c1 1 rfl rfl, cd_F_stationAt, by decide +kernel, by decide +kernel⟩, rfl, gW_c1 145 rfl rfl, gW_c0 0 rfl rfl, TX4, 4, rfl⟩
theorem d_F_known_5 : gAst M_F_known 5 5 7 := Or.inl ⟨by decide +kernel, rfl⟩
theorem d_F_known_7 : gIl M_F_known 7 2 8 := Or.inr ⟨2, by decide +kernel, rfl, rfl⟩
theorem d_F_known_8 : gD M_F_known 8 (.invokestatic 110) 3 11 := ⟨by decide +kernel, rfl⟩
theorem cs_F_known_8 : gClS M_F_known 110 y_F_checkStation M_F_checkStation 1 := ⟨⟨gW_c1 147 rfl rfl, gW_c1 1 rfl rfl, cd_F_checkStation, by decide +kernel, by decide +kernel⟩, gW_c1 148 rfl rfl⟩
theorem d_F_known_11 : gIl M_F_known 11 3 12 := Or.inr ⟨3, by decide +kernel, rfl, rfl⟩
theorem d_F_known_12 : gD M_F_known 12 (.invokestatic 42) 3 15 := ⟨by decide +kernel, rfl⟩
theorem cs_F_known_12 : gClS M_F_known 42 y_F_checkDocument M_F_checkDocument 1 := ⟨⟨gW_c1 215 rfl rfl, gW_c1 1 rfl rfl, cd_F_checkDocument, by decide +kernel, by decide +kernel⟩, gW_c1 216 rfl rfl⟩
theorem d_F_known_15 : gIl M_F_known 15 4 17 := Or.inl ⟨by decide +kernel, rfl⟩
theorem d_F_known_17 : gD M_F_known 17 (.invokestatic 60) 3 20 := ⟨by decide +kernel, rfl⟩
theorem cs_F_known_17 : gClS M_F_known 60 y_F_checkCounter M_F_checkCounter 1 := ⟨⟨gW_c4 13 rfl rfl, gW_c1 1 rfl rfl, cd_F_checkCounter, by decide +kernel, by decide +kernel⟩, gW_c4 14 rfl rfl⟩
theorem d_F_known_20 : gAl M_F_known 20 5 22 := Or.inl ⟨by decide +kernel, rfl⟩
theorem d_F_known_22 : gGf M_F_known 22 2 2 25 := ⟨113, by decide +kernel, rfl, fl_F_113 _ rfl⟩
theorem d_F_known_25 : gIl M_F_known 25 2 26 := Or.inr ⟨2, by decide +kernel, rfl, rfl⟩
theorem d_F_known_26 : gIl M_F_known 26 3 27 := Or.inr ⟨3, by decide +kernel, rfl, rfl⟩
theorem d_F_known_27 : gIl M_F_known 27 4 29 := Or.inl ⟨by decide +kernel, rfl⟩
theorem d_F_known_29 : gD M_F_known 29 (.invokevirtual 116) 3 32 := ⟨by decide +kernel, rfl⟩
theorem cs_F_known_29 : gClV M_F_known 116 3 y_T_counterAt M_T_counterAt 3 := ⟨⟨gW_c4 175 rfl rfl, gW_c1 6 rfl rfl, cd_T_counterAt, by decide +kernel, by decide +kernel⟩, rfl, gW_c2 1 rfl rfl, gW_c2 2 rfl rfl, TX2, 1, rfl⟩
theorem d_F_known_32 : gD M_F_known 32 (.ireturn) 1 33 := ⟨by decide +kernel, rfl⟩
theorem d_F_marks_0 : gAl M_F_marks 0 0 1 := Or.inr ⟨0, by decide +kernel, rfl, rfl⟩
theorem d_F_marks_1 : gIl M_F_marks 1 1 2 := Or.inr ⟨1, by decide +kernel, rfl, rfl⟩
theorem d_F_marks_2 : gD M_F_marks 2 (.invokevirtual 38) 3 5 := ⟨by decide +kernel, rfl⟩
theorem cs_F_marks_2 : gClV M_F_marks 38 5 y_F_stationAt M_F_stationAt 1 := ⟨⟨gW_c1 143 rfl rfl, gW_c1 1 rfl rfl, cd_F_stationAt, by decide +kernel, by decide +kernel⟩, rfl, gW_c1 145 rfl rfl, gW_c0 0 rfl rfl, TX4, 4, rfl⟩
theorem d_F_marks_5 : gD M_F_marks 5 (.invokevirtual 120) 3 8 := ⟨by decide +kernel, rfl⟩
theorem cs_F_marks_5 : gClV M_F_marks 120 2 y_S_countMarks M_S_countMarks 0 := ⟨⟨gW_c4 183 rfl rfl, gW_c1 2 rfl rfl, cd_S_countMarks, by decide +kernel, by decide +kernel⟩, rfl, gW_c4 184 rfl rfl, gW_c4 185 rfl rfl, TX1, 3, rfl⟩
theorem d_F_marks_8 : gD M_F_marks 8 (.ireturn) 1 9 := ⟨by decide +kernel, rfl⟩
theorem d_F_bytes_0 : gAl M_F_bytes 0 0 1 := Or.inr ⟨0, by decide +kernel, rfl, rfl⟩
theorem d_F_bytes_1 : gIl M_F_bytes 1 1 2 := Or.inr ⟨1, by decide +kernel, rfl, rfl⟩
theorem d_F_bytes_2 : gD M_F_bytes 2 (.invokevirtual 38) 3 5 := ⟨by decide +kernel, rfl⟩
theorem cs_F_bytes_2 : gClV M_F_bytes 38 5 y_F_stationAt M_F_stationAt 1 := ⟨⟨gW_c1 143 rfl rfl, gW_c1 1 rfl rfl, cd_F_stationAt, by decide +kernel, by decide +kernel⟩, rfl, gW_c1 145 rfl rfl, gW_c0 0 rfl rfl, TX4, 4, rfl⟩
theorem d_F_bytes_5 : gD M_F_bytes 5 (.invokevirtual 123) 3 8 := ⟨by decide +kernel, rfl⟩
theorem cs_F_bytes_5 : gClV M_F_bytes 123 2 y_S_countBytes M_S_countBytes 0 := ⟨⟨gW_c4 194 rfl rfl, gW_c1 2 rfl rfl, cd_S_countBytes, by decide +kernel, by decide +kernel⟩, rfl, gW_c4 195 rfl rfl, gW_c4 196 rfl rfl, TX1, 3, rfl⟩
theorem d_F_bytes_8 : gD M_F_bytes 8 (.ireturn) 1 9 := ⟨by decide +kernel, rfl⟩
theorem d_F_same_0 : gAl M_F_same 0 0 1 := Or.inr ⟨0, by decide +kernel, rfl, rfl⟩
theorem d_F_same_1 : gIl M_F_same 1 1 2 := Or.inr ⟨1, by decide +kernel, rfl, rfl⟩
theorem d_F_same_2 : gD M_F_same 2 (.invokevirtual 38) 3 5 := ⟨by decide +kernel, rfl⟩
theorem cs_F_same_2 : gClV M_F_same 38 5 y_F_stationAt M_F_stationAt 1 := ⟨⟨gW_c1 143 rfl rfl, gW_c1 1 rfl rfl, cd_F_stationAt, by decide +kernel, by decide +kernel⟩, rfl, gW_c1 145 rfl rfl, gW_c0 0 rfl rfl, TX4, 4, rfl⟩
theorem d_F_same_5 : gAst M_F_same 5 3 6 := Or.inr ⟨3, by decide +kernel, rfl, rfl⟩
theorem d_F_same_6 : gAl M_F_same 6 0 7 := Or.inr ⟨0, by decide +kernel, rfl, rfl⟩
theorem d_F_same_7 : gIl M_F_same 7 2 8 := Or.inr ⟨2, by decide +kernel, rfl, rfl⟩
theorem d_F_same_8 : gD M_F_same 8 (.invokevirtual 38) 3 11 := ⟨by decide +kernel, rfl⟩
theorem cs_F_same_8 : gClV M_F_same 38 5 y_F_stationAt M_F_stationAt 1 := ⟨⟨gW_c1 143 rfl rfl, gW_c1 1 rfl rfl, cd_F_stationAt, by decide +kernel, by decide +kernel⟩, rfl, gW_c1 145 rfl rfl, gW_c0 0 rfl rfl, TX4, 4, rfl⟩
theorem d_F_same_11 : gAst M_F_same 11 4 13 := Or.inl ⟨by decide +kernel, rfl⟩
theorem d_F_same_13 : gAl M_F_same 13 3 14 := Or.inr ⟨3, by decide +kernel, rfl, rfl⟩
theorem d_F_same_14 : gAl M_F_same 14 4 16 := Or.inl ⟨by decide +kernel, rfl⟩
theorem d_F_same_16 : gD M_F_same 16 (.invokevirtual 126) 3 19 := ⟨by decide +kernel, rfl⟩
theorem cs_F_same_16 : gClV M_F_same 126 2 y_S_hasSameSiblingsAs M_S_hasSameSiblingsAs 1 := ⟨⟨gW_c4 205 rfl rfl, gW_c1 2 rfl rfl, cd_S_hasSameSiblingsAs, by decide +kernel, by decide +kernel⟩, rfl, gW_c4 206 rfl rfl, gW_c4 207 rfl rfl, TX1, 3, rfl⟩
theorem d_F_same_19 : gD M_F_same 19 (.ireturn) 1 20 := ⟨by decide +kernel, rfl⟩
theorem d_F_room_0 : gAl M_F_room 0 0 1 := Or.inr ⟨0, by decide +kernel, rfl, rfl⟩
theorem d_F_room_1 : gIl M_F_room 1 1 2 := Or.inr ⟨1, by decide +kernel, rfl, rfl⟩
theorem d_F_room_2 : gD M_F_room 2 (.invokevirtual 78) 3 5 := ⟨by decide +kernel, rfl⟩
theorem cs_F_room_2 : gClV M_F_room 78 5 y_F_cartridgeAt M_F_cartridgeAt 1 := ⟨⟨gW_c4 35 rfl rfl, gW_c1 1 rfl rfl, cd_F_cartridgeAt, by decide +kernel, by decide +kernel⟩, rfl, gW_c4 37 rfl rfl, gW_c0 8 rfl rfl, TX4, 4, rfl⟩
theorem d_F_room_5 : gD M_F_room 5 (.invokevirtual 130) 3 8 := ⟨by decide +kernel, rfl⟩
theorem cs_F_room_5 : gClV M_F_room 130 1 y_C_roomLeft M_C_roomLeft 0 := ⟨⟨gW_c4 117 rfl rfl, gW_c1 7 rfl rfl, cd_C_roomLeft, by decide +kernel, by decide +kernel⟩, rfl, gW_c4 118 rfl rfl, gW_c4 119 rfl rfl, TX0, 2, rfl⟩
theorem d_F_room_8 : gD M_F_room 8 (.ireturn) 1 9 := ⟨by decide +kernel, rfl⟩
theorem d_F_item_0 : gAl M_F_item 0 0 1 := Or.inr ⟨0, by decide +kernel, rfl, rfl⟩
theorem d_F_item_1 : gIl M_F_item 1 1 2 := Or.inr ⟨1, by decide +kernel, rfl, rfl⟩
theorem d_F_item_2 : gD M_F_item 2 (.invokevirtual 78) 3 5 := ⟨by decide +kernel, rfl⟩
theorem cs_F_item_2 : gClV M_F_item 78 5 y_F_cartridgeAt M_F_cartridgeAt 1 := ⟨⟨gW_c4 35 rfl rfl, gW_c1 1 rfl rfl, cd_F_cartridgeAt, by decide +kernel, by decide +kernel⟩, rfl, gW_c4 37 rfl rfl, gW_c0 8 rfl rfl, TX4, 4, rfl⟩
theorem d_F_item_5 : gAst M_F_item 5 4 7 := Or.inl ⟨by decide +kernel, rfl⟩
theorem d_F_item_7 : gIl M_F_item 7 2 8 := Or.inr ⟨2, by decide +kernel, rfl, rfl⟩
theorem d_F_item_8 : gB M_F_item 8 (.ifCond .lt 15) 15 11 23 := ⟨by decide +kernel, rfl, by decide⟩
theorem d_F_item_11 : gIl M_F_item 11 2 12 := Or.inr ⟨2, by decide +kernel, rfl, rfl⟩
theorem d_F_item_12 : gAl M_F_item 12 4 14 := Or.inl ⟨by decide +kernel, rfl⟩
theorem d_F_item_14 : gGf M_F_item 14 1 0 17 := ⟨87, by decide +kernel, rfl, fl_F_87 _ rfl⟩
theorem d_F_item_17 : gD M_F_item 17 (.invokevirtual 90) 3 20 := ⟨by decide +kernel, rfl⟩
theorem cs_F_item_17 : gClV M_F_item 90 0 y_A_size M_A_size 0 := ⟨⟨gW_c4 48 rfl rfl, gW_c1 5 rfl rfl, cd_A_size, by decide +kernel, by decide +kernel⟩, rfl, gW_c3 94 rfl rfl, gW_c3 95 rfl rfl, TJx4a65c, 3, rfl⟩
theorem d_F_item_20 : gB M_F_item 20 (.if_icmp .lt 11) 11 23 31 := ⟨by decide +kernel, rfl, by decide⟩
theorem th_F_item_23 : gTh M_F_item 23 "java/util/NoSuchElementException" := ⟨133, 135, by decide +kernel, by decide +kernel, by decide +kernel, by decide +kernel, by decide +kernel, gW_c1 150 rfl rfl, gW_c1 12 rfl rfl, vx_F_135, by decide +kernel⟩
theorem d_F_item_26 : gD M_F_item 26 (.dup) 1 27 := ⟨by decide +kernel, rfl⟩
theorem d_F_item_27 : gD M_F_item 27 (.invokespecial 135) 3 30 := ⟨by decide +kernel, rfl⟩
theorem d_F_item_30 : gD M_F_item 30 (.athrow) 1 31 := ⟨by decide +kernel, rfl⟩
theorem d_F_item_31 : gIl M_F_item 31 3 32 := Or.inr ⟨3, by decide +kernel, rfl, rfl⟩
theorem d_F_item_32 : gB M_F_item 32 (.ifCond .lt 9) 9 35 41 := ⟨by decide +kernel, rfl, by decide⟩
theorem d_F_item_35 : gIl M_F_item 35 3 36 := Or.inr ⟨3, by decide +kernel, rfl, rfl⟩
theorem d_F_item_36 : gN M_F_item 36 6 38 := Or.inr (Or.inl ⟨6, by decide +kernel, by decide, rfl⟩)
theorem d_F_item_38 : gB M_F_item 38 (.if_icmp .lt 11) 11 41 49 := ⟨by decide +kernel, rfl, by decide⟩
theorem th_F_item_41 : gTh M_F_item 41 "java/lang/IndexOutOfBoundsException" := ⟨72, 74, by decide +kernel, by decide +kernel, by decide +kernel, by decide +kernel, by decide +kernel, gW_c4 16 rfl rfl, gW_c1 29 rfl rfl, vx_F_74, by decide +kernel⟩
theorem d_F_item_44 : gD M_F_item 44 (.dup) 1 45 := ⟨by decide +kernel, rfl⟩
theorem d_F_item_45 : gD M_F_item 45 (.invokespecial 74) 3 48 := ⟨by decide +kernel, rfl⟩
theorem d_F_item_48 : gD M_F_item 48 (.athrow) 1 49 := ⟨by decide +kernel, rfl⟩
theorem d_F_item_49 : gAl M_F_item 49 4 51 := Or.inl ⟨by decide +kernel, rfl⟩
theorem d_F_item_51 : gGf M_F_item 51 1 0 54 := ⟨87, by decide +kernel, rfl, fl_F_87 _ rfl⟩
theorem d_F_item_54 : gIl M_F_item 54 2 55 := Or.inr ⟨2, by decide +kernel, rfl, rfl⟩
theorem d_F_item_55 : gD M_F_item 55 (.invokevirtual 136) 3 58 := ⟨by decide +kernel, rfl⟩
theorem cs_F_item_55 : gClV M_F_item 136 0 y_A_get M_A_get 1 := ⟨⟨gW_c4 98 rfl rfl, gW_c1 5 rfl rfl, cd_A_get, by decide +kernel, by decide +kernel⟩, rfl, gW_c3 98 rfl rfl, gW_c3 99 rfl rfl, TJx4a65c, 3, rfl⟩
theorem d_F_item_58 : gD M_F_item 58 (.checkcast 64) 3 61 := ⟨by decide +kernel, rfl⟩
theorem cl_F_item_58 : Cond.classLink M_F_item.2.2.1 64 "FolderRounds$Version" ∈ gW := gW_c4 55 rfl rfl
theorem d_F_item_61 : gAst M_F_item 61 5 63 := Or.inl ⟨by decide +kernel, rfl⟩
theorem d_F_item_63 : gIl M_F_item 63 3 64 := Or.inr ⟨3, by decide +kernel, rfl, rfl⟩
theorem d_F_item_64 : gD M_F_item 64 (.lookupswitch 40 #[(0, 28), (1, 34)]) 28 92 := ⟨by decide +kernel, rfl⟩
theorem d_F_item_92 : gAl M_F_item 92 5 94 := Or.inl ⟨by decide +kernel, rfl⟩
theorem d_F_item_94 : gGf M_F_item 94 4 0 97 := ⟨140, by decide +kernel, rfl, fl_F_140 _ rfl⟩
theorem d_F_item_97 : gD M_F_item 97 (.ireturn) 1 98 := ⟨by decide +kernel, rfl⟩
theorem d_F_item_98 : gAl M_F_item 98 5 100 := Or.inl ⟨by decide +kernel, rfl⟩
theorem d_F_item_100 : gGf M_F_item 100 4 1 103 := ⟨69, by decide +kernel, rfl, fl_F_69 _ rfl⟩
theorem d_F_item_103 : gD M_F_item 103 (.ireturn) 1 104 := ⟨by decide +kernel, rfl⟩
theorem d_F_item_104 : gAl M_F_item 104 5 106 := Or.inl ⟨by decide +kernel, rfl⟩
theorem d_F_item_106 : gGf M_F_item 106 4 3 109 := ⟨63, by decide +kernel, rfl, fl_F_63 _ rfl⟩
theorem d_F_item_109 : gIl M_F_item 109 3 110 := Or.inr ⟨3, by decide +kernel, rfl, rfl⟩
theorem d_F_item_110 : gN M_F_item 110 2 111 := Or.inl ⟨2, by decide +kernel, by decide, rfl⟩
theorem d_F_item_111 : gD M_F_item 111 (.isub) 1 112 := ⟨by decide +kernel, rfl⟩
theorem d_F_item_112 : gD M_F_item 112 (.iaload) 1 113 := ⟨by decide +kernel, rfl⟩
theorem d_F_item_113 : gD M_F_item 113 (.ireturn) 1 114 := ⟨by decide +kernel, rfl⟩
end
section
/-! ===== decode rows ===== -/
theorem d_R_init_0 : gAl M_R_init 0 0 1 := Or.inr ⟨0, by decide +kernel, rfl, rfl⟩
theorem d_R_init_1 : gD M_R_init 1 (.invokespecial 1) 3 4 := ⟨by decide +kernel, rfl⟩
theorem oi_R_init_1 : Cond.methodLink M_R_init.2.2.1 1 objectInit ∈ gW ∧ Cond.instanceMethod objectInit ∈ gW ∧ Cond.code objectInit ⟨#[0xb1]⟩ 1 none ∈ gW := ⟨gW_c4 232 rfl rfl, gW_c1 36 rfl rfl, gW_c1 37 rfl rfl⟩
theorem d_R_init_4 : gAl M_R_init 4 0 5 := Or.inr ⟨0, by decide +kernel, rfl, rfl⟩
theorem d_R_init_5 : gN M_R_init 5 4100 8 := Or.inr (Or.inr (Or.inl ⟨4100, by decide +kernel, by decide, rfl⟩))
theorem d_R_init_8 : gD M_R_init 8 (.newarray .int) 2 10 := ⟨by decide +kernel, rfl⟩
theorem d_R_init_10 : gPf M_R_init 10 6 2 (.array .int) 13 := ⟨7, by decide +kernel, rfl, RX5, TX5, 12, "FolderRoundsModel", tyX5, rfl, by decide, gW_c4 235 rfl rfl, gws_6, Or.inl rfl, tyX5_ok, nmX5, by decide +kernel, Or.inr ⟨rfl, rfl, rfl⟩⟩
theorem d_R_init_13 : gAl M_R_init 13 0 14 := Or.inr ⟨0, by decide +kernel, rfl, rfl⟩
theorem d_R_init_14 : gN M_R_init 14 4100 17 := Or.inr (Or.inr (Or.inl ⟨4100, by decide +kernel, by decide, rfl⟩))
theorem d_R_init_17 : gD M_R_init 17 (.newarray .int) 2 19 := ⟨by decide +kernel, rfl⟩
theorem d_R_init_19 : gPf M_R_init 19 6 3 (.array .int) 22 := ⟨13, by decide +kernel, rfl, RX5, TX5, 12, "FolderRoundsModel", tyX5, rfl, by decide, gW_c4 236 rfl rfl, gws_6, Or.inl rfl, tyX5_ok, nmX5, by decide +kernel, Or.inr ⟨rfl, rfl, rfl⟩⟩
theorem d_R_init_22 : gAl M_R_init 22 0 23 := Or.inr ⟨0, by decide +kernel, rfl, rfl⟩
theorem d_R_init_23 : gN M_R_init 23 4100 26 := Or.inr (Or.inr (Or.inl ⟨4100, by decide +kernel, by decide, rfl⟩))
theorem d_R_init_26 : gD M_R_init 26 (.newarray .int) 2 28 := ⟨by decide +kernel, rfl⟩
theorem d_R_init_28 : gPf M_R_init 28 6 4 (.array .int) 31 := ⟨16, by decide +kernel, rfl, RX5, TX5, 12, "FolderRoundsModel", tyX5, rfl, by decide, gW_c4 237 rfl rfl, gws_6, Or.inl rfl, tyX5_ok, nmX5, by decide +kernel, Or.inr ⟨rfl, rfl, rfl⟩⟩
theorem d_R_init_31 : gAl M_R_init 31 0 32 := Or.inr ⟨0, by decide +kernel, rfl, rfl⟩
theorem d_R_init_32 : gN M_R_init 32 4100 35 := Or.inr (Or.inr (Or.inl ⟨4100, by decide +kernel, by decide, rfl⟩))
theorem d_R_init_35 : gD M_R_init 35 (.newarray .int) 2 37 := ⟨by decide +kernel, rfl⟩
theorem d_R_init_37 : gPf M_R_init 37 6 5 (.array .int) 40 := ⟨19, by decide +kernel, rfl, RX5, TX5, 12, "FolderRoundsModel", tyX5, rfl, by decide, gW_c4 238 rfl rfl, gws_6, Or.inl rfl, tyX5_ok, nmX5, by decide +kernel, Or.inr ⟨rfl, rfl, rfl⟩⟩
theorem d_R_init_40 : gAl M_R_init 40 0 41 := Or.inr ⟨0, by decide +kernel, rfl, rfl⟩
theorem d_R_init_41 : gN M_R_init 41 16400 44 := Or.inr (Or.inr (Or.inl ⟨16400, by decide +kernel, by decide, rfl⟩))
theorem d_R_init_44 : gD M_R_init 44 (.newarray .int) 2 46 := ⟨by decide +kernel, rfl⟩
theorem d_R_init_46 : gPf M_R_init 46 6 6 (.array .int) 49 := ⟨22, by decide +kernel, rfl, RX5, TX5, 12, "FolderRoundsModel", tyX5, rfl, by decide, gW_c4 239 rfl rfl, gws_6, Or.inl rfl, tyX5_ok, nmX5, by decide +kernel, Or.inr ⟨rfl, rfl, rfl⟩⟩
theorem d_R_init_49 : gAl M_R_init 49 0 50 := Or.inr ⟨0, by decide +kernel, rfl, rfl⟩
theorem d_R_init_50 : gN M_R_init 50 160 53 := Or.inr (Or.inr (Or.inl ⟨160, by decide +kernel, by decide, rfl⟩))
theorem d_R_init_53 : gD M_R_init 53 (.newarray .int) 2 55 := ⟨by decide +kernel, rfl⟩
theorem d_R_init_55 : gPf M_R_init 55 6 7 (.array .int) 58 := ⟨25, by decide +kernel, rfl, RX5, TX5, 12, "FolderRoundsModel", tyX5, rfl, by decide, gW_c5 0 rfl rfl, gws_6, Or.inl rfl, tyX5_ok, nmX5, by decide +kernel, Or.inr ⟨rfl, rfl, rfl⟩⟩
theorem d_R_init_58 : gAl M_R_init 58 0 59 := Or.inr ⟨0, by decide +kernel, rfl, rfl⟩
theorem d_R_init_59 : gN M_R_init 59 1120 62 := Or.inr (Or.inr (Or.inl ⟨1120, by decide +kernel, by decide, rfl⟩))
theorem d_R_init_62 : gD M_R_init 62 (.newarray .int) 2 64 := ⟨by decide +kernel, rfl⟩
theorem d_R_init_64 : gPf M_R_init 64 6 8 (.array .int) 67 := ⟨28, by decide +kernel, rfl, RX5, TX5, 12, "FolderRoundsModel", tyX5, rfl, by decide, gW_c5 1 rfl rfl, gws_6, Or.inl rfl, tyX5_ok, nmX5, by decide +kernel, Or.inr ⟨rfl, rfl, rfl⟩⟩
theorem d_R_init_67 : gAl M_R_init 67 0 68 := Or.inr ⟨0, by decide +kernel, rfl, rfl⟩
theorem d_R_init_68 : gN M_R_init 68 3 69 := Or.inl ⟨3, by decide +kernel, by decide, rfl⟩
theorem d_R_init_69 : gD M_R_init 69 (.newarray .int) 2 71 := ⟨by decide +kernel, rfl⟩
theorem d_R_init_71 : gPf M_R_init 71 6 9 (.array .int) 74 := ⟨31, by decide +kernel, rfl, RX5, TX5, 12, "FolderRoundsModel", tyX5, rfl, by decide, gW_c5 2 rfl rfl, gws_6, Or.inl rfl, tyX5_ok, nmX5, by decide +kernel, Or.inr ⟨rfl, rfl, rfl⟩⟩
theorem d_R_init_74 : gAl M_R_init 74 0 75 := Or.inr ⟨0, by decide +kernel, rfl, rfl⟩
theorem d_R_init_75 : gN M_R_init 75 60 77 := Or.inr (Or.inl ⟨60, by decide +kernel, by decide, rfl⟩)
theorem d_R_init_77 : gD M_R_init 77 (.newarray .int) 2 79 := ⟨by decide +kernel, rfl⟩
theorem d_R_init_79 : gPf M_R_init 79 6 10 (.array .int) 82 := ⟨34, by decide +kernel, rfl, RX5, TX5, 12, "FolderRoundsModel", tyX5, rfl, by decide, gW_c5 3 rfl rfl, gws_6, Or.inl rfl, tyX5_ok, nmX5, by decide +kernel, Or.inr ⟨rfl, rfl, rfl⟩⟩
theorem d_R_init_82 : gD M_R_init 82 (.return_) 1 83 := ⟨by decide +kernel, rfl⟩
theorem d_R_thrown_0 : gAl M_R_thrown 0 0 1 := Or.inr ⟨0, by decide +kernel, rfl, rfl⟩
theorem d_R_thrown_1 : gGf M_R_thrown 1 6 0 4 := ⟨37, by decide +kernel, rfl, fl_R_37 _ rfl⟩
theorem d_R_thrown_4 : gD M_R_thrown 4 (.ireturn) 1 5 := ⟨by decide +kernel, rfl⟩
theorem d_R_edit_0 : gAl M_R_edit 0 0 1 := Or.inr ⟨0, by decide +kernel, rfl, rfl⟩
theorem d_R_edit_1 : gIl M_R_edit 1 1 2 := Or.inr ⟨1, by decide +kernel, rfl, rfl⟩
theorem d_R_edit_2 : gIl M_R_edit 2 2 3 := Or.inr ⟨2, by decide +kernel, rfl, rfl⟩
theorem d_R_edit_3 : gD M_R_edit 3 (.invokestatic 77) 3 6 := ⟨by decide +kernel, rfl⟩
theorem cs_R_edit_3 : gClS M_R_edit 77 y_R_isPlace M_R_isPlace 2 := ⟨⟨gW_c5 38 rfl rfl, gW_c1 8 rfl rfl, cd_R_isPlace, by decide +kernel, by decide +kernel⟩, gW_c5 39 rfl rfl⟩
theorem d_R_edit_6 : gB M_R_edit 6 (.ifCond .ne 7) 7 9 13 := ⟨by decide +kernel, rfl, by decide⟩
theorem d_R_edit_9 : gN M_R_edit 9 1 10 := Or.inl ⟨1, by decide +kernel, by decide, rfl⟩
theorem d_R_edit_10 : gB M_R_edit 10 (.goto 30) 30 13 40 := ⟨by decide +kernel, rfl, by decide⟩
theorem d_R_edit_13 : gIl M_R_edit 13 3 14 := Or.inr ⟨3, by decide +kernel, rfl, rfl⟩
theorem d_R_edit_14 : gN M_R_edit 14 0 15 := Or.inl ⟨0, by decide +kernel, by decide, rfl⟩
theorem d_R_edit_15 : gN M_R_edit 15 40 17 := Or.inr (Or.inl ⟨40, by decide +kernel, by decide, rfl⟩)
theorem d_R_edit_17 : gD M_R_edit 17 (.invokestatic 73) 3 20 := ⟨by decide +kernel, rfl⟩
theorem cs_R_edit_17 : gClS M_R_edit 73 y_R_within M_R_within 3 := ⟨⟨gW_c5 41 rfl rfl, gW_c1 8 rfl rfl, cd_R_within, by decide +kernel, by decide +kernel⟩, gW_c5 42 rfl rfl⟩
theorem d_R_edit_20 : gB M_R_edit 20 (.ifCond .eq 15) 15 23 35 := ⟨by decide +kernel, rfl, by decide⟩
theorem d_R_edit_23 : gIl M_R_edit 23 4 25 := Or.inl ⟨by decide +kernel, rfl⟩
theorem d_R_edit_25 : gN M_R_edit 25 0 26 := Or.inl ⟨0, by decide +kernel, by decide, rfl⟩
theorem d_R_edit_26 : gN M_R_edit 26 255 29 := Or.inr (Or.inr (Or.inl ⟨255, by decide +kernel, by decide, rfl⟩))
theorem d_R_edit_29 : gD M_R_edit 29 (.invokestatic 73) 3 32 := ⟨by decide +kernel, rfl⟩
theorem cs_R_edit_29 : gClS M_R_edit 73 y_R_within M_R_within 3 := ⟨⟨gW_c5 41 rfl rfl, gW_c1 8 rfl rfl, cd_R_within, by decide +kernel, by decide +kernel⟩, gW_c5 42 rfl rfl⟩
theorem d_R_edit_32 : gB M_R_edit 32 (.ifCond .ne 7) 7 35 39 := ⟨by decide +kernel, rfl, by decide⟩
theorem d_R_edit_35 : gN M_R_edit 35 2 36 := Or.inl ⟨2, by decide +kernel, by decide, rfl⟩
theorem d_R_edit_36 : gB M_R_edit 36 (.goto 4) 4 39 40 := ⟨by decide +kernel, rfl, by decide⟩
theorem d_R_edit_39 : gN M_R_edit 39 0 40 := Or.inl ⟨0, by decide +kernel, by decide, rfl⟩
theorem d_R_edit_40 : gPf M_R_edit 40 6 0 .int 43 := ⟨37, by decide +kernel, rfl, RX5, TX5, 12, "FolderRoundsModel", tyX5, rfl, by decide, gW_c4 233 rfl rfl, gws_6, Or.inl rfl, tyX5_ok, nmX5, by decide +kernel, Or.inl rfl⟩
theorem d_R_edit_43 : gAl M_R_edit 43 0 44 := Or.inr ⟨0, by decide +kernel, rfl, rfl⟩
theorem d_R_edit_44 : gGf M_R_edit 44 6 0 47 := ⟨37, by decide +kernel, rfl, fl_R_37 _ rfl⟩
theorem d_R_edit_47 : gB M_R_edit 47 (.ifCond .ne 16) 16 50 63 := ⟨by decide +kernel, rfl, by decide⟩
theorem d_R_edit_50 : gAl M_R_edit 50 0 51 := Or.inr ⟨0, by decide +kernel, rfl, rfl⟩
theorem d_R_edit_51 : gAl M_R_edit 51 0 52 := Or.inr ⟨0, by decide +kernel, rfl, rfl⟩
theorem d_R_edit_52 : gIl M_R_edit 52 1 53 := Or.inr ⟨1, by decide +kernel, rfl, rfl⟩
theorem d_R_edit_53 : gIl M_R_edit 53 2 54 := Or.inr ⟨2, by decide +kernel, rfl, rfl⟩
theorem d_R_edit_54 : gIl M_R_edit 54 3 55 := Or.inr ⟨3, by decide +kernel, rfl, rfl⟩
theorem d_R_edit_55 : gIl M_R_edit 55 4 57 := Or.inl ⟨by decide +kernel, rfl⟩
theorem d_R_edit_57 : gD M_R_edit 57 (.invokevirtual 80) 3 60 := ⟨by decide +kernel, rfl⟩
theorem cs_R_edit_57 : gClV M_R_edit 80 6 y_R_make M_R_make 4 := ⟨⟨gW_c5 44 rfl rfl, gW_c1 8 rfl rfl, cd_R_make, by decide +kernel, by decide +kernel⟩, rfl, gW_c5 46 rfl rfl, gW_c0 15 rfl rfl, TX5, 12, rfl⟩
theorem d_R_edit_60 : gPf M_R_edit 60 6 0 .int 63 := ⟨37, by decide +kernel, rfl, RX5, TX5, 12, "FolderRoundsModel", tyX5, rfl, by decide, gW_c4 233 rfl rfl, gws_6, Or.inl rfl, tyX5_ok, nmX5, by decide +kernel, Or.inl rfl⟩
theorem d_R_edit_63 : gD M_R_edit 63 (.return_) 1 64 := ⟨by decide +kernel, rfl⟩
theorem d_R_isPlace_0 : gIl M_R_isPlace 0 0 1 := Or.inr ⟨0, by decide +kernel, rfl, rfl⟩
theorem d_R_isPlace_1 : gN M_R_isPlace 1 0 2 := Or.inl ⟨0, by decide +kernel, by decide, rfl⟩
theorem d_R_isPlace_2 : gN M_R_isPlace 2 3 3 := Or.inl ⟨3, by decide +kernel, by decide, rfl⟩
theorem d_R_isPlace_3 : gD M_R_isPlace 3 (.invokestatic 73) 3 6 := ⟨by decide +kernel, rfl⟩
theorem cs_R_isPlace_3 : gClS M_R_isPlace 73 y_R_within M_R_within 3 := ⟨⟨gW_c5 41 rfl rfl, gW_c1 8 rfl rfl, cd_R_within, by decide +kernel, by decide +kernel⟩, gW_c5 42 rfl rfl⟩
theorem d_R_isPlace_6 : gB M_R_isPlace 6 (.ifCond .eq 17) 17 9 23 := ⟨by decide +kernel, rfl, by decide⟩
theorem d_R_isPlace_9 : gIl M_R_isPlace 9 1 10 := Or.inr ⟨1, by decide +kernel, rfl, rfl⟩
theorem d_R_isPlace_10 : gN M_R_isPlace 10 0 11 := Or.inl ⟨0, by decide +kernel, by decide, rfl⟩
theorem d_R_isPlace_11 : gN M_R_isPlace 11 9 13 := Or.inr (Or.inl ⟨9, by decide +kernel, by decide, rfl⟩)
theorem d_R_isPlace_13 : gD M_R_isPlace 13 (.invokestatic 73) 3 16 := ⟨by decide +kernel, rfl⟩
theorem cs_R_isPlace_13 : gClS M_R_isPlace 73 y_R_within M_R_within 3 := ⟨⟨gW_c5 41 rfl rfl, gW_c1 8 rfl rfl, cd_R_within, by decide +kernel, by decide +kernel⟩, gW_c5 42 rfl rfl⟩
theorem d_R_isPlace_16 : gB M_R_isPlace 16 (.ifCond .eq 7) 7 19 23 := ⟨by decide +kernel, rfl, by decide⟩
theorem d_R_isPlace_19 : gN M_R_isPlace 19 1 20 := Or.inl ⟨1, by decide +kernel, by decide, rfl⟩
theorem d_R_isPlace_20 : gB M_R_isPlace 20 (.goto 4) 4 23 24 := ⟨by decide +kernel, rfl, by decide⟩
theorem d_R_isPlace_23 : gN M_R_isPlace 23 0 24 := Or.inl ⟨0, by decide +kernel, by decide, rfl⟩
theorem d_R_isPlace_24 : gD M_R_isPlace 24 (.ireturn) 1 25 := ⟨by decide +kernel, rfl⟩
theorem d_R_within_0 : gIl M_R_within 0 0 1 := Or.inr ⟨0, by decide +kernel, rfl, rfl⟩
theorem d_R_within_1 : gIl M_R_within 1 1 2 := Or.inr ⟨1, by decide +kernel, rfl, rfl⟩
theorem d_R_within_2 : gB M_R_within 2 (.if_icmp .lt 12) 12 5 14 := ⟨by decide +kernel, rfl, by decide⟩
theorem d_R_within_5 : gIl M_R_within 5 0 6 := Or.inr ⟨0, by decide +kernel, rfl, rfl⟩
theorem d_R_within_6 : gIl M_R_within 6 2 7 := Or.inr ⟨2, by decide +kernel, rfl, rfl⟩
theorem d_R_within_7 : gB M_R_within 7 (.if_icmp .gt 7) 7 10 14 := ⟨by decide +kernel, rfl, by decide⟩
theorem d_R_within_10 : gN M_R_within 10 1 11 := Or.inl ⟨1, by decide +kernel, by decide, rfl⟩
theorem d_R_within_11 : gB M_R_within 11 (.goto 4) 4 14 15 := ⟨by decide +kernel, rfl, by decide⟩
theorem d_R_within_14 : gN M_R_within 14 0 15 := Or.inl ⟨0, by decide +kernel, by decide, rfl⟩
theorem d_R_within_15 : gD M_R_within 15 (.ireturn) 1 16 := ⟨by decide +kernel, rfl⟩
theorem d_R_make_0 : gIl M_R_make 0 1 1 := Or.inr ⟨1, by decide +kernel, rfl, rfl⟩
theorem d_R_make_1 : gIl M_R_make 1 1 2 := Or.inr ⟨1, by decide +kernel, rfl, rfl⟩
theorem d_R_make_2 : gIl M_R_make 2 2 3 := Or.inr ⟨2, by decide +kernel, rfl, rfl⟩
theorem d_R_make_3 : gD M_R_make 3 (.invokestatic 60) 3 6 := ⟨by decide +kernel, rfl⟩
theorem cs_R_make_3 : gClS M_R_make 60 y_R_at M_R_at 3 := ⟨⟨gW_c5 48 rfl rfl, gW_c1 8 rfl rfl, cd_R_at, by decide +kernel, by decide +kernel⟩, gW_c5 49 rfl rfl⟩
theorem d_R_make_6 : gIs M_R_make 6 5 8 := Or.inl ⟨by decide +kernel, rfl⟩
theorem d_R_make_8 : gAl M_R_make 8 0 9 := Or.inr ⟨0, by decide +kernel, rfl, rfl⟩
theorem d_R_make_9 : gGf M_R_make 9 6 8 12 := ⟨28, by decide +kernel, rfl, fl_R_28 _ rfl⟩
theorem d_R_make_12 : gIl M_R_make 12 5 14 := Or.inl ⟨by decide +kernel, rfl⟩
theorem d_R_make_14 : gIl M_R_make 14 1 15 := Or.inr ⟨1, by decide +kernel, rfl, rfl⟩
theorem d_R_make_15 : gD M_R_make 15 (.iadd) 1 16 := ⟨by decide +kernel, rfl⟩
theorem d_R_make_16 : gD M_R_make 16 (.iaload) 1 17 := ⟨by decide +kernel, rfl⟩
theorem d_R_make_17 : gN M_R_make 17 200 20 := Or.inr (Or.inr (Or.inl ⟨200, by decide +kernel, by decide, rfl⟩))
theorem d_R_make_20 : gB M_R_make 20 (.if_icmp .ne 5) 5 23 25 := ⟨by decide +kernel, rfl, by decide⟩
theorem d_R_make_23 : gN M_R_make 23 3 24 := Or.inl ⟨3, by decide +kernel, by decide, rfl⟩
theorem d_R_make_24 : gD M_R_make 24 (.ireturn) 1 25 := ⟨by decide +kernel, rfl⟩
theorem d_R_make_25 : gAl M_R_make 25 0 26 := Or.inr ⟨0, by decide +kernel, rfl, rfl⟩
theorem d_R_make_26 : gGf M_R_make 26 6 1 29 := ⟨63, by decide +kernel, rfl, fl_R_63 _ rfl⟩
theorem d_R_make_29 : gIs M_R_make 29 6 31 := Or.inl ⟨by decide +kernel, rfl⟩
theorem d_R_make_31 : gAl M_R_make 31 0 32 := Or.inr ⟨0, by decide +kernel, rfl, rfl⟩
theorem d_R_make_32 : gGf M_R_make 32 6 2 35 := ⟨7, by decide +kernel, rfl, fl_R_7 _ rfl⟩
theorem d_R_make_35 : gIl M_R_make 35 6 37 := Or.inl ⟨by decide +kernel, rfl⟩
theorem d_R_make_37 : gIl M_R_make 37 2 38 := Or.inr ⟨2, by decide +kernel, rfl, rfl⟩
theorem d_R_make_38 : gD M_R_make 38 (.iastore) 1 39 := ⟨by decide +kernel, rfl⟩
theorem d_R_make_39 : gAl M_R_make 39 0 40 := Or.inr ⟨0, by decide +kernel, rfl, rfl⟩
theorem d_R_make_40 : gGf M_R_make 40 6 3 43 := ⟨13, by decide +kernel, rfl, fl_R_13 _ rfl⟩
theorem d_R_make_43 : gIl M_R_make 43 6 45 := Or.inl ⟨by decide +kernel, rfl⟩
theorem d_R_make_45 : gIl M_R_make 45 1 46 := Or.inr ⟨1, by decide +kernel, rfl, rfl⟩
theorem d_R_make_46 : gD M_R_make 46 (.iastore) 1 47 := ⟨by decide +kernel, rfl⟩
theorem d_R_make_47 : gAl M_R_make 47 0 48 := Or.inr ⟨0, by decide +kernel, rfl, rfl⟩
theorem d_R_make_48 : gGf M_R_make 48 6 4 51 := ⟨16, by decide +kernel, rfl, fl_R_16 _ rfl⟩
theorem d_R_make_51 : gIl M_R_make 51 6 53 := Or.inl ⟨by decide +kernel, rfl⟩
theorem d_R_make_53 : gIl M_R_make 53 3 54 := Or.inr ⟨3, by decide +kernel, rfl, rfl⟩
theorem d_R_make_54 : gD M_R_make 54 (.iastore) 1 55 := ⟨by decide +kernel, rfl⟩
theorem d_R_make_55 : gAl M_R_make 55 0 56 := Or.inr ⟨0, by decide +kernel, rfl, rfl⟩
theorem d_R_make_56 : gGf M_R_make 56 6 5 59 := ⟨19, by decide +kernel, rfl, fl_R_19 _ rfl⟩
theorem d_R_make_59 : gIl M_R_make 59 6 61 := Or.inl ⟨by decide +kernel, rfl⟩
theorem d_R_make_61 : gIl M_R_make 61 4 63 := Or.inl ⟨by decide +kernel, rfl⟩
theorem d_R_make_63 : gD M_R_make 63 (.iastore) 1 64 := ⟨by decide +kernel, rfl⟩
theorem d_R_make_64 : gN M_R_make 64 0 65 := Or.inl ⟨0, by decide +kernel, by decide, rfl⟩
theorem d_R_make_65 : gIs M_R_make 65 7 67 := Or.inl ⟨by decide +kernel, rfl⟩
theorem d_R_make_67 : gIl M_R_make 67 7 69 := Or.inl ⟨by decide +kernel, rfl⟩
theorem d_R_make_69 : gN M_R_make 69 4 70 := Or.inl ⟨4, by decide +kernel, by decide, rfl⟩
theorem d_R_make_70 : gB M_R_make 70 (.if_icmp .ge 43) 43 73 113 := ⟨by decide +kernel, rfl, by decide⟩
theorem d_R_make_73 : gAl M_R_make 73 0 74 := Or.inr ⟨0, by decide +kernel, rfl, rfl⟩
theorem d_R_make_74 : gGf M_R_make 74 6 6 77 := ⟨22, by decide +kernel, rfl, fl_R_22 _ rfl⟩
theorem d_R_make_77 : gN M_R_make 77 4 78 := Or.inl ⟨4, by decide +kernel, by decide, rfl⟩
theorem d_R_make_78 : gIl M_R_make 78 6 80 := Or.inl ⟨by decide +kernel, rfl⟩
theorem d_R_make_80 : gD M_R_make 80 (.imul) 1 81 := ⟨by decide +kernel, rfl⟩
theorem d_R_make_81 : gIl M_R_make 81 7 83 := Or.inl ⟨by decide +kernel, rfl⟩
theorem d_R_make_83 : gD M_R_make 83 (.iadd) 1 84 := ⟨by decide +kernel, rfl⟩
theorem d_R_make_84 : gAl M_R_make 84 0 85 := Or.inr ⟨0, by decide +kernel, rfl, rfl⟩
theorem d_R_make_85 : gGf M_R_make 85 6 8 88 := ⟨28, by decide +kernel, rfl, fl_R_28 _ rfl⟩
theorem d_R_make_88 : gIl M_R_make 88 5 90 := Or.inl ⟨by decide +kernel, rfl⟩
theorem d_R_make_90 : gIl M_R_make 90 7 92 := Or.inl ⟨by decide +kernel, rfl⟩
theorem d_R_make_92 : gD M_R_make 92 (.iadd) 1 93 := ⟨by decide +kernel, rfl⟩
theorem d_R_make_93 : gD M_R_make 93 (.iaload) 1 94 := ⟨by decide +kernel, rfl⟩
theorem d_R_make_94 : gIl M_R_make 94 7 96 := Or.inl ⟨by decide +kernel, rfl⟩
theorem d_R_make_96 : gIl M_R_make 96 1 97 := Or.inr ⟨1, by decide +kernel, rfl, rfl⟩
theorem d_R_make_97 : gB M_R_make 97 (.if_icmp .ne 7) 7 100 104 := ⟨by decide +kernel, rfl, by decide⟩
theorem d_R_make_100 : gN M_R_make 100 1 101 := Or.inl ⟨1, by decide +kernel, by decide, rfl⟩
theorem d_R_make_101 : gB M_R_make 101 (.goto 4) 4 104 105 := ⟨by decide +kernel, rfl, by decide⟩
theorem d_R_make_104 : gN M_R_make 104 0 105 := Or.inl ⟨0, by decide +kernel, by decide, rfl⟩
theorem d_R_make_105 : gD M_R_make 105 (.iadd) 1 106 := ⟨by decide +kernel, rfl⟩
theorem d_R_make_106 : gD M_R_make 106 (.iastore) 1 107 := ⟨by decide +kernel, rfl⟩
theorem d_R_make_107 : gIc M_R_make 107 7 1 110 := ⟨1, by decide +kernel, by decide, rfl⟩
theorem d_R_make_110 : gB M_R_make 110 (.goto (-43)) (-43) 113 67 := ⟨by decide +kernel, rfl, by decide⟩
theorem d_R_make_113 : gAl M_R_make 113 0 114 := Or.inr ⟨0, by decide +kernel, rfl, rfl⟩
theorem d_R_make_114 : gIl M_R_make 114 1 115 := Or.inr ⟨1, by decide +kernel, rfl, rfl⟩
theorem d_R_make_115 : gIl M_R_make 115 6 117 := Or.inl ⟨by decide +kernel, rfl⟩
theorem d_R_make_117 : gD M_R_make 117 (.invokevirtual 66) 3 120 := ⟨by decide +kernel, rfl⟩
theorem cs_R_make_117 : gClV M_R_make 66 6 y_R_hasRoom M_R_hasRoom 2 := ⟨⟨gW_c5 51 rfl rfl, gW_c1 8 rfl rfl, cd_R_hasRoom, by decide +kernel, by decide +kernel⟩, rfl, gW_c5 53 rfl rfl, gW_c0 16 rfl rfl, TX5, 12, rfl⟩
theorem d_R_make_120 : gB M_R_make 120 (.ifCond .ne 5) 5 123 125 := ⟨by decide +kernel, rfl, by decide⟩
theorem d_R_make_123 : gN M_R_make 123 3 124 := Or.inl ⟨3, by decide +kernel, by decide, rfl⟩
theorem d_R_make_124 : gD M_R_make 124 (.ireturn) 1 125 := ⟨by decide +kernel, rfl⟩
theorem d_R_make_125 : gAl M_R_make 125 0 126 := Or.inr ⟨0, by decide +kernel, rfl, rfl⟩
theorem d_R_make_126 : gD M_R_make 126 (.dup) 1 127 := ⟨by decide +kernel, rfl⟩
theorem d_R_make_127 : gGf M_R_make 127 6 1 130 := ⟨63, by decide +kernel, rfl, fl_R_63 _ rfl⟩
theorem d_R_make_130 : gN M_R_make 130 1 131 := Or.inl ⟨1, by decide +kernel, by decide, rfl⟩
theorem d_R_make_131 : gD M_R_make 131 (.iadd) 1 132 := ⟨by decide +kernel, rfl⟩
theorem d_R_make_132 : gPf M_R_make 132 6 1 .int 135 := ⟨63, by decide +kernel, rfl, RX5, TX5, 12, "FolderRoundsModel", tyX5, rfl, by decide, gW_c4 234 rfl rfl, gws_6, Or.inl rfl, tyX5_ok, nmX5, by decide +kernel, Or.inl rfl⟩
theorem d_R_make_135 : gAl M_R_make 135 0 136 := Or.inr ⟨0, by decide +kernel, rfl, rfl⟩
theorem d_R_make_136 : gIl M_R_make 136 1 137 := Or.inr ⟨1, by decide +kernel, rfl, rfl⟩
theorem d_R_make_137 : gIl M_R_make 137 6 139 := Or.inl ⟨by decide +kernel, rfl⟩
theorem d_R_make_139 : gD M_R_make 139 (.invokevirtual 69) 3 142 := ⟨by decide +kernel, rfl⟩
theorem cs_R_make_139 : gClV M_R_make 69 6 y_R_comeToStand M_R_comeToStand 2 := ⟨⟨gW_c5 75 rfl rfl, gW_c1 8 rfl rfl, cd_R_comeToStand, by decide +kernel, by decide +kernel⟩, rfl, gW_c5 77 rfl rfl, gW_c0 22 rfl rfl, TX5, 12, rfl⟩
theorem d_R_make_142 : gN M_R_make 142 0 143 := Or.inl ⟨0, by decide +kernel, by decide, rfl⟩
theorem d_R_make_143 : gD M_R_make 143 (.ireturn) 1 144 := ⟨by decide +kernel, rfl⟩
theorem d_R_at_0 : gN M_R_at 0 160 3 := Or.inr (Or.inr (Or.inl ⟨160, by decide +kernel, by decide, rfl⟩))
theorem d_R_at_3 : gIl M_R_at 3 0 4 := Or.inr ⟨0, by decide +kernel, rfl, rfl⟩
theorem d_R_at_4 : gD M_R_at 4 (.imul) 1 5 := ⟨by decide +kernel, rfl⟩
theorem d_R_at_5 : gN M_R_at 5 40 7 := Or.inr (Or.inl ⟨40, by decide +kernel, by decide, rfl⟩)
theorem d_R_at_7 : gIl M_R_at 7 1 8 := Or.inr ⟨1, by decide +kernel, rfl, rfl⟩
theorem d_R_at_8 : gD M_R_at 8 (.imul) 1 9 := ⟨by decide +kernel, rfl⟩
theorem d_R_at_9 : gD M_R_at 9 (.iadd) 1 10 := ⟨by decide +kernel, rfl⟩
theorem d_R_at_10 : gN M_R_at 10 4 11 := Or.inl ⟨4, by decide +kernel, by decide, rfl⟩
theorem d_R_at_11 : gIl M_R_at 11 2 12 := Or.inr ⟨2, by decide +kernel, rfl, rfl⟩
theorem d_R_at_12 : gD M_R_at 12 (.imul) 1 13 := ⟨by decide +kernel, rfl⟩
theorem d_R_at_13 : gD M_R_at 13 (.iadd) 1 14 := ⟨by decide +kernel, rfl⟩
theorem d_R_at_14 : gD M_R_at 14 (.ireturn) 1 15 := ⟨by decide +kernel, rfl⟩
theorem d_R_hasRoom_0 : gAl M_R_hasRoom 0 0 1 := Or.inr ⟨0, by decide +kernel, rfl, rfl⟩
theorem d_R_hasRoom_1 : gIl M_R_hasRoom 1 1 2 := Or.inr ⟨1, by decide +kernel, rfl, rfl⟩
theorem d_R_hasRoom_2 : gD M_R_hasRoom 2 (.invokevirtual 49) 3 5 := ⟨by decide +kernel, rfl⟩
theorem cs_R_hasRoom_2 : gClV M_R_hasRoom 49 6 y_R_allBytes M_R_allBytes 1 := ⟨⟨gW_c5 55 rfl rfl, gW_c1 8 rfl rfl, cd_R_allBytes, by decide +kernel, by decide +kernel⟩, rfl, gW_c5 57 rfl rfl, gW_c0 17 rfl rfl, TX5, 12, rfl⟩
theorem d_R_hasRoom_5 : gAl M_R_hasRoom 5 0 6 := Or.inr ⟨0, by decide +kernel, rfl, rfl⟩
theorem d_R_hasRoom_6 : gIl M_R_hasRoom 6 2 7 := Or.inr ⟨2, by decide +kernel, rfl, rfl⟩
theorem d_R_hasRoom_7 : gD M_R_hasRoom 7 (.invokevirtual 45) 3 10 := ⟨by decide +kernel, rfl⟩
theorem cs_R_hasRoom_7 : gClV M_R_hasRoom 45 6 y_R_bytesOf M_R_bytesOf 1 := ⟨⟨gW_c5 59 rfl rfl, gW_c1 8 rfl rfl, cd_R_bytesOf, by decide +kernel, by decide +kernel⟩, rfl, gW_c5 61 rfl rfl, gW_c0 18 rfl rfl, TX5, 12, rfl⟩
theorem d_R_hasRoom_10 : gD M_R_hasRoom 10 (.iadd) 1 11 := ⟨by decide +kernel, rfl⟩
theorem d_R_hasRoom_11 : gIs M_R_hasRoom 11 3 12 := Or.inr ⟨3, by decide +kernel, rfl, rfl⟩
theorem d_R_hasRoom_12 : gN M_R_hasRoom 12 0 13 := Or.inl ⟨0, by decide +kernel, by decide, rfl⟩
theorem d_R_hasRoom_13 : gIs M_R_hasRoom 13 4 15 := Or.inl ⟨by decide +kernel, rfl⟩
theorem d_R_hasRoom_15 : gIl M_R_hasRoom 15 4 17 := Or.inl ⟨by decide +kernel, rfl⟩
theorem d_R_hasRoom_17 : gN M_R_hasRoom 17 4 18 := Or.inl ⟨4, by decide +kernel, by decide, rfl⟩
theorem d_R_hasRoom_18 : gB M_R_hasRoom 18 (.if_icmp .ge 52) 52 21 70 := ⟨by decide +kernel, rfl, by decide⟩
theorem d_R_hasRoom_21 : gAl M_R_hasRoom 21 0 22 := Or.inr ⟨0, by decide +kernel, rfl, rfl⟩
theorem d_R_hasRoom_22 : gIl M_R_hasRoom 22 1 23 := Or.inr ⟨1, by decide +kernel, rfl, rfl⟩
theorem d_R_hasRoom_23 : gAl M_R_hasRoom 23 0 24 := Or.inr ⟨0, by decide +kernel, rfl, rfl⟩
theorem d_R_hasRoom_24 : gGf M_R_hasRoom 24 6 2 27 := ⟨7, by decide +kernel, rfl, fl_R_7 _ rfl⟩
theorem d_R_hasRoom_27 : gIl M_R_hasRoom 27 2 28 := Or.inr ⟨2, by decide +kernel, rfl, rfl⟩
theorem d_R_hasRoom_28 : gD M_R_hasRoom 28 (.iaload) 1 29 := ⟨by decide +kernel, rfl⟩
theorem d_R_hasRoom_29 : gIl M_R_hasRoom 29 4 31 := Or.inl ⟨by decide +kernel, rfl⟩
theorem d_R_hasRoom_31 : gD M_R_hasRoom 31 (.invokevirtual 52) 3 34 := ⟨by decide +kernel, rfl⟩
theorem cs_R_hasRoom_31 : gClV M_R_hasRoom 52 6 y_R_standing M_R_standing 3 := ⟨⟨gW_c5 63 rfl rfl, gW_c1 8 rfl rfl, cd_R_standing, by decide +kernel, by decide +kernel⟩, rfl, gW_c5 65 rfl rfl, gW_c0 19 rfl rfl, TX5, 12, rfl⟩
theorem d_R_hasRoom_34 : gIs M_R_hasRoom 34 5 36 := Or.inl ⟨by decide +kernel, rfl⟩
theorem d_R_hasRoom_36 : gIl M_R_hasRoom 36 5 38 := Or.inl ⟨by decide +kernel, rfl⟩
theorem d_R_hasRoom_38 : gB M_R_hasRoom 38 (.ifCond .lt 24) 24 41 62 := ⟨by decide +kernel, rfl, by decide⟩
theorem d_R_hasRoom_41 : gAl M_R_hasRoom 41 0 42 := Or.inr ⟨0, by decide +kernel, rfl, rfl⟩
theorem d_R_hasRoom_42 : gIl M_R_hasRoom 42 2 43 := Or.inr ⟨2, by decide +kernel, rfl, rfl⟩
theorem d_R_hasRoom_43 : gIl M_R_hasRoom 43 5 45 := Or.inl ⟨by decide +kernel, rfl⟩
theorem d_R_hasRoom_45 : gD M_R_hasRoom 45 (.invokevirtual 56) 3 48 := ⟨by decide +kernel, rfl⟩
theorem cs_R_hasRoom_45 : gClV M_R_hasRoom 56 6 y_R_covers M_R_covers 2 := ⟨⟨gW_c5 67 rfl rfl, gW_c1 8 rfl rfl, cd_R_covers, by decide +kernel, by decide +kernel⟩, rfl, gW_c5 69 rfl rfl, gW_c0 20 rfl rfl, TX5, 12, rfl⟩
theorem d_R_hasRoom_48 : gB M_R_hasRoom 48 (.ifCond .eq 14) 14 51 62 := ⟨by decide +kernel, rfl, by decide⟩
theorem d_R_hasRoom_51 : gIl M_R_hasRoom 51 3 52 := Or.inr ⟨3, by decide +kernel, rfl, rfl⟩
theorem d_R_hasRoom_52 : gAl M_R_hasRoom 52 0 53 := Or.inr ⟨0, by decide +kernel, rfl, rfl⟩
theorem d_R_hasRoom_53 : gIl M_R_hasRoom 53 5 55 := Or.inl ⟨by decide +kernel, rfl⟩
theorem d_R_hasRoom_55 : gD M_R_hasRoom 55 (.invokevirtual 45) 3 58 := ⟨by decide +kernel, rfl⟩
theorem cs_R_hasRoom_55 : gClV M_R_hasRoom 45 6 y_R_bytesOf M_R_bytesOf 1 := ⟨⟨gW_c5 59 rfl rfl, gW_c1 8 rfl rfl, cd_R_bytesOf, by decide +kernel, by decide +kernel⟩, rfl, gW_c5 61 rfl rfl, gW_c0 18 rfl rfl, TX5, 12, rfl⟩
theorem d_R_hasRoom_58 : gD M_R_hasRoom 58 (.isub) 1 59 := ⟨by decide +kernel, rfl⟩
theorem d_R_hasRoom_59 : gB M_R_hasRoom 59 (.goto 4) 4 62 63 := ⟨by decide +kernel, rfl, by decide⟩
theorem d_R_hasRoom_62 : gIl M_R_hasRoom 62 3 63 := Or.inr ⟨3, by decide +kernel, rfl, rfl⟩
theorem d_R_hasRoom_63 : gIs M_R_hasRoom 63 3 64 := Or.inr ⟨3, by decide +kernel, rfl, rfl⟩
theorem d_R_hasRoom_64 : gIc M_R_hasRoom 64 4 1 67 := ⟨1, by decide +kernel, by decide, rfl⟩
theorem d_R_hasRoom_67 : gB M_R_hasRoom 67 (.goto (-52)) (-52) 70 15 := ⟨by decide +kernel, rfl, by decide⟩
theorem d_R_hasRoom_70 : gIl M_R_hasRoom 70 3 71 := Or.inr ⟨3, by decide +kernel, rfl, rfl⟩
theorem d_R_hasRoom_71 : gN M_R_hasRoom 71 300 74 := Or.inr (Or.inr (Or.inl ⟨300, by decide +kernel, by decide, rfl⟩))
theorem d_R_hasRoom_74 : gB M_R_hasRoom 74 (.if_icmp .gt 7) 7 77 81 := ⟨by decide +kernel, rfl, by decide⟩
theorem d_R_hasRoom_77 : gN M_R_hasRoom 77 1 78 := Or.inl ⟨1, by decide +kernel, by decide, rfl⟩
theorem d_R_hasRoom_78 : gB M_R_hasRoom 78 (.goto 4) 4 81 82 := ⟨by decide +kernel, rfl, by decide⟩
theorem d_R_hasRoom_81 : gN M_R_hasRoom 81 0 82 := Or.inl ⟨0, by decide +kernel, by decide, rfl⟩
theorem d_R_hasRoom_82 : gD M_R_hasRoom 82 (.ireturn) 1 83 := ⟨by decide +kernel, rfl⟩
theorem d_R_allBytes_0 : gN M_R_allBytes 0 0 1 := Or.inl ⟨0, by decide +kernel, by decide, rfl⟩
theorem d_R_allBytes_1 : gIs M_R_allBytes 1 2 2 := Or.inr ⟨2, by decide +kernel, rfl, rfl⟩
theorem d_R_allBytes_2 : gN M_R_allBytes 2 40 4 := Or.inr (Or.inl ⟨40, by decide +kernel, by decide, rfl⟩)
theorem d_R_allBytes_4 : gIl M_R_allBytes 4 1 5 := Or.inr ⟨1, by decide +kernel, rfl, rfl⟩
theorem d_R_allBytes_5 : gD M_R_allBytes 5 (.imul) 1 6 := ⟨by decide +kernel, rfl⟩
theorem d_R_allBytes_6 : gIs M_R_allBytes 6 3 7 := Or.inr ⟨3, by decide +kernel, rfl, rfl⟩
theorem d_R_allBytes_7 : gIl M_R_allBytes 7 3 8 := Or.inr ⟨3, by decide +kernel, rfl, rfl⟩
theorem d_R_allBytes_8 : gN M_R_allBytes 8 40 10 := Or.inr (Or.inl ⟨40, by decide +kernel, by decide, rfl⟩)
theorem d_R_allBytes_10 : gIl M_R_allBytes 10 1 11 := Or.inr ⟨1, by decide +kernel, rfl, rfl⟩
theorem d_R_allBytes_11 : gD M_R_allBytes 11 (.imul) 1 12 := ⟨by decide +kernel, rfl⟩
theorem d_R_allBytes_12 : gN M_R_allBytes 12 40 14 := Or.inr (Or.inl ⟨40, by decide +kernel, by decide, rfl⟩)
theorem d_R_allBytes_14 : gD M_R_allBytes 14 (.iadd) 1 15 := ⟨by decide +kernel, rfl⟩
theorem d_R_allBytes_15 : gB M_R_allBytes 15 (.if_icmp .ge 37) 37 18 52 := ⟨by decide +kernel, rfl, by decide⟩
theorem d_R_allBytes_18 : gAl M_R_allBytes 18 0 19 := Or.inr ⟨0, by decide +kernel, rfl, rfl⟩
theorem d_R_allBytes_19 : gGf M_R_allBytes 19 6 7 22 := ⟨25, by decide +kernel, rfl, fl_R_25 _ rfl⟩
theorem d_R_allBytes_22 : gIl M_R_allBytes 22 3 23 := Or.inr ⟨3, by decide +kernel, rfl, rfl⟩
theorem d_R_allBytes_23 : gD M_R_allBytes 23 (.iaload) 1 24 := ⟨by decide +kernel, rfl⟩
theorem d_R_allBytes_24 : gB M_R_allBytes 24 (.ifCond .le 20) 20 27 44 := ⟨by decide +kernel, rfl, by decide⟩
theorem d_R_allBytes_27 : gIl M_R_allBytes 27 2 28 := Or.inr ⟨2, by decide +kernel, rfl, rfl⟩
theorem d_R_allBytes_28 : gAl M_R_allBytes 28 0 29 := Or.inr ⟨0, by decide +kernel, rfl, rfl⟩
theorem d_R_allBytes_29 : gAl M_R_allBytes 29 0 30 := Or.inr ⟨0, by decide +kernel, rfl, rfl⟩
theorem d_R_allBytes_30 : gGf M_R_allBytes 30 6 7 33 := ⟨25, by decide +kernel, rfl, fl_R_25 _ rfl⟩
theorem d_R_allBytes_33 : gIl M_R_allBytes 33 3 34 := Or.inr ⟨3, by decide +kernel, rfl, rfl⟩
theorem d_R_allBytes_34 : gD M_R_allBytes 34 (.iaload) 1 35 := ⟨by decide +kernel, rfl⟩
theorem d_R_allBytes_35 : gN M_R_allBytes 35 1 36 := Or.inl ⟨1, by decide +kernel, by decide, rfl⟩
theorem d_R_allBytes_36 : gD M_R_allBytes 36 (.isub) 1 37 := ⟨by decide +kernel, rfl⟩
theorem d_R_allBytes_37 : gD M_R_allBytes 37 (.invokevirtual 45) 3 40 := ⟨by decide +kernel, rfl⟩
theorem cs_R_allBytes_37 : gClV M_R_allBytes 45 6 y_R_bytesOf M_R_bytesOf 1 := ⟨⟨gW_c5 59 rfl rfl, gW_c1 8 rfl rfl, cd_R_bytesOf, by decide +kernel, by decide +kernel⟩, rfl, gW_c5 61 rfl rfl, gW_c0 18 rfl rfl, TX5, 12, rfl⟩
theorem d_R_allBytes_40 : gD M_R_allBytes 40 (.iadd) 1 41 := ⟨by decide +kernel, rfl⟩
theorem d_R_allBytes_41 : gB M_R_allBytes 41 (.goto 4) 4 44 45 := ⟨by decide +kernel, rfl, by decide⟩
theorem d_R_allBytes_44 : gIl M_R_allBytes 44 2 45 := Or.inr ⟨2, by decide +kernel, rfl, rfl⟩
theorem d_R_allBytes_45 : gIs M_R_allBytes 45 2 46 := Or.inr ⟨2, by decide +kernel, rfl, rfl⟩
theorem d_R_allBytes_46 : gIc M_R_allBytes 46 3 1 49 := ⟨1, by decide +kernel, by decide, rfl⟩
theorem d_R_allBytes_49 : gB M_R_allBytes 49 (.goto (-42)) (-42) 52 7 := ⟨by decide +kernel, rfl, by decide⟩
theorem d_R_allBytes_52 : gIl M_R_allBytes 52 2 53 := Or.inr ⟨2, by decide +kernel, rfl, rfl⟩
theorem d_R_allBytes_53 : gD M_R_allBytes 53 (.ireturn) 1 54 := ⟨by decide +kernel, rfl⟩
theorem d_R_bytesOf_0 : gAl M_R_bytesOf 0 0 1 := Or.inr ⟨0, by decide +kernel, rfl, rfl⟩
theorem d_R_bytesOf_1 : gGf M_R_bytesOf 1 6 4 4 := ⟨16, by decide +kernel, rfl, fl_R_16 _ rfl⟩
theorem d_R_bytesOf_4 : gIl M_R_bytesOf 4 1 5 := Or.inr ⟨1, by decide +kernel, rfl, rfl⟩
theorem d_R_bytesOf_5 : gD M_R_bytesOf 5 (.iaload) 1 6 := ⟨by decide +kernel, rfl⟩
theorem d_R_bytesOf_6 : gB M_R_bytesOf 6 (.ifCond .ge 7) 7 9 13 := ⟨by decide +kernel, rfl, by decide⟩
theorem d_R_bytesOf_9 : gN M_R_bytesOf 9 0 10 := Or.inl ⟨0, by decide +kernel, by decide, rfl⟩
theorem d_R_bytesOf_10 : gB M_R_bytesOf 10 (.goto 9) 9 13 19 := ⟨by decide +kernel, rfl, by decide⟩
theorem d_R_bytesOf_13 : gAl M_R_bytesOf 13 0 14 := Or.inr ⟨0, by decide +kernel, rfl, rfl⟩
theorem d_R_bytesOf_14 : gGf M_R_bytesOf 14 6 4 17 := ⟨16, by decide +kernel, rfl, fl_R_16 _ rfl⟩
theorem d_R_bytesOf_17 : gIl M_R_bytesOf 17 1 18 := Or.inr ⟨1, by decide +kernel, rfl, rfl⟩
theorem d_R_bytesOf_18 : gD M_R_bytesOf 18 (.iaload) 1 19 := ⟨by decide +kernel, rfl⟩
theorem d_R_bytesOf_19 : gD M_R_bytesOf 19 (.ireturn) 1 20 := ⟨by decide +kernel, rfl⟩
theorem d_R_standing_0 : gAl M_R_standing 0 0 1 := Or.inr ⟨0, by decide +kernel, rfl, rfl⟩
theorem d_R_standing_1 : gGf M_R_standing 1 6 7 4 := ⟨25, by decide +kernel, rfl, fl_R_25 _ rfl⟩
theorem d_R_standing_4 : gN M_R_standing 4 40 6 := Or.inr (Or.inl ⟨40, by decide +kernel, by decide, rfl⟩)
theorem d_R_standing_6 : gIl M_R_standing 6 1 7 := Or.inr ⟨1, by decide +kernel, rfl, rfl⟩
theorem d_R_standing_7 : gD M_R_standing 7 (.imul) 1 8 := ⟨by decide +kernel, rfl⟩
theorem d_R_standing_8 : gN M_R_standing 8 4 9 := Or.inl ⟨4, by decide +kernel, by decide, rfl⟩
theorem d_R_standing_9 : gIl M_R_standing 9 2 10 := Or.inr ⟨2, by decide +kernel, rfl, rfl⟩
theorem d_R_standing_10 : gD M_R_standing 10 (.imul) 1 11 := ⟨by decide +kernel, rfl⟩
theorem d_R_standing_11 : gD M_R_standing 11 (.iadd) 1 12 := ⟨by decide +kernel, rfl⟩
theorem d_R_standing_12 : gIl M_R_standing 12 3 13 := Or.inr ⟨3, by decide +kernel, rfl, rfl⟩
theorem d_R_standing_13 : gD M_R_standing 13 (.iadd) 1 14 := ⟨by decide +kernel, rfl⟩
theorem d_R_standing_14 : gD M_R_standing 14 (.iaload) 1 15 := ⟨by decide +kernel, rfl⟩
theorem d_R_standing_15 : gN M_R_standing 15 1 16 := Or.inl ⟨1, by decide +kernel, by decide, rfl⟩
theorem d_R_standing_16 : gD M_R_standing 16 (.isub) 1 17 := ⟨by decide +kernel, rfl⟩
theorem d_R_standing_17 : gD M_R_standing 17 (.ireturn) 1 18 := ⟨by decide +kernel, rfl⟩
theorem d_R_covers_0 : gN M_R_covers 0 1 1 := Or.inl ⟨1, by decide +kernel, by decide, rfl⟩
theorem d_R_covers_1 : gIs M_R_covers 1 3 2 := Or.inr ⟨3, by decide +kernel, rfl, rfl⟩
theorem d_R_covers_2 : gN M_R_covers 2 0 3 := Or.inl ⟨0, by decide +kernel, by decide, rfl⟩
theorem d_R_covers_3 : gIs M_R_covers 3 4 5 := Or.inl ⟨by decide +kernel, rfl⟩
theorem d_R_covers_5 : gIl M_R_covers 5 4 7 := Or.inl ⟨by decide +kernel, rfl⟩
theorem d_R_covers_7 : gN M_R_covers 7 4 8 := Or.inl ⟨4, by decide +kernel, by decide, rfl⟩
theorem d_R_covers_8 : gB M_R_covers 8 (.if_icmp .ge 36) 36 11 44 := ⟨by decide +kernel, rfl, by decide⟩
theorem d_R_covers_11 : gIl M_R_covers 11 3 12 := Or.inr ⟨3, by decide +kernel, rfl, rfl⟩
theorem d_R_covers_12 : gB M_R_covers 12 (.ifCond .eq 24) 24 15 36 := ⟨by decide +kernel, rfl, by decide⟩
theorem d_R_covers_15 : gAl M_R_covers 15 0 16 := Or.inr ⟨0, by decide +kernel, rfl, rfl⟩
theorem d_R_covers_16 : gIl M_R_covers 16 1 17 := Or.inr ⟨1, by decide +kernel, rfl, rfl⟩
theorem d_R_covers_17 : gIl M_R_covers 17 4 19 := Or.inl ⟨by decide +kernel, rfl⟩
theorem d_R_covers_19 : gD M_R_covers 19 (.invokevirtual 41) 3 22 := ⟨by decide +kernel, rfl⟩
theorem cs_R_covers_19 : gClV M_R_covers 41 6 y_R_counterOf M_R_counterOf 2 := ⟨⟨gW_c5 71 rfl rfl, gW_c1 8 rfl rfl, cd_R_counterOf, by decide +kernel, by decide +kernel⟩, rfl, gW_c5 73 rfl rfl, gW_c0 21 rfl rfl, TX5, 12, rfl⟩
theorem d_R_covers_22 : gAl M_R_covers 22 0 23 := Or.inr ⟨0, by decide +kernel, rfl, rfl⟩
theorem d_R_covers_23 : gIl M_R_covers 23 2 24 := Or.inr ⟨2, by decide +kernel, rfl, rfl⟩
theorem d_R_covers_24 : gIl M_R_covers 24 4 26 := Or.inl ⟨by decide +kernel, rfl⟩
theorem d_R_covers_26 : gD M_R_covers 26 (.invokevirtual 41) 3 29 := ⟨by decide +kernel, rfl⟩
theorem cs_R_covers_26 : gClV M_R_covers 41 6 y_R_counterOf M_R_counterOf 2 := ⟨⟨gW_c5 71 rfl rfl, gW_c1 8 rfl rfl, cd_R_counterOf, by decide +kernel, by decide +kernel⟩, rfl, gW_c5 73 rfl rfl, gW_c0 21 rfl rfl, TX5, 12, rfl⟩
theorem d_R_covers_29 : gB M_R_covers 29 (.if_icmp .lt 7) 7 32 36 := ⟨by decide +kernel, rfl, by decide⟩
theorem d_R_covers_32 : gN M_R_covers 32 1 33 := Or.inl ⟨1, by decide +kernel, by decide, rfl⟩
theorem d_R_covers_33 : gB M_R_covers 33 (.goto 4) 4 36 37 := ⟨by decide +kernel, rfl, by decide⟩
theorem d_R_covers_36 : gN M_R_covers 36 0 37 := Or.inl ⟨0, by decide +kernel, by decide, rfl⟩
theorem d_R_covers_37 : gIs M_R_covers 37 3 38 := Or.inr ⟨3, by decide +kernel, rfl, rfl⟩
theorem d_R_covers_38 : gIc M_R_covers 38 4 1 41 := ⟨1, by decide +kernel, by decide, rfl⟩
theorem d_R_covers_41 : gB M_R_covers 41 (.goto (-36)) (-36) 44 5 := ⟨by decide +kernel, rfl, by decide⟩
theorem d_R_covers_44 : gIl M_R_covers 44 3 45 := Or.inr ⟨3, by decide +kernel, rfl, rfl⟩
theorem d_R_covers_45 : gD M_R_covers 45 (.ireturn) 1 46 := ⟨by decide +kernel, rfl⟩
theorem d_R_counterOf_0 : gAl M_R_counterOf 0 0 1 := Or.inr ⟨0, by decide +kernel, rfl, rfl⟩
theorem d_R_counterOf_1 : gGf M_R_counterOf 1 6 6 4 := ⟨22, by decide +kernel, rfl, fl_R_22 _ rfl⟩
theorem d_R_counterOf_4 : gN M_R_counterOf 4 4 5 := Or.inl ⟨4, by decide +kernel, by decide, rfl⟩
theorem d_R_counterOf_5 : gIl M_R_counterOf 5 1 6 := Or.inr ⟨1, by decide +kernel, rfl, rfl⟩
theorem d_R_counterOf_6 : gD M_R_counterOf 6 (.imul) 1 7 := ⟨by decide +kernel, rfl⟩
theorem d_R_counterOf_7 : gIl M_R_counterOf 7 2 8 := Or.inr ⟨2, by decide +kernel, rfl, rfl⟩
theorem d_R_counterOf_8 : gD M_R_counterOf 8 (.iadd) 1 9 := ⟨by decide +kernel, rfl⟩
theorem d_R_counterOf_9 : gD M_R_counterOf 9 (.iaload) 1 10 := ⟨by decide +kernel, rfl⟩
theorem d_R_counterOf_10 : gD M_R_counterOf 10 (.ireturn) 1 11 := ⟨by decide +kernel, rfl⟩
theorem d_R_comeToStand_0 : gAl M_R_comeToStand 0 0 1 := Or.inr ⟨0, by decide +kernel, rfl, rfl⟩
theorem d_R_comeToStand_1 : gGf M_R_comeToStand 1 6 2 4 := ⟨7, by decide +kernel, rfl, fl_R_7 _ rfl⟩
theorem d_R_comeToStand_4 : gIl M_R_comeToStand 4 2 5 := Or.inr ⟨2, by decide +kernel, rfl, rfl⟩
theorem d_R_comeToStand_5 : gD M_R_comeToStand 5 (.iaload) 1 6 := ⟨by decide +kernel, rfl⟩
theorem d_R_comeToStand_6 : gIs M_R_comeToStand 6 3 7 := Or.inr ⟨3, by decide +kernel, rfl, rfl⟩
theorem d_R_comeToStand_7 : gN M_R_comeToStand 7 0 8 := Or.inl ⟨0, by decide +kernel, by decide, rfl⟩
theorem d_R_comeToStand_8 : gIs M_R_comeToStand 8 4 10 := Or.inl ⟨by decide +kernel, rfl⟩
theorem d_R_comeToStand_10 : gIl M_R_comeToStand 10 4 12 := Or.inl ⟨by decide +kernel, rfl⟩
theorem d_R_comeToStand_12 : gN M_R_comeToStand 12 4 13 := Or.inl ⟨4, by decide +kernel, by decide, rfl⟩
theorem d_R_comeToStand_13 : gB M_R_comeToStand 13 (.if_icmp .ge 51) 51 16 64 := ⟨by decide +kernel, rfl, by decide⟩
theorem d_R_comeToStand_16 : gAl M_R_comeToStand 16 0 17 := Or.inr ⟨0, by decide +kernel, rfl, rfl⟩
theorem d_R_comeToStand_17 : gIl M_R_comeToStand 17 1 18 := Or.inr ⟨1, by decide +kernel, rfl, rfl⟩
theorem d_R_comeToStand_18 : gIl M_R_comeToStand 18 3 19 := Or.inr ⟨3, by decide +kernel, rfl, rfl⟩
theorem d_R_comeToStand_19 : gIl M_R_comeToStand 19 4 21 := Or.inl ⟨by decide +kernel, rfl⟩
theorem d_R_comeToStand_21 : gD M_R_comeToStand 21 (.invokevirtual 52) 3 24 := ⟨by decide +kernel, rfl⟩
theorem cs_R_comeToStand_21 : gClV M_R_comeToStand 52 6 y_R_standing M_R_standing 3 := ⟨⟨gW_c5 63 rfl rfl, gW_c1 8 rfl rfl, cd_R_standing, by decide +kernel, by decide +kernel⟩, rfl, gW_c5 65 rfl rfl, gW_c0 19 rfl rfl, TX5, 12, rfl⟩
theorem d_R_comeToStand_24 : gIs M_R_comeToStand 24 5 26 := Or.inl ⟨by decide +kernel, rfl⟩
theorem d_R_comeToStand_26 : gIl M_R_comeToStand 26 5 28 := Or.inl ⟨by decide +kernel, rfl⟩
theorem d_R_comeToStand_28 : gB M_R_comeToStand 28 (.ifCond .lt 30) 30 31 58 := ⟨by decide +kernel, rfl, by decide⟩
theorem d_R_comeToStand_31 : gAl M_R_comeToStand 31 0 32 := Or.inr ⟨0, by decide +kernel, rfl, rfl⟩
theorem d_R_comeToStand_32 : gIl M_R_comeToStand 32 2 33 := Or.inr ⟨2, by decide +kernel, rfl, rfl⟩
theorem d_R_comeToStand_33 : gIl M_R_comeToStand 33 5 35 := Or.inl ⟨by decide +kernel, rfl⟩
theorem d_R_comeToStand_35 : gD M_R_comeToStand 35 (.invokevirtual 56) 3 38 := ⟨by decide +kernel, rfl⟩
theorem cs_R_comeToStand_35 : gClV M_R_comeToStand 56 6 y_R_covers M_R_covers 2 := ⟨⟨gW_c5 67 rfl rfl, gW_c1 8 rfl rfl, cd_R_covers, by decide +kernel, by decide +kernel⟩, rfl, gW_c5 69 rfl rfl, gW_c0 20 rfl rfl, TX5, 12, rfl⟩
theorem d_R_comeToStand_38 : gB M_R_comeToStand 38 (.ifCond .eq 20) 20 41 58 := ⟨by decide +kernel, rfl, by decide⟩
theorem d_R_comeToStand_41 : gAl M_R_comeToStand 41 0 42 := Or.inr ⟨0, by decide +kernel, rfl, rfl⟩
theorem d_R_comeToStand_42 : gGf M_R_comeToStand 42 6 7 45 := ⟨25, by decide +kernel, rfl, fl_R_25 _ rfl⟩
theorem d_R_comeToStand_45 : gN M_R_comeToStand 45 40 47 := Or.inr (Or.inl ⟨40, by decide +kernel, by decide, rfl⟩)
theorem d_R_comeToStand_47 : gIl M_R_comeToStand 47 1 48 := Or.inr ⟨1, by decide +kernel, rfl, rfl⟩
theorem d_R_comeToStand_48 : gD M_R_comeToStand 48 (.imul) 1 49 := ⟨by decide +kernel, rfl⟩
theorem d_R_comeToStand_49 : gN M_R_comeToStand 49 4 50 := Or.inl ⟨4, by decide +kernel, by decide, rfl⟩
theorem d_R_comeToStand_50 : gIl M_R_comeToStand 50 3 51 := Or.inr ⟨3, by decide +kernel, rfl, rfl⟩
theorem d_R_comeToStand_51 : gD M_R_comeToStand 51 (.imul) 1 52 := ⟨by decide +kernel, rfl⟩
theorem d_R_comeToStand_52 : gD M_R_comeToStand 52 (.iadd) 1 53 := ⟨by decide +kernel, rfl⟩
theorem d_R_comeToStand_53 : gIl M_R_comeToStand 53 4 55 := Or.inl ⟨by decide +kernel, rfl⟩
theorem d_R_comeToStand_55 : gD M_R_comeToStand 55 (.iadd) 1 56 := ⟨by decide +kernel, rfl⟩
theorem d_R_comeToStand_56 : gN M_R_comeToStand 56 0 57 := Or.inl ⟨0, by decide +kernel, by decide, rfl⟩
theorem d_R_comeToStand_57 : gD M_R_comeToStand 57 (.iastore) 1 58 := ⟨by decide +kernel, rfl⟩
theorem d_R_comeToStand_58 : gIc M_R_comeToStand 58 4 1 61 := ⟨1, by decide +kernel, by decide, rfl⟩
theorem d_R_comeToStand_61 : gB M_R_comeToStand 61 (.goto (-51)) (-51) 64 10 := ⟨by decide +kernel, rfl, by decide⟩
theorem d_R_comeToStand_64 : gAl M_R_comeToStand 64 0 65 := Or.inr ⟨0, by decide +kernel, rfl, rfl⟩
theorem d_R_comeToStand_65 : gGf M_R_comeToStand 65 6 7 68 := ⟨25, by decide +kernel, rfl, fl_R_25 _ rfl⟩
theorem d_R_comeToStand_68 : gN M_R_comeToStand 68 40 70 := Or.inr (Or.inl ⟨40, by decide +kernel, by decide, rfl⟩)
theorem d_R_comeToStand_70 : gIl M_R_comeToStand 70 1 71 := Or.inr ⟨1, by decide +kernel, rfl, rfl⟩
theorem d_R_comeToStand_71 : gD M_R_comeToStand 71 (.imul) 1 72 := ⟨by decide +kernel, rfl⟩
theorem d_R_comeToStand_72 : gN M_R_comeToStand 72 4 73 := Or.inl ⟨4, by decide +kernel, by decide, rfl⟩
theorem d_R_comeToStand_73 : gIl M_R_comeToStand 73 3 74 := Or.inr ⟨3, by decide +kernel, rfl, rfl⟩
theorem d_R_comeToStand_74 : gD M_R_comeToStand 74 (.imul) 1 75 := ⟨by decide +kernel, rfl⟩
theorem d_R_comeToStand_75 : gD M_R_comeToStand 75 (.iadd) 1 76 := ⟨by decide +kernel, rfl⟩
theorem d_R_comeToStand_76 : gAl M_R_comeToStand 76 0 77 := Or.inr ⟨0, by decide +kernel, rfl, rfl⟩
theorem d_R_comeToStand_77 : gGf M_R_comeToStand 77 6 3 80 := ⟨13, by decide +kernel, rfl, fl_R_13 _ rfl⟩
theorem d_R_comeToStand_80 : gIl M_R_comeToStand 80 2 81 := Or.inr ⟨2, by decide +kernel, rfl, rfl⟩
theorem d_R_comeToStand_81 : gD M_R_comeToStand 81 (.iaload) 1 82 := ⟨by decide +kernel, rfl⟩
theorem d_R_comeToStand_82 : gD M_R_comeToStand 82 (.iadd) 1 83 := ⟨by decide +kernel, rfl⟩
theorem d_R_comeToStand_83 : gIl M_R_comeToStand 83 2 84 := Or.inr ⟨2, by decide +kernel, rfl, rfl⟩
theorem d_R_comeToStand_84 : gN M_R_comeToStand 84 1 85 := Or.inl ⟨1, by decide +kernel, by decide, rfl⟩
theorem d_R_comeToStand_85 : gD M_R_comeToStand 85 (.iadd) 1 86 := ⟨by decide +kernel, rfl⟩
theorem d_R_comeToStand_86 : gD M_R_comeToStand 86 (.iastore) 1 87 := ⟨by decide +kernel, rfl⟩
theorem d_R_comeToStand_87 : gIl M_R_comeToStand 87 1 88 := Or.inr ⟨1, by decide +kernel, rfl, rfl⟩
theorem d_R_comeToStand_88 : gIl M_R_comeToStand 88 1 89 := Or.inr ⟨1, by decide +kernel, rfl, rfl⟩
theorem d_R_comeToStand_89 : gIl M_R_comeToStand 89 3 90 := Or.inr ⟨3, by decide +kernel, rfl, rfl⟩
theorem d_R_comeToStand_90 : gD M_R_comeToStand 90 (.invokestatic 60) 3 93 := ⟨by decide +kernel, rfl⟩
theorem cs_R_comeToStand_90 : gClS M_R_comeToStand 60 y_R_at M_R_at 3 := ⟨⟨gW_c5 48 rfl rfl, gW_c1 8 rfl rfl, cd_R_at, by decide +kernel, by decide +kernel⟩, gW_c5 49 rfl rfl⟩
theorem d_R_comeToStand_93 : gIs M_R_comeToStand 93 4 95 := Or.inl ⟨by decide +kernel, rfl⟩
theorem d_R_comeToStand_95 : gN M_R_comeToStand 95 0 96 := Or.inl ⟨0, by decide +kernel, by decide, rfl⟩
theorem d_R_comeToStand_96 : gIs M_R_comeToStand 96 5 98 := Or.inl ⟨by decide +kernel, rfl⟩
theorem d_R_comeToStand_98 : gIl M_R_comeToStand 98 5 100 := Or.inl ⟨by decide +kernel, rfl⟩
theorem d_R_comeToStand_100 : gN M_R_comeToStand 100 4 101 := Or.inl ⟨4, by decide +kernel, by decide, rfl⟩
theorem d_R_comeToStand_101 : gB M_R_comeToStand 101 (.if_icmp .ge 59) 59 104 160 := ⟨by decide +kernel, rfl, by decide⟩
theorem d_R_comeToStand_104 : gAl M_R_comeToStand 104 0 105 := Or.inr ⟨0, by decide +kernel, rfl, rfl⟩
theorem d_R_comeToStand_105 : gGf M_R_comeToStand 105 6 8 108 := ⟨28, by decide +kernel, rfl, fl_R_28 _ rfl⟩
theorem d_R_comeToStand_108 : gIl M_R_comeToStand 108 4 110 := Or.inl ⟨by decide +kernel, rfl⟩
theorem d_R_comeToStand_110 : gIl M_R_comeToStand 110 5 112 := Or.inl ⟨by decide +kernel, rfl⟩
theorem d_R_comeToStand_112 : gD M_R_comeToStand 112 (.iadd) 1 113 := ⟨by decide +kernel, rfl⟩
theorem d_R_comeToStand_113 : gAl M_R_comeToStand 113 0 114 := Or.inr ⟨0, by decide +kernel, rfl, rfl⟩
theorem d_R_comeToStand_114 : gIl M_R_comeToStand 114 2 115 := Or.inr ⟨2, by decide +kernel, rfl, rfl⟩
theorem d_R_comeToStand_115 : gIl M_R_comeToStand 115 5 117 := Or.inl ⟨by decide +kernel, rfl⟩
theorem d_R_comeToStand_117 : gD M_R_comeToStand 117 (.invokevirtual 41) 3 120 := ⟨by decide +kernel, rfl⟩
theorem cs_R_comeToStand_117 : gClV M_R_comeToStand 41 6 y_R_counterOf M_R_counterOf 2 := ⟨⟨gW_c5 71 rfl rfl, gW_c1 8 rfl rfl, cd_R_counterOf, by decide +kernel, by decide +kernel⟩, rfl, gW_c5 73 rfl rfl, gW_c0 21 rfl rfl, TX5, 12, rfl⟩
theorem d_R_comeToStand_120 : gAl M_R_comeToStand 120 0 121 := Or.inr ⟨0, by decide +kernel, rfl, rfl⟩
theorem d_R_comeToStand_121 : gGf M_R_comeToStand 121 6 8 124 := ⟨28, by decide +kernel, rfl, fl_R_28 _ rfl⟩
theorem d_R_comeToStand_124 : gIl M_R_comeToStand 124 4 126 := Or.inl ⟨by decide +kernel, rfl⟩
theorem d_R_comeToStand_126 : gIl M_R_comeToStand 126 5 128 := Or.inl ⟨by decide +kernel, rfl⟩
theorem d_R_comeToStand_128 : gD M_R_comeToStand 128 (.iadd) 1 129 := ⟨by decide +kernel, rfl⟩
theorem d_R_comeToStand_129 : gD M_R_comeToStand 129 (.iaload) 1 130 := ⟨by decide +kernel, rfl⟩
theorem d_R_comeToStand_130 : gB M_R_comeToStand 130 (.if_icmp .le 13) 13 133 143 := ⟨by decide +kernel, rfl, by decide⟩
theorem d_R_comeToStand_133 : gAl M_R_comeToStand 133 0 134 := Or.inr ⟨0, by decide +kernel, rfl, rfl⟩
theorem d_R_comeToStand_134 : gIl M_R_comeToStand 134 2 135 := Or.inr ⟨2, by decide +kernel, rfl, rfl⟩
theorem d_R_comeToStand_135 : gIl M_R_comeToStand 135 5 137 := Or.inl ⟨by decide +kernel, rfl⟩
theorem d_R_comeToStand_137 : gD M_R_comeToStand 137 (.invokevirtual 41) 3 140 := ⟨by decide +kernel, rfl⟩
theorem cs_R_comeToStand_137 : gClV M_R_comeToStand 41 6 y_R_counterOf M_R_counterOf 2 := ⟨⟨gW_c5 71 rfl rfl, gW_c1 8 rfl rfl, cd_R_counterOf, by decide +kernel, by decide +kernel⟩, rfl, gW_c5 73 rfl rfl, gW_c0 21 rfl rfl, TX5, 12, rfl⟩
theorem d_R_comeToStand_140 : gB M_R_comeToStand 140 (.goto 13) 13 143 153 := ⟨by decide +kernel, rfl, by decide⟩
theorem d_R_comeToStand_143 : gAl M_R_comeToStand 143 0 144 := Or.inr ⟨0, by decide +kernel, rfl, rfl⟩
theorem d_R_comeToStand_144 : gGf M_R_comeToStand 144 6 8 147 := ⟨28, by decide +kernel, rfl, fl_R_28 _ rfl⟩
theorem d_R_comeToStand_147 : gIl M_R_comeToStand 147 4 149 := Or.inl ⟨by decide +kernel, rfl⟩
theorem d_R_comeToStand_149 : gIl M_R_comeToStand 149 5 151 := Or.inl ⟨by decide +kernel, rfl⟩
theorem d_R_comeToStand_151 : gD M_R_comeToStand 151 (.iadd) 1 152 := ⟨by decide +kernel, rfl⟩
theorem d_R_comeToStand_152 : gD M_R_comeToStand 152 (.iaload) 1 153 := ⟨by decide +kernel, rfl⟩
theorem d_R_comeToStand_153 : gD M_R_comeToStand 153 (.iastore) 1 154 := ⟨by decide +kernel, rfl⟩
theorem d_R_comeToStand_154 : gIc M_R_comeToStand 154 5 1 157 := ⟨1, by decide +kernel, by decide, rfl⟩
theorem d_R_comeToStand_157 : gB M_R_comeToStand 157 (.goto (-59)) (-59) 160 98 := ⟨by decide +kernel, rfl, by decide⟩
theorem d_R_comeToStand_160 : gD M_R_comeToStand 160 (.return_) 1 161 := ⟨by decide +kernel, rfl⟩
theorem d_R_erase_0 : gAl M_R_erase 0 0 1 := Or.inr ⟨0, by decide +kernel, rfl, rfl⟩
theorem d_R_erase_1 : gIl M_R_erase 1 1 2 := Or.inr ⟨1, by decide +kernel, rfl, rfl⟩
theorem d_R_erase_2 : gIl M_R_erase 2 2 3 := Or.inr ⟨2, by decide +kernel, rfl, rfl⟩
theorem d_R_erase_3 : gD M_R_erase 3 (.invokestatic 77) 3 6 := ⟨by decide +kernel, rfl⟩
theorem cs_R_erase_3 : gClS M_R_erase 77 y_R_isPlace M_R_isPlace 2 := ⟨⟨gW_c5 38 rfl rfl, gW_c1 8 rfl rfl, cd_R_isPlace, by decide +kernel, by decide +kernel⟩, gW_c5 39 rfl rfl⟩
theorem d_R_erase_6 : gB M_R_erase 6 (.ifCond .eq 7) 7 9 13 := ⟨by decide +kernel, rfl, by decide⟩
theorem d_R_erase_9 : gN M_R_erase 9 0 10 := Or.inl ⟨0, by decide +kernel, by decide, rfl⟩
theorem d_R_erase_10 : gB M_R_erase 10 (.goto 4) 4 13 14 := ⟨by decide +kernel, rfl, by decide⟩
theorem d_R_erase_13 : gN M_R_erase 13 1 14 := Or.inl ⟨1, by decide +kernel, by decide, rfl⟩
theorem d_R_erase_14 : gPf M_R_erase 14 6 0 .int 17 := ⟨37, by decide +kernel, rfl, RX5, TX5, 12, "FolderRoundsModel", tyX5, rfl, by decide, gW_c4 233 rfl rfl, gws_6, Or.inl rfl, tyX5_ok, nmX5, by decide +kernel, Or.inl rfl⟩
theorem d_R_erase_17 : gAl M_R_erase 17 0 18 := Or.inr ⟨0, by decide +kernel, rfl, rfl⟩
theorem d_R_erase_18 : gGf M_R_erase 18 6 0 21 := ⟨37, by decide +kernel, rfl, fl_R_37 _ rfl⟩
theorem d_R_erase_21 : gB M_R_erase 21 (.ifCond .ne 23) 23 24 44 := ⟨by decide +kernel, rfl, by decide⟩
theorem d_R_erase_24 : gAl M_R_erase 24 0 25 := Or.inr ⟨0, by decide +kernel, rfl, rfl⟩
theorem d_R_erase_25 : gAl M_R_erase 25 0 26 := Or.inr ⟨0, by decide +kernel, rfl, rfl⟩
theorem d_R_erase_26 : gIl M_R_erase 26 1 27 := Or.inr ⟨1, by decide +kernel, rfl, rfl⟩
theorem d_R_erase_27 : gIl M_R_erase 27 2 28 := Or.inr ⟨2, by decide +kernel, rfl, rfl⟩
theorem d_R_erase_28 : gN M_R_erase 28 (-1) 29 := Or.inl ⟨(-1), by decide +kernel, by decide, rfl⟩
theorem d_R_erase_29 : gN M_R_erase 29 0 30 := Or.inl ⟨0, by decide +kernel, by decide, rfl⟩
theorem d_R_erase_30 : gD M_R_erase 30 (.invokevirtual 80) 3 33 := ⟨by decide +kernel, rfl⟩
theorem cs_R_erase_30 : gClV M_R_erase 80 6 y_R_make M_R_make 4 := ⟨⟨gW_c5 44 rfl rfl, gW_c1 8 rfl rfl, cd_R_make, by decide +kernel, by decide +kernel⟩, rfl, gW_c5 46 rfl rfl, gW_c0 15 rfl rfl, TX5, 12, rfl⟩
theorem d_R_erase_33 : gB M_R_erase 33 (.ifCond .le 7) 7 36 40 := ⟨by decide +kernel, rfl, by decide⟩
theorem d_R_erase_36 : gN M_R_erase 36 2 37 := Or.inl ⟨2, by decide +kernel, by decide, rfl⟩
theorem d_R_erase_37 : gB M_R_erase 37 (.goto 4) 4 40 41 := ⟨by decide +kernel, rfl, by decide⟩
theorem d_R_erase_40 : gN M_R_erase 40 0 41 := Or.inl ⟨0, by decide +kernel, by decide, rfl⟩
theorem d_R_erase_41 : gPf M_R_erase 41 6 0 .int 44 := ⟨37, by decide +kernel, rfl, RX5, TX5, 12, "FolderRoundsModel", tyX5, rfl, by decide, gW_c4 233 rfl rfl, gws_6, Or.inl rfl, tyX5_ok, nmX5, by decide +kernel, Or.inl rfl⟩
theorem d_R_erase_44 : gD M_R_erase 44 (.return_) 1 45 := ⟨by decide +kernel, rfl⟩
theorem d_R_siblings_0 : gAl M_R_siblings 0 0 1 := Or.inr ⟨0, by decide +kernel, rfl, rfl⟩
theorem d_R_siblings_1 : gIl M_R_siblings 1 1 2 := Or.inr ⟨1, by decide +kernel, rfl, rfl⟩
theorem d_R_siblings_2 : gIl M_R_siblings 2 2 3 := Or.inr ⟨2, by decide +kernel, rfl, rfl⟩
theorem d_R_siblings_3 : gD M_R_siblings 3 (.invokestatic 77) 3 6 := ⟨by decide +kernel, rfl⟩
theorem cs_R_siblings_3 : gClS M_R_siblings 77 y_R_isPlace M_R_isPlace 2 := ⟨⟨gW_c5 38 rfl rfl, gW_c1 8 rfl rfl, cd_R_isPlace, by decide +kernel, by decide +kernel⟩, gW_c5 39 rfl rfl⟩
theorem d_R_siblings_6 : gB M_R_siblings 6 (.ifCond .eq 7) 7 9 13 := ⟨by decide +kernel, rfl, by decide⟩
theorem d_R_siblings_9 : gN M_R_siblings 9 0 10 := Or.inl ⟨0, by decide +kernel, by decide, rfl⟩
theorem d_R_siblings_10 : gB M_R_siblings 10 (.goto 4) 4 13 14 := ⟨by decide +kernel, rfl, by decide⟩
theorem d_R_siblings_13 : gN M_R_siblings 13 1 14 := Or.inl ⟨1, by decide +kernel, by decide, rfl⟩
theorem d_R_siblings_14 : gPf M_R_siblings 14 6 0 .int 17 := ⟨37, by decide +kernel, rfl, RX5, TX5, 12, "FolderRoundsModel", tyX5, rfl, by decide, gW_c4 233 rfl rfl, gws_6, Or.inl rfl, tyX5_ok, nmX5, by decide +kernel, Or.inl rfl⟩
theorem d_R_siblings_17 : gAl M_R_siblings 17 0 18 := Or.inr ⟨0, by decide +kernel, rfl, rfl⟩
theorem d_R_siblings_18 : gGf M_R_siblings 18 6 0 21 := ⟨37, by decide +kernel, rfl, fl_R_37 _ rfl⟩
theorem d_R_siblings_21 : gB M_R_siblings 21 (.ifCond .le 7) 7 24 28 := ⟨by decide +kernel, rfl, by decide⟩
theorem d_R_siblings_24 : gN M_R_siblings 24 0 25 := Or.inl ⟨0, by decide +kernel, by decide, rfl⟩
theorem d_R_siblings_25 : gB M_R_siblings 25 (.goto 10) 10 28 35 := ⟨by decide +kernel, rfl, by decide⟩
theorem d_R_siblings_28 : gAl M_R_siblings 28 0 29 := Or.inr ⟨0, by decide +kernel, rfl, rfl⟩
theorem d_R_siblings_29 : gIl M_R_siblings 29 1 30 := Or.inr ⟨1, by decide +kernel, rfl, rfl⟩
theorem d_R_siblings_30 : gIl M_R_siblings 30 2 31 := Or.inr ⟨2, by decide +kernel, rfl, rfl⟩
theorem d_R_siblings_31 : gN M_R_siblings 31 0 32 := Or.inl ⟨0, by decide +kernel, by decide, rfl⟩
theorem d_R_siblings_32 : gD M_R_siblings 32 (.invokevirtual 87) 3 35 := ⟨by decide +kernel, rfl⟩
theorem cs_R_siblings_32 : gClV M_R_siblings 87 6 y_R_count M_R_count 3 := ⟨⟨gW_c5 87 rfl rfl, gW_c1 8 rfl rfl, cd_R_count, by decide +kernel, by decide +kernel⟩, rfl, gW_c5 89 rfl rfl, gW_c0 23 rfl rfl, TX5, 12, rfl⟩
theorem d_R_siblings_35 : gD M_R_siblings 35 (.ireturn) 1 36 := ⟨by decide +kernel, rfl⟩
theorem d_R_count_0 : gN M_R_count 0 0 1 := Or.inl ⟨0, by decide +kernel, by decide, rfl⟩
theorem d_R_count_1 : gIs M_R_count 1 4 3 := Or.inl ⟨by decide +kernel, rfl⟩
theorem d_R_count_3 : gN M_R_count 3 0 4 := Or.inl ⟨0, by decide +kernel, by decide, rfl⟩
theorem d_R_count_4 : gIs M_R_count 4 5 6 := Or.inl ⟨by decide +kernel, rfl⟩
theorem d_R_count_6 : gIl M_R_count 6 5 8 := Or.inl ⟨by decide +kernel, rfl⟩
theorem d_R_count_8 : gN M_R_count 8 4 9 := Or.inl ⟨4, by decide +kernel, by decide, rfl⟩
theorem d_R_count_9 : gB M_R_count 9 (.if_icmp .ge 54) 54 12 63 := ⟨by decide +kernel, rfl, by decide⟩
theorem d_R_count_12 : gAl M_R_count 12 0 13 := Or.inr ⟨0, by decide +kernel, rfl, rfl⟩
theorem d_R_count_13 : gIl M_R_count 13 1 14 := Or.inr ⟨1, by decide +kernel, rfl, rfl⟩
theorem d_R_count_14 : gIl M_R_count 14 2 15 := Or.inr ⟨2, by decide +kernel, rfl, rfl⟩
theorem d_R_count_15 : gIl M_R_count 15 5 17 := Or.inl ⟨by decide +kernel, rfl⟩
theorem d_R_count_17 : gD M_R_count 17 (.invokevirtual 52) 3 20 := ⟨by decide +kernel, rfl⟩
theorem cs_R_count_17 : gClV M_R_count 52 6 y_R_standing M_R_standing 3 := ⟨⟨gW_c5 63 rfl rfl, gW_c1 8 rfl rfl, cd_R_standing, by decide +kernel, by decide +kernel⟩, rfl, gW_c5 65 rfl rfl, gW_c0 19 rfl rfl, TX5, 12, rfl⟩
theorem d_R_count_20 : gIs M_R_count 20 6 22 := Or.inl ⟨by decide +kernel, rfl⟩
theorem d_R_count_22 : gIl M_R_count 22 6 24 := Or.inl ⟨by decide +kernel, rfl⟩
theorem d_R_count_24 : gB M_R_count 24 (.ifCond .lt 29) 29 27 53 := ⟨by decide +kernel, rfl, by decide⟩
theorem d_R_count_27 : gAl M_R_count 27 0 28 := Or.inr ⟨0, by decide +kernel, rfl, rfl⟩
theorem d_R_count_28 : gGf M_R_count 28 6 4 31 := ⟨16, by decide +kernel, rfl, fl_R_16 _ rfl⟩
theorem d_R_count_31 : gIl M_R_count 31 6 33 := Or.inl ⟨by decide +kernel, rfl⟩
theorem d_R_count_33 : gD M_R_count 33 (.iaload) 1 34 := ⟨by decide +kernel, rfl⟩
theorem d_R_count_34 : gB M_R_count 34 (.ifCond .ge 7) 7 37 41 := ⟨by decide +kernel, rfl, by decide⟩
theorem d_R_count_37 : gN M_R_count 37 1 38 := Or.inl ⟨1, by decide +kernel, by decide, rfl⟩
theorem d_R_count_38 : gB M_R_count 38 (.goto 4) 4 41 42 := ⟨by decide +kernel, rfl, by decide⟩
theorem d_R_count_41 : gN M_R_count 41 0 42 := Or.inl ⟨0, by decide +kernel, by decide, rfl⟩
theorem d_R_count_42 : gIl M_R_count 42 3 43 := Or.inr ⟨3, by decide +kernel, rfl, rfl⟩
theorem d_R_count_43 : gB M_R_count 43 (.if_icmp .ne 10) 10 46 53 := ⟨by decide +kernel, rfl, by decide⟩
theorem d_R_count_46 : gIl M_R_count 46 4 48 := Or.inl ⟨by decide +kernel, rfl⟩
theorem d_R_count_48 : gN M_R_count 48 1 49 := Or.inl ⟨1, by decide +kernel, by decide, rfl⟩
theorem d_R_count_49 : gD M_R_count 49 (.iadd) 1 50 := ⟨by decide +kernel, rfl⟩
theorem d_R_count_50 : gB M_R_count 50 (.goto 5) 5 53 55 := ⟨by decide +kernel, rfl, by decide⟩
theorem d_R_count_53 : gIl M_R_count 53 4 55 := Or.inl ⟨by decide +kernel, rfl⟩
theorem d_R_count_55 : gIs M_R_count 55 4 57 := Or.inl ⟨by decide +kernel, rfl⟩
theorem d_R_count_57 : gIc M_R_count 57 5 1 60 := ⟨1, by decide +kernel, by decide, rfl⟩
theorem d_R_count_60 : gB M_R_count 60 (.goto (-54)) (-54) 63 6 := ⟨by decide +kernel, rfl, by decide⟩
theorem d_R_count_63 : gIl M_R_count 63 4 65 := Or.inl ⟨by decide +kernel, rfl⟩
theorem d_R_count_65 : gD M_R_count 65 (.ireturn) 1 66 := ⟨by decide +kernel, rfl⟩
theorem d_R_counter_0 : gIl M_R_counter 0 1 1 := Or.inr ⟨1, by decide +kernel, rfl, rfl⟩
theorem d_R_counter_1 : gIl M_R_counter 1 2 2 := Or.inr ⟨2, by decide +kernel, rfl, rfl⟩
theorem d_R_counter_2 : gD M_R_counter 2 (.invokestatic 77) 3 5 := ⟨by decide +kernel, rfl⟩
theorem cs_R_counter_2 : gClS M_R_counter 77 y_R_isPlace M_R_isPlace 2 := ⟨⟨gW_c5 38 rfl rfl, gW_c1 8 rfl rfl, cd_R_isPlace, by decide +kernel, by decide +kernel⟩, gW_c5 39 rfl rfl⟩
theorem d_R_counter_5 : gB M_R_counter 5 (.ifCond .eq 13) 13 8 18 := ⟨by decide +kernel, rfl, by decide⟩
theorem d_R_counter_8 : gAl M_R_counter 8 0 9 := Or.inr ⟨0, by decide +kernel, rfl, rfl⟩
theorem d_R_counter_9 : gIl M_R_counter 9 1 10 := Or.inr ⟨1, by decide +kernel, rfl, rfl⟩
theorem d_R_counter_10 : gIl M_R_counter 10 2 11 := Or.inr ⟨2, by decide +kernel, rfl, rfl⟩
theorem d_R_counter_11 : gIl M_R_counter 11 3 12 := Or.inr ⟨3, by decide +kernel, rfl, rfl⟩
theorem d_R_counter_12 : gD M_R_counter 12 (.invokevirtual 91) 3 15 := ⟨by decide +kernel, rfl⟩
theorem cs_R_counter_12 : gClV M_R_counter 91 6 y_R_sibling M_R_sibling 3 := ⟨⟨gW_c5 95 rfl rfl, gW_c1 8 rfl rfl, cd_R_sibling, by decide +kernel, by decide +kernel⟩, rfl, gW_c5 97 rfl rfl, gW_c0 24 rfl rfl, TX5, 12, rfl⟩
theorem d_R_counter_15 : gB M_R_counter 15 (.goto 4) 4 18 19 := ⟨by decide +kernel, rfl, by decide⟩
theorem d_R_counter_18 : gN M_R_counter 18 (-1) 19 := Or.inl ⟨(-1), by decide +kernel, by decide, rfl⟩
theorem d_R_counter_19 : gIs M_R_counter 19 5 21 := Or.inl ⟨by decide +kernel, rfl⟩
theorem d_R_counter_21 : gAl M_R_counter 21 0 22 := Or.inr ⟨0, by decide +kernel, rfl, rfl⟩
theorem d_R_counter_22 : gIl M_R_counter 22 5 24 := Or.inl ⟨by decide +kernel, rfl⟩
theorem d_R_counter_24 : gB M_R_counter 24 (.ifCond .ge 7) 7 27 31 := ⟨by decide +kernel, rfl, by decide⟩
theorem d_R_counter_27 : gN M_R_counter 27 1 28 := Or.inl ⟨1, by decide +kernel, by decide, rfl⟩
theorem d_R_counter_28 : gB M_R_counter 28 (.goto 18) 18 31 46 := ⟨by decide +kernel, rfl, by decide⟩
theorem d_R_counter_31 : gIl M_R_counter 31 4 33 := Or.inl ⟨by decide +kernel, rfl⟩
theorem d_R_counter_33 : gN M_R_counter 33 0 34 := Or.inl ⟨0, by decide +kernel, by decide, rfl⟩
theorem d_R_counter_34 : gN M_R_counter 34 3 35 := Or.inl ⟨3, by decide +kernel, by decide, rfl⟩
theorem d_R_counter_35 : gD M_R_counter 35 (.invokestatic 73) 3 38 := ⟨by decide +kernel, rfl⟩
theorem cs_R_counter_35 : gClS M_R_counter 73 y_R_within M_R_within 3 := ⟨⟨gW_c5 41 rfl rfl, gW_c1 8 rfl rfl, cd_R_within, by decide +kernel, by decide +kernel⟩, gW_c5 42 rfl rfl⟩
theorem d_R_counter_38 : gB M_R_counter 38 (.ifCond .ne 7) 7 41 45 := ⟨by decide +kernel, rfl, by decide⟩
theorem d_R_counter_41 : gN M_R_counter 41 2 42 := Or.inl ⟨2, by decide +kernel, by decide, rfl⟩
theorem d_R_counter_42 : gB M_R_counter 42 (.goto 4) 4 45 46 := ⟨by decide +kernel, rfl, by decide⟩
theorem d_R_counter_45 : gN M_R_counter 45 0 46 := Or.inl ⟨0, by decide +kernel, by decide, rfl⟩
theorem d_R_counter_46 : gPf M_R_counter 46 6 0 .int 49 := ⟨37, by decide +kernel, rfl, RX5, TX5, 12, "FolderRoundsModel", tyX5, rfl, by decide, gW_c4 233 rfl rfl, gws_6, Or.inl rfl, tyX5_ok, nmX5, by decide +kernel, Or.inl rfl⟩
theorem d_R_counter_49 : gAl M_R_counter 49 0 50 := Or.inr ⟨0, by decide +kernel, rfl, rfl⟩
theorem d_R_counter_50 : gGf M_R_counter 50 6 0 53 := ⟨37, by decide +kernel, rfl, fl_R_37 _ rfl⟩
theorem d_R_counter_53 : gB M_R_counter 53 (.ifCond .le 7) 7 56 60 := ⟨by decide +kernel, rfl, by decide⟩
theorem d_R_counter_56 : gN M_R_counter 56 0 57 := Or.inl ⟨0, by decide +kernel, by decide, rfl⟩
theorem d_R_counter_57 : gB M_R_counter 57 (.goto 11) 11 60 68 := ⟨by decide +kernel, rfl, by decide⟩
theorem d_R_counter_60 : gAl M_R_counter 60 0 61 := Or.inr ⟨0, by decide +kernel, rfl, rfl⟩
theorem d_R_counter_61 : gIl M_R_counter 61 5 63 := Or.inl ⟨by decide +kernel, rfl⟩
theorem d_R_counter_63 : gIl M_R_counter 63 4 65 := Or.inl ⟨by decide +kernel, rfl⟩
theorem d_R_counter_65 : gD M_R_counter 65 (.invokevirtual 41) 3 68 := ⟨by decide +kernel, rfl⟩
theorem cs_R_counter_65 : gClV M_R_counter 41 6 y_R_counterOf M_R_counterOf 2 := ⟨⟨gW_c5 71 rfl rfl, gW_c1 8 rfl rfl, cd_R_counterOf, by decide +kernel, by decide +kernel⟩, rfl, gW_c5 73 rfl rfl, gW_c0 21 rfl rfl, TX5, 12, rfl⟩
theorem d_R_counter_68 : gD M_R_counter 68 (.ireturn) 1 69 := ⟨by decide +kernel, rfl⟩
theorem d_R_sibling_0 : gN M_R_sibling 0 0 1 := Or.inl ⟨0, by decide +kernel, by decide, rfl⟩
theorem d_R_sibling_1 : gIs M_R_sibling 1 4 3 := Or.inl ⟨by decide +kernel, rfl⟩
theorem d_R_sibling_3 : gIl M_R_sibling 3 4 5 := Or.inl ⟨by decide +kernel, rfl⟩
theorem d_R_sibling_5 : gN M_R_sibling 5 4 6 := Or.inl ⟨4, by decide +kernel, by decide, rfl⟩
theorem d_R_sibling_6 : gB M_R_sibling 6 (.if_icmp .ge 113) 113 9 119 := ⟨by decide +kernel, rfl, by decide⟩
theorem d_R_sibling_9 : gAl M_R_sibling 9 0 10 := Or.inr ⟨0, by decide +kernel, rfl, rfl⟩
theorem d_R_sibling_10 : gIl M_R_sibling 10 1 11 := Or.inr ⟨1, by decide +kernel, rfl, rfl⟩
theorem d_R_sibling_11 : gIl M_R_sibling 11 2 12 := Or.inr ⟨2, by decide +kernel, rfl, rfl⟩
theorem d_R_sibling_12 : gIl M_R_sibling 12 4 14 := Or.inl ⟨by decide +kernel, rfl⟩
theorem d_R_sibling_14 : gD M_R_sibling 14 (.invokevirtual 52) 3 17 := ⟨by decide +kernel, rfl⟩
theorem cs_R_sibling_14 : gClV M_R_sibling 52 6 y_R_standing M_R_standing 3 := ⟨⟨gW_c5 63 rfl rfl, gW_c1 8 rfl rfl, cd_R_standing, by decide +kernel, by decide +kernel⟩, rfl, gW_c5 65 rfl rfl, gW_c0 19 rfl rfl, TX5, 12, rfl⟩
theorem d_R_sibling_17 : gIs M_R_sibling 17 5 19 := Or.inl ⟨by decide +kernel, rfl⟩
theorem d_R_sibling_19 : gN M_R_sibling 19 0 20 := Or.inl ⟨0, by decide +kernel, by decide, rfl⟩
theorem d_R_sibling_20 : gIs M_R_sibling 20 6 22 := Or.inl ⟨by decide +kernel, rfl⟩
theorem d_R_sibling_22 : gN M_R_sibling 22 0 23 := Or.inl ⟨0, by decide +kernel, by decide, rfl⟩
theorem d_R_sibling_23 : gIs M_R_sibling 23 7 25 := Or.inl ⟨by decide +kernel, rfl⟩
theorem d_R_sibling_25 : gIl M_R_sibling 25 7 27 := Or.inl ⟨by decide +kernel, rfl⟩
theorem d_R_sibling_27 : gN M_R_sibling 27 4 28 := Or.inl ⟨4, by decide +kernel, by decide, rfl⟩
theorem d_R_sibling_28 : gB M_R_sibling 28 (.if_icmp .ge 61) 61 31 89 := ⟨by decide +kernel, rfl, by decide⟩
theorem d_R_sibling_31 : gAl M_R_sibling 31 0 32 := Or.inr ⟨0, by decide +kernel, rfl, rfl⟩
theorem d_R_sibling_32 : gIl M_R_sibling 32 1 33 := Or.inr ⟨1, by decide +kernel, rfl, rfl⟩
theorem d_R_sibling_33 : gIl M_R_sibling 33 2 34 := Or.inr ⟨2, by decide +kernel, rfl, rfl⟩
theorem d_R_sibling_34 : gIl M_R_sibling 34 7 36 := Or.inl ⟨by decide +kernel, rfl⟩
theorem d_R_sibling_36 : gD M_R_sibling 36 (.invokevirtual 52) 3 39 := ⟨by decide +kernel, rfl⟩
theorem cs_R_sibling_36 : gClV M_R_sibling 52 6 y_R_standing M_R_standing 3 := ⟨⟨gW_c5 63 rfl rfl, gW_c1 8 rfl rfl, cd_R_standing, by decide +kernel, by decide +kernel⟩, rfl, gW_c5 65 rfl rfl, gW_c0 19 rfl rfl, TX5, 12, rfl⟩
theorem d_R_sibling_39 : gIs M_R_sibling 39 8 41 := Or.inl ⟨by decide +kernel, rfl⟩
theorem d_R_sibling_41 : gIl M_R_sibling 41 5 43 := Or.inl ⟨by decide +kernel, rfl⟩
theorem d_R_sibling_43 : gB M_R_sibling 43 (.ifCond .lt 36) 36 46 79 := ⟨by decide +kernel, rfl, by decide⟩
theorem d_R_sibling_46 : gIl M_R_sibling 46 8 48 := Or.inl ⟨by decide +kernel, rfl⟩
theorem d_R_sibling_48 : gB M_R_sibling 48 (.ifCond .lt 31) 31 51 79 := ⟨by decide +kernel, rfl, by decide⟩
theorem d_R_sibling_51 : gAl M_R_sibling 51 0 52 := Or.inr ⟨0, by decide +kernel, rfl, rfl⟩
theorem d_R_sibling_52 : gGf M_R_sibling 52 6 4 55 := ⟨16, by decide +kernel, rfl, fl_R_16 _ rfl⟩
theorem d_R_sibling_55 : gIl M_R_sibling 55 8 57 := Or.inl ⟨by decide +kernel, rfl⟩
theorem d_R_sibling_57 : gD M_R_sibling 57 (.iaload) 1 58 := ⟨by decide +kernel, rfl⟩
theorem d_R_sibling_58 : gB M_R_sibling 58 (.ifCond .lt 21) 21 61 79 := ⟨by decide +kernel, rfl, by decide⟩
theorem d_R_sibling_61 : gAl M_R_sibling 61 0 62 := Or.inr ⟨0, by decide +kernel, rfl, rfl⟩
theorem d_R_sibling_62 : gIl M_R_sibling 62 8 64 := Or.inl ⟨by decide +kernel, rfl⟩
theorem d_R_sibling_64 : gIl M_R_sibling 64 5 66 := Or.inl ⟨by decide +kernel, rfl⟩
theorem d_R_sibling_66 : gD M_R_sibling 66 (.invokevirtual 84) 3 69 := ⟨by decide +kernel, rfl⟩
theorem cs_R_sibling_66 : gClV M_R_sibling 84 6 y_R_compare M_R_compare 2 := ⟨⟨gW_c5 99 rfl rfl, gW_c1 8 rfl rfl, cd_R_compare, by decide +kernel, by decide +kernel⟩, rfl, gW_c5 101 rfl rfl, gW_c0 25 rfl rfl, TX5, 12, rfl⟩
theorem d_R_sibling_69 : gB M_R_sibling 69 (.ifCond .ge 10) 10 72 79 := ⟨by decide +kernel, rfl, by decide⟩
theorem d_R_sibling_72 : gIl M_R_sibling 72 6 74 := Or.inl ⟨by decide +kernel, rfl⟩
theorem d_R_sibling_74 : gN M_R_sibling 74 1 75 := Or.inl ⟨1, by decide +kernel, by decide, rfl⟩
theorem d_R_sibling_75 : gD M_R_sibling 75 (.iadd) 1 76 := ⟨by decide +kernel, rfl⟩
theorem d_R_sibling_76 : gB M_R_sibling 76 (.goto 5) 5 79 81 := ⟨by decide +kernel, rfl, by decide⟩
theorem d_R_sibling_79 : gIl M_R_sibling 79 6 81 := Or.inl ⟨by decide +kernel, rfl⟩
theorem d_R_sibling_81 : gIs M_R_sibling 81 6 83 := Or.inl ⟨by decide +kernel, rfl⟩
theorem d_R_sibling_83 : gIc M_R_sibling 83 7 1 86 := ⟨1, by decide +kernel, by decide, rfl⟩
theorem d_R_sibling_86 : gB M_R_sibling 86 (.goto (-61)) (-61) 89 25 := ⟨by decide +kernel, rfl, by decide⟩
theorem d_R_sibling_89 : gIl M_R_sibling 89 5 91 := Or.inl ⟨by decide +kernel, rfl⟩
theorem d_R_sibling_91 : gB M_R_sibling 91 (.ifCond .lt 22) 22 94 113 := ⟨by decide +kernel, rfl, by decide⟩
theorem d_R_sibling_94 : gAl M_R_sibling 94 0 95 := Or.inr ⟨0, by decide +kernel, rfl, rfl⟩
theorem d_R_sibling_95 : gGf M_R_sibling 95 6 4 98 := ⟨16, by decide +kernel, rfl, fl_R_16 _ rfl⟩
theorem d_R_sibling_98 : gIl M_R_sibling 98 5 100 := Or.inl ⟨by decide +kernel, rfl⟩
theorem d_R_sibling_100 : gD M_R_sibling 100 (.iaload) 1 101 := ⟨by decide +kernel, rfl⟩
theorem d_R_sibling_101 : gB M_R_sibling 101 (.ifCond .lt 12) 12 104 113 := ⟨by decide +kernel, rfl, by decide⟩
theorem d_R_sibling_104 : gIl M_R_sibling 104 6 106 := Or.inl ⟨by decide +kernel, rfl⟩
theorem d_R_sibling_106 : gIl M_R_sibling 106 3 107 := Or.inr ⟨3, by decide +kernel, rfl, rfl⟩
theorem d_R_sibling_107 : gB M_R_sibling 107 (.if_icmp .ne 6) 6 110 113 := ⟨by decide +kernel, rfl, by decide⟩
theorem d_R_sibling_110 : gIl M_R_sibling 110 5 112 := Or.inl ⟨by decide +kernel, rfl⟩
theorem d_R_sibling_112 : gD M_R_sibling 112 (.ireturn) 1 113 := ⟨by decide +kernel, rfl⟩
theorem d_R_sibling_113 : gIc M_R_sibling 113 4 1 116 := ⟨1, by decide +kernel, by decide, rfl⟩
theorem d_R_sibling_116 : gB M_R_sibling 116 (.goto (-113)) (-113) 119 3 := ⟨by decide +kernel, rfl, by decide⟩
theorem d_R_sibling_119 : gN M_R_sibling 119 (-1) 120 := Or.inl ⟨(-1), by decide +kernel, by decide, rfl⟩
theorem d_R_sibling_120 : gD M_R_sibling 120 (.ireturn) 1 121 := ⟨by decide +kernel, rfl⟩
theorem d_R_compare_0 : gN M_R_compare 0 0 1 := Or.inl ⟨0, by decide +kernel, by decide, rfl⟩
theorem d_R_compare_1 : gIs M_R_compare 1 3 2 := Or.inr ⟨3, by decide +kernel, rfl, rfl⟩
theorem d_R_compare_2 : gIl M_R_compare 2 3 3 := Or.inr ⟨3, by decide +kernel, rfl, rfl⟩
theorem d_R_compare_3 : gN M_R_compare 3 4 4 := Or.inl ⟨4, by decide +kernel, by decide, rfl⟩
theorem d_R_compare_4 : gB M_R_compare 4 (.if_icmp .ge 32) 32 7 36 := ⟨by decide +kernel, rfl, by decide⟩
theorem d_R_compare_7 : gAl M_R_compare 7 0 8 := Or.inr ⟨0, by decide +kernel, rfl, rfl⟩
theorem d_R_compare_8 : gIl M_R_compare 8 1 9 := Or.inr ⟨1, by decide +kernel, rfl, rfl⟩
theorem d_R_compare_9 : gIl M_R_compare 9 3 10 := Or.inr ⟨3, by decide +kernel, rfl, rfl⟩
theorem d_R_compare_10 : gD M_R_compare 10 (.invokevirtual 41) 3 13 := ⟨by decide +kernel, rfl⟩
theorem cs_R_compare_10 : gClV M_R_compare 41 6 y_R_counterOf M_R_counterOf 2 := ⟨⟨gW_c5 71 rfl rfl, gW_c1 8 rfl rfl, cd_R_counterOf, by decide +kernel, by decide +kernel⟩, rfl, gW_c5 73 rfl rfl, gW_c0 21 rfl rfl, TX5, 12, rfl⟩
theorem d_R_compare_13 : gAl M_R_compare 13 0 14 := Or.inr ⟨0, by decide +kernel, rfl, rfl⟩
theorem d_R_compare_14 : gIl M_R_compare 14 2 15 := Or.inr ⟨2, by decide +kernel, rfl, rfl⟩
theorem d_R_compare_15 : gIl M_R_compare 15 3 16 := Or.inr ⟨3, by decide +kernel, rfl, rfl⟩
theorem d_R_compare_16 : gD M_R_compare 16 (.invokevirtual 41) 3 19 := ⟨by decide +kernel, rfl⟩
theorem cs_R_compare_16 : gClV M_R_compare 41 6 y_R_counterOf M_R_counterOf 2 := ⟨⟨gW_c5 71 rfl rfl, gW_c1 8 rfl rfl, cd_R_counterOf, by decide +kernel, by decide +kernel⟩, rfl, gW_c5 73 rfl rfl, gW_c0 21 rfl rfl, TX5, 12, rfl⟩
theorem d_R_compare_19 : gD M_R_compare 19 (.isub) 1 20 := ⟨by decide +kernel, rfl⟩
theorem d_R_compare_20 : gIs M_R_compare 20 4 22 := Or.inl ⟨by decide +kernel, rfl⟩
theorem d_R_compare_22 : gIl M_R_compare 22 4 24 := Or.inl ⟨by decide +kernel, rfl⟩
theorem d_R_compare_24 : gB M_R_compare 24 (.ifCond .eq 6) 6 27 30 := ⟨by decide +kernel, rfl, by decide⟩
theorem d_R_compare_27 : gIl M_R_compare 27 4 29 := Or.inl ⟨by decide +kernel, rfl⟩
theorem d_R_compare_29 : gD M_R_compare 29 (.ireturn) 1 30 := ⟨by decide +kernel, rfl⟩
theorem d_R_compare_30 : gIc M_R_compare 30 3 1 33 := ⟨1, by decide +kernel, by decide, rfl⟩
theorem d_R_compare_33 : gB M_R_compare 33 (.goto (-31)) (-31) 36 2 := ⟨by decide +kernel, rfl, by decide⟩
theorem d_R_compare_36 : gN M_R_compare 36 0 37 := Or.inl ⟨0, by decide +kernel, by decide, rfl⟩
theorem d_R_compare_37 : gD M_R_compare 37 (.ireturn) 1 38 := ⟨by decide +kernel, rfl⟩
theorem d_R_byteOf_0 : gIl M_R_byteOf 0 1 1 := Or.inr ⟨1, by decide +kernel, rfl, rfl⟩
theorem d_R_byteOf_1 : gIl M_R_byteOf 1 2 2 := Or.inr ⟨2, by decide +kernel, rfl, rfl⟩
theorem d_R_byteOf_2 : gD M_R_byteOf 2 (.invokestatic 77) 3 5 := ⟨by decide +kernel, rfl⟩
theorem cs_R_byteOf_2 : gClS M_R_byteOf 77 y_R_isPlace M_R_isPlace 2 := ⟨⟨gW_c5 38 rfl rfl, gW_c1 8 rfl rfl, cd_R_isPlace, by decide +kernel, by decide +kernel⟩, gW_c5 39 rfl rfl⟩
theorem d_R_byteOf_5 : gB M_R_byteOf 5 (.ifCond .eq 13) 13 8 18 := ⟨by decide +kernel, rfl, by decide⟩
theorem d_R_byteOf_8 : gAl M_R_byteOf 8 0 9 := Or.inr ⟨0, by decide +kernel, rfl, rfl⟩
theorem d_R_byteOf_9 : gIl M_R_byteOf 9 1 10 := Or.inr ⟨1, by decide +kernel, rfl, rfl⟩
theorem d_R_byteOf_10 : gIl M_R_byteOf 10 2 11 := Or.inr ⟨2, by decide +kernel, rfl, rfl⟩
theorem d_R_byteOf_11 : gIl M_R_byteOf 11 3 12 := Or.inr ⟨3, by decide +kernel, rfl, rfl⟩
theorem d_R_byteOf_12 : gD M_R_byteOf 12 (.invokevirtual 91) 3 15 := ⟨by decide +kernel, rfl⟩
theorem cs_R_byteOf_12 : gClV M_R_byteOf 91 6 y_R_sibling M_R_sibling 3 := ⟨⟨gW_c5 95 rfl rfl, gW_c1 8 rfl rfl, cd_R_sibling, by decide +kernel, by decide +kernel⟩, rfl, gW_c5 97 rfl rfl, gW_c0 24 rfl rfl, TX5, 12, rfl⟩
theorem d_R_byteOf_15 : gB M_R_byteOf 15 (.goto 4) 4 18 19 := ⟨by decide +kernel, rfl, by decide⟩
theorem d_R_byteOf_18 : gN M_R_byteOf 18 (-1) 19 := Or.inl ⟨(-1), by decide +kernel, by decide, rfl⟩
theorem d_R_byteOf_19 : gIs M_R_byteOf 19 5 21 := Or.inl ⟨by decide +kernel, rfl⟩
theorem d_R_byteOf_21 : gAl M_R_byteOf 21 0 22 := Or.inr ⟨0, by decide +kernel, rfl, rfl⟩
theorem d_R_byteOf_22 : gIl M_R_byteOf 22 5 24 := Or.inl ⟨by decide +kernel, rfl⟩
theorem d_R_byteOf_24 : gB M_R_byteOf 24 (.ifCond .ge 7) 7 27 31 := ⟨by decide +kernel, rfl, by decide⟩
theorem d_R_byteOf_27 : gN M_R_byteOf 27 1 28 := Or.inl ⟨1, by decide +kernel, by decide, rfl⟩
theorem d_R_byteOf_28 : gB M_R_byteOf 28 (.goto 26) 26 31 54 := ⟨by decide +kernel, rfl, by decide⟩
theorem d_R_byteOf_31 : gIl M_R_byteOf 31 4 33 := Or.inl ⟨by decide +kernel, rfl⟩
theorem d_R_byteOf_33 : gN M_R_byteOf 33 (-1) 34 := Or.inl ⟨(-1), by decide +kernel, by decide, rfl⟩
theorem d_R_byteOf_34 : gB M_R_byteOf 34 (.if_icmp .lt 15) 15 37 49 := ⟨by decide +kernel, rfl, by decide⟩
theorem d_R_byteOf_37 : gIl M_R_byteOf 37 4 39 := Or.inl ⟨by decide +kernel, rfl⟩
theorem d_R_byteOf_39 : gAl M_R_byteOf 39 0 40 := Or.inr ⟨0, by decide +kernel, rfl, rfl⟩
theorem d_R_byteOf_40 : gGf M_R_byteOf 40 6 4 43 := ⟨16, by decide +kernel, rfl, fl_R_16 _ rfl⟩
theorem d_R_byteOf_43 : gIl M_R_byteOf 43 5 45 := Or.inl ⟨by decide +kernel, rfl⟩
theorem d_R_byteOf_45 : gD M_R_byteOf 45 (.iaload) 1 46 := ⟨by decide +kernel, rfl⟩
theorem d_R_byteOf_46 : gB M_R_byteOf 46 (.if_icmp .lt 7) 7 49 53 := ⟨by decide +kernel, rfl, by decide⟩
theorem d_R_byteOf_49 : gN M_R_byteOf 49 2 50 := Or.inl ⟨2, by decide +kernel, by decide, rfl⟩
theorem d_R_byteOf_50 : gB M_R_byteOf 50 (.goto 4) 4 53 54 := ⟨by decide +kernel, rfl, by decide⟩
theorem d_R_byteOf_53 : gN M_R_byteOf 53 0 54 := Or.inl ⟨0, by decide +kernel, by decide, rfl⟩
theorem d_R_byteOf_54 : gPf M_R_byteOf 54 6 0 .int 57 := ⟨37, by decide +kernel, rfl, RX5, TX5, 12, "FolderRoundsModel", tyX5, rfl, by decide, gW_c4 233 rfl rfl, gws_6, Or.inl rfl, tyX5_ok, nmX5, by decide +kernel, Or.inl rfl⟩
theorem d_R_byteOf_57 : gAl M_R_byteOf 57 0 58 := Or.inr ⟨0, by decide +kernel, rfl, rfl⟩
theorem d_R_byteOf_58 : gGf M_R_byteOf 58 6 0 61 := ⟨37, by decide +kernel, rfl, fl_R_37 _ rfl⟩
theorem d_R_byteOf_61 : gB M_R_byteOf 61 (.ifCond .le 5) 5 64 66 := ⟨by decide +kernel, rfl, by decide⟩
theorem d_R_byteOf_64 : gN M_R_byteOf 64 0 65 := Or.inl ⟨0, by decide +kernel, by decide, rfl⟩
theorem d_R_byteOf_65 : gD M_R_byteOf 65 (.ireturn) 1 66 := ⟨by decide +kernel, rfl⟩
theorem d_R_byteOf_66 : gIl M_R_byteOf 66 4 68 := Or.inl ⟨by decide +kernel, rfl⟩
theorem d_R_byteOf_68 : gB M_R_byteOf 68 (.ifCond .ge 13) 13 71 81 := ⟨by decide +kernel, rfl, by decide⟩
theorem d_R_byteOf_71 : gAl M_R_byteOf 71 0 72 := Or.inr ⟨0, by decide +kernel, rfl, rfl⟩
theorem d_R_byteOf_72 : gGf M_R_byteOf 72 6 4 75 := ⟨16, by decide +kernel, rfl, fl_R_16 _ rfl⟩
theorem d_R_byteOf_75 : gIl M_R_byteOf 75 5 77 := Or.inl ⟨by decide +kernel, rfl⟩
theorem d_R_byteOf_77 : gD M_R_byteOf 77 (.iaload) 1 78 := ⟨by decide +kernel, rfl⟩
theorem d_R_byteOf_78 : gB M_R_byteOf 78 (.goto 17) 17 81 95 := ⟨by decide +kernel, rfl, by decide⟩
theorem d_R_byteOf_81 : gAl M_R_byteOf 81 0 82 := Or.inr ⟨0, by decide +kernel, rfl, rfl⟩
theorem d_R_byteOf_82 : gGf M_R_byteOf 82 6 5 85 := ⟨19, by decide +kernel, rfl, fl_R_19 _ rfl⟩
theorem d_R_byteOf_85 : gIl M_R_byteOf 85 5 87 := Or.inl ⟨by decide +kernel, rfl⟩
theorem d_R_byteOf_87 : gD M_R_byteOf 87 (.iaload) 1 88 := ⟨by decide +kernel, rfl⟩
theorem d_R_byteOf_88 : gIl M_R_byteOf 88 4 90 := Or.inl ⟨by decide +kernel, rfl⟩
theorem d_R_byteOf_90 : gD M_R_byteOf 90 (.iadd) 1 91 := ⟨by decide +kernel, rfl⟩
theorem d_R_byteOf_91 : gN M_R_byteOf 91 256 94 := Or.inr (Or.inr (Or.inl ⟨256, by decide +kernel, by decide, rfl⟩))
theorem d_R_byteOf_94 : gD M_R_byteOf 94 (.irem) 1 95 := ⟨by decide +kernel, rfl⟩
theorem d_R_byteOf_95 : gD M_R_byteOf 95 (.ireturn) 1 96 := ⟨by decide +kernel, rfl⟩
end
section
/-! ===== decode rows ===== -/
theorem d_R_visit_0 : gAl M_R_visit 0 0 1 := Or.inr ⟨0, by decide +kernel, rfl, rfl⟩
theorem d_R_visit_1 : gIl M_R_visit 1 1 2 := Or.inr ⟨1, by decide +kernel, rfl, rfl⟩
theorem d_R_visit_2 : gN M_R_visit 2 0 3 := Or.inl ⟨0, by decide +kernel, by decide, rfl⟩
theorem d_R_visit_3 : gN M_R_visit 3 2 4 := Or.inl ⟨2, by decide +kernel, by decide, rfl⟩
theorem d_R_visit_4 : gD M_R_visit 4 (.invokestatic 73) 3 7 := ⟨by decide +kernel, rfl⟩
theorem cs_R_visit_4 : gClS M_R_visit 73 y_R_within M_R_within 3 := ⟨⟨gW_c5 41 rfl rfl, gW_c1 8 rfl rfl, cd_R_within, by decide +kernel, by decide +kernel⟩, gW_c5 42 rfl rfl⟩
theorem d_R_visit_7 : gB M_R_visit 7 (.ifCond .eq 12) 12 10 19 := ⟨by decide +kernel, rfl, by decide⟩
theorem d_R_visit_10 : gIl M_R_visit 10 2 11 := Or.inr ⟨2, by decide +kernel, rfl, rfl⟩
theorem d_R_visit_11 : gN M_R_visit 11 0 12 := Or.inl ⟨0, by decide +kernel, by decide, rfl⟩
theorem d_R_visit_12 : gN M_R_visit 12 3 13 := Or.inl ⟨3, by decide +kernel, by decide, rfl⟩
theorem d_R_visit_13 : gD M_R_visit 13 (.invokestatic 73) 3 16 := ⟨by decide +kernel, rfl⟩
theorem cs_R_visit_13 : gClS M_R_visit 73 y_R_within M_R_within 3 := ⟨⟨gW_c5 41 rfl rfl, gW_c1 8 rfl rfl, cd_R_within, by decide +kernel, by decide +kernel⟩, gW_c5 42 rfl rfl⟩
theorem d_R_visit_16 : gB M_R_visit 16 (.ifCond .ne 7) 7 19 23 := ⟨by decide +kernel, rfl, by decide⟩
theorem d_R_visit_19 : gN M_R_visit 19 1 20 := Or.inl ⟨1, by decide +kernel, by decide, rfl⟩
theorem d_R_visit_20 : gB M_R_visit 20 (.goto 4) 4 23 24 := ⟨by decide +kernel, rfl, by decide⟩
theorem d_R_visit_23 : gN M_R_visit 23 0 24 := Or.inl ⟨0, by decide +kernel, by decide, rfl⟩
theorem d_R_visit_24 : gPf M_R_visit 24 6 0 .int 27 := ⟨37, by decide +kernel, rfl, RX5, TX5, 12, "FolderRoundsModel", tyX5, rfl, by decide, gW_c4 233 rfl rfl, gws_6, Or.inl rfl, tyX5_ok, nmX5, by decide +kernel, Or.inl rfl⟩
theorem d_R_visit_27 : gAl M_R_visit 27 0 28 := Or.inr ⟨0, by decide +kernel, rfl, rfl⟩
theorem d_R_visit_28 : gGf M_R_visit 28 6 0 31 := ⟨37, by decide +kernel, rfl, fl_R_37 _ rfl⟩
theorem d_R_visit_31 : gB M_R_visit 31 (.ifCond .le 7) 7 34 38 := ⟨by decide +kernel, rfl, by decide⟩
theorem d_R_visit_34 : gN M_R_visit 34 0 35 := Or.inl ⟨0, by decide +kernel, by decide, rfl⟩
theorem d_R_visit_35 : gB M_R_visit 35 (.goto 12) 12 38 47 := ⟨by decide +kernel, rfl, by decide⟩
theorem d_R_visit_38 : gAl M_R_visit 38 0 39 := Or.inr ⟨0, by decide +kernel, rfl, rfl⟩
theorem d_R_visit_39 : gIl M_R_visit 39 1 40 := Or.inr ⟨1, by decide +kernel, rfl, rfl⟩
theorem d_R_visit_40 : gIl M_R_visit 40 2 41 := Or.inr ⟨2, by decide +kernel, rfl, rfl⟩
theorem d_R_visit_41 : gIl M_R_visit 41 3 42 := Or.inr ⟨3, by decide +kernel, rfl, rfl⟩
theorem d_R_visit_42 : gN M_R_visit 42 1000000 44 := Or.inr (Or.inr (Or.inr ⟨125, by decide +kernel, gW_c5 111 rfl rfl, rfl⟩))
theorem d_R_visit_44 : gD M_R_visit 44 (.invokevirtual 126) 3 47 := ⟨by decide +kernel, rfl⟩
theorem cs_R_visit_44 : gClV M_R_visit 126 6 y_R_visitUpTo M_R_visitUpTo 4 := ⟨⟨gW_c5 112 rfl rfl, gW_c1 8 rfl rfl, cd_R_visitUpTo, by decide +kernel, by decide +kernel⟩, rfl, gW_c5 114 rfl rfl, gW_c0 26 rfl rfl, TX5, 12, rfl⟩
theorem d_R_visit_47 : gD M_R_visit 47 (.ireturn) 1 48 := ⟨by decide +kernel, rfl⟩
theorem d_R_visitUpTo_0 : gAl M_R_visitUpTo 0 0 1 := Or.inr ⟨0, by decide +kernel, rfl, rfl⟩
theorem d_R_visitUpTo_1 : gIl M_R_visitUpTo 1 1 2 := Or.inr ⟨1, by decide +kernel, rfl, rfl⟩
theorem d_R_visitUpTo_2 : gIl M_R_visitUpTo 2 2 3 := Or.inr ⟨2, by decide +kernel, rfl, rfl⟩
theorem d_R_visitUpTo_3 : gIl M_R_visitUpTo 3 4 5 := Or.inl ⟨by decide +kernel, rfl⟩
theorem d_R_visitUpTo_5 : gD M_R_visitUpTo 5 (.invokevirtual 109) 3 8 := ⟨by decide +kernel, rfl⟩
theorem cs_R_visitUpTo_5 : gClV M_R_visitUpTo 109 6 y_R_unload M_R_unload 3 := ⟨⟨gW_c5 116 rfl rfl, gW_c1 8 rfl rfl, cd_R_unload, by decide +kernel, by decide +kernel⟩, rfl, gW_c5 118 rfl rfl, gW_c0 27 rfl rfl, TX5, 12, rfl⟩
theorem d_R_visitUpTo_8 : gIs M_R_visitUpTo 8 5 10 := Or.inl ⟨by decide +kernel, rfl⟩
theorem d_R_visitUpTo_10 : gIl M_R_visitUpTo 10 5 12 := Or.inl ⟨by decide +kernel, rfl⟩
theorem d_R_visitUpTo_12 : gB M_R_visitUpTo 12 (.ifCond .ge 5) 5 15 17 := ⟨by decide +kernel, rfl, by decide⟩
theorem d_R_visitUpTo_15 : gN M_R_visitUpTo 15 0 16 := Or.inl ⟨0, by decide +kernel, by decide, rfl⟩
theorem d_R_visitUpTo_16 : gD M_R_visitUpTo 16 (.ireturn) 1 17 := ⟨by decide +kernel, rfl⟩
theorem d_R_visitUpTo_17 : gAl M_R_visitUpTo 17 0 18 := Or.inr ⟨0, by decide +kernel, rfl, rfl⟩
theorem d_R_visitUpTo_18 : gIl M_R_visitUpTo 18 1 19 := Or.inr ⟨1, by decide +kernel, rfl, rfl⟩
theorem d_R_visitUpTo_19 : gIl M_R_visitUpTo 19 2 20 := Or.inr ⟨2, by decide +kernel, rfl, rfl⟩
theorem d_R_visitUpTo_20 : gD M_R_visitUpTo 20 (.invokevirtual 112) 3 23 := ⟨by decide +kernel, rfl⟩
theorem cs_R_visitUpTo_20 : gClV M_R_visitUpTo 112 6 y_R_learn M_R_learn 2 := ⟨⟨gW_c5 124 rfl rfl, gW_c1 8 rfl rfl, cd_R_learn, by decide +kernel, by decide +kernel⟩, rfl, gW_c5 126 rfl rfl, gW_c0 29 rfl rfl, TX5, 12, rfl⟩
theorem d_R_visitUpTo_23 : gAl M_R_visitUpTo 23 0 24 := Or.inr ⟨0, by decide +kernel, rfl, rfl⟩
theorem d_R_visitUpTo_24 : gIl M_R_visitUpTo 24 2 25 := Or.inr ⟨2, by decide +kernel, rfl, rfl⟩
theorem d_R_visitUpTo_25 : gD M_R_visitUpTo 25 (.invokevirtual 115) 3 28 := ⟨by decide +kernel, rfl⟩
theorem cs_R_visitUpTo_25 : gClV M_R_visitUpTo 115 6 y_R_dropMarks M_R_dropMarks 1 := ⟨⟨gW_c5 128 rfl rfl, gW_c1 8 rfl rfl, cd_R_dropMarks, by decide +kernel, by decide +kernel⟩, rfl, gW_c5 130 rfl rfl, gW_c0 30 rfl rfl, TX5, 12, rfl⟩
theorem d_R_visitUpTo_28 : gN M_R_visitUpTo 28 0 29 := Or.inl ⟨0, by decide +kernel, by decide, rfl⟩
theorem d_R_visitUpTo_29 : gIs M_R_visitUpTo 29 6 31 := Or.inl ⟨by decide +kernel, rfl⟩
theorem d_R_visitUpTo_31 : gIl M_R_visitUpTo 31 6 33 := Or.inl ⟨by decide +kernel, rfl⟩
theorem d_R_visitUpTo_33 : gN M_R_visitUpTo 33 160 36 := Or.inr (Or.inr (Or.inl ⟨160, by decide +kernel, by decide, rfl⟩))
theorem d_R_visitUpTo_36 : gB M_R_visitUpTo 36 (.if_icmp .ge 37) 37 39 73 := ⟨by decide +kernel, rfl, by decide⟩
theorem d_R_visitUpTo_39 : gAl M_R_visitUpTo 39 0 40 := Or.inr ⟨0, by decide +kernel, rfl, rfl⟩
theorem d_R_visitUpTo_40 : gGf M_R_visitUpTo 40 6 8 43 := ⟨28, by decide +kernel, rfl, fl_R_28 _ rfl⟩
theorem d_R_visitUpTo_43 : gN M_R_visitUpTo 43 160 46 := Or.inr (Or.inr (Or.inl ⟨160, by decide +kernel, by decide, rfl⟩))
theorem d_R_visitUpTo_46 : gN M_R_visitUpTo 46 4 47 := Or.inl ⟨4, by decide +kernel, by decide, rfl⟩
theorem d_R_visitUpTo_47 : gIl M_R_visitUpTo 47 1 48 := Or.inr ⟨1, by decide +kernel, rfl, rfl⟩
theorem d_R_visitUpTo_48 : gD M_R_visitUpTo 48 (.iadd) 1 49 := ⟨by decide +kernel, rfl⟩
theorem d_R_visitUpTo_49 : gD M_R_visitUpTo 49 (.imul) 1 50 := ⟨by decide +kernel, rfl⟩
theorem d_R_visitUpTo_50 : gIl M_R_visitUpTo 50 6 52 := Or.inl ⟨by decide +kernel, rfl⟩
theorem d_R_visitUpTo_52 : gD M_R_visitUpTo 52 (.iadd) 1 53 := ⟨by decide +kernel, rfl⟩
theorem d_R_visitUpTo_53 : gAl M_R_visitUpTo 53 0 54 := Or.inr ⟨0, by decide +kernel, rfl, rfl⟩
theorem d_R_visitUpTo_54 : gGf M_R_visitUpTo 54 6 8 57 := ⟨28, by decide +kernel, rfl, fl_R_28 _ rfl⟩
theorem d_R_visitUpTo_57 : gN M_R_visitUpTo 57 160 60 := Or.inr (Or.inr (Or.inl ⟨160, by decide +kernel, by decide, rfl⟩))
theorem d_R_visitUpTo_60 : gIl M_R_visitUpTo 60 2 61 := Or.inr ⟨2, by decide +kernel, rfl, rfl⟩
theorem d_R_visitUpTo_61 : gD M_R_visitUpTo 61 (.imul) 1 62 := ⟨by decide +kernel, rfl⟩
theorem d_R_visitUpTo_62 : gIl M_R_visitUpTo 62 6 64 := Or.inl ⟨by decide +kernel, rfl⟩
theorem d_R_visitUpTo_64 : gD M_R_visitUpTo 64 (.iadd) 1 65 := ⟨by decide +kernel, rfl⟩
theorem d_R_visitUpTo_65 : gD M_R_visitUpTo 65 (.iaload) 1 66 := ⟨by decide +kernel, rfl⟩
theorem d_R_visitUpTo_66 : gD M_R_visitUpTo 66 (.iastore) 1 67 := ⟨by decide +kernel, rfl⟩
theorem d_R_visitUpTo_67 : gIc M_R_visitUpTo 67 6 1 70 := ⟨1, by decide +kernel, by decide, rfl⟩
theorem d_R_visitUpTo_70 : gB M_R_visitUpTo 70 (.goto (-39)) (-39) 73 31 := ⟨by decide +kernel, rfl, by decide⟩
theorem d_R_visitUpTo_73 : gAl M_R_visitUpTo 73 0 74 := Or.inr ⟨0, by decide +kernel, rfl, rfl⟩
theorem d_R_visitUpTo_74 : gIl M_R_visitUpTo 74 2 75 := Or.inr ⟨2, by decide +kernel, rfl, rfl⟩
theorem d_R_visitUpTo_75 : gIl M_R_visitUpTo 75 3 76 := Or.inr ⟨3, by decide +kernel, rfl, rfl⟩
theorem d_R_visitUpTo_76 : gN M_R_visitUpTo 76 (-1) 77 := Or.inl ⟨(-1), by decide +kernel, by decide, rfl⟩
theorem d_R_visitUpTo_77 : gD M_R_visitUpTo 77 (.invokevirtual 119) 3 80 := ⟨by decide +kernel, rfl⟩
theorem cs_R_visitUpTo_77 : gClV M_R_visitUpTo 119 6 y_R_nextToLoad M_R_nextToLoad 3 := ⟨⟨gW_c5 132 rfl rfl, gW_c1 8 rfl rfl, cd_R_nextToLoad, by decide +kernel, by decide +kernel⟩, rfl, gW_c5 134 rfl rfl, gW_c0 31 rfl rfl, TX5, 12, rfl⟩
theorem d_R_visitUpTo_80 : gIs M_R_visitUpTo 80 6 82 := Or.inl ⟨by decide +kernel, rfl⟩
theorem d_R_visitUpTo_82 : gIl M_R_visitUpTo 82 6 84 := Or.inl ⟨by decide +kernel, rfl⟩
theorem d_R_visitUpTo_84 : gB M_R_visitUpTo 84 (.ifCond .lt 72) 72 87 156 := ⟨by decide +kernel, rfl, by decide⟩
theorem d_R_visitUpTo_87 : gAl M_R_visitUpTo 87 0 88 := Or.inr ⟨0, by decide +kernel, rfl, rfl⟩
theorem d_R_visitUpTo_88 : gGf M_R_visitUpTo 88 6 9 91 := ⟨31, by decide +kernel, rfl, fl_R_31 _ rfl⟩
theorem d_R_visitUpTo_91 : gIl M_R_visitUpTo 91 1 92 := Or.inr ⟨1, by decide +kernel, rfl, rfl⟩
theorem d_R_visitUpTo_92 : gD M_R_visitUpTo 92 (.iaload) 1 93 := ⟨by decide +kernel, rfl⟩
theorem d_R_visitUpTo_93 : gIl M_R_visitUpTo 93 5 95 := Or.inl ⟨by decide +kernel, rfl⟩
theorem d_R_visitUpTo_95 : gB M_R_visitUpTo 95 (.if_icmp .ge 61) 61 98 156 := ⟨by decide +kernel, rfl, by decide⟩
theorem d_R_visitUpTo_98 : gN M_R_visitUpTo 98 8 100 := Or.inr (Or.inl ⟨8, by decide +kernel, by decide, rfl⟩)
theorem d_R_visitUpTo_100 : gAl M_R_visitUpTo 100 0 101 := Or.inr ⟨0, by decide +kernel, rfl, rfl⟩
theorem d_R_visitUpTo_101 : gIl M_R_visitUpTo 101 6 103 := Or.inl ⟨by decide +kernel, rfl⟩
theorem d_R_visitUpTo_103 : gD M_R_visitUpTo 103 (.invokevirtual 45) 3 106 := ⟨by decide +kernel, rfl⟩
theorem cs_R_visitUpTo_103 : gClV M_R_visitUpTo 45 6 y_R_bytesOf M_R_bytesOf 1 := ⟨⟨gW_c5 59 rfl rfl, gW_c1 8 rfl rfl, cd_R_bytesOf, by decide +kernel, by decide +kernel⟩, rfl, gW_c5 61 rfl rfl, gW_c0 18 rfl rfl, TX5, 12, rfl⟩
theorem d_R_visitUpTo_106 : gD M_R_visitUpTo 106 (.iadd) 1 107 := ⟨by decide +kernel, rfl⟩
theorem d_R_visitUpTo_107 : gAl M_R_visitUpTo 107 0 108 := Or.inr ⟨0, by decide +kernel, rfl, rfl⟩
theorem d_R_visitUpTo_108 : gIl M_R_visitUpTo 108 1 109 := Or.inr ⟨1, by decide +kernel, rfl, rfl⟩
theorem d_R_visitUpTo_109 : gD M_R_visitUpTo 109 (.invokevirtual 122) 3 112 := ⟨by decide +kernel, rfl⟩
theorem cs_R_visitUpTo_109 : gClV M_R_visitUpTo 122 6 y_R_roomOf M_R_roomOf 1 := ⟨⟨gW_c5 148 rfl rfl, gW_c1 8 rfl rfl, cd_R_roomOf, by decide +kernel, by decide +kernel⟩, rfl, gW_c5 150 rfl rfl, gW_c0 35 rfl rfl, TX5, 12, rfl⟩
theorem d_R_visitUpTo_112 : gB M_R_visitUpTo 112 (.if_icmp .gt 31) 31 115 143 := ⟨by decide +kernel, rfl, by decide⟩
theorem d_R_visitUpTo_115 : gAl M_R_visitUpTo 115 0 116 := Or.inr ⟨0, by decide +kernel, rfl, rfl⟩
theorem d_R_visitUpTo_116 : gGf M_R_visitUpTo 116 6 10 119 := ⟨34, by decide +kernel, rfl, fl_R_34 _ rfl⟩
theorem d_R_visitUpTo_119 : gN M_R_visitUpTo 119 20 121 := Or.inr (Or.inl ⟨20, by decide +kernel, by decide, rfl⟩)
theorem d_R_visitUpTo_121 : gIl M_R_visitUpTo 121 1 122 := Or.inr ⟨1, by decide +kernel, rfl, rfl⟩
theorem d_R_visitUpTo_122 : gD M_R_visitUpTo 122 (.imul) 1 123 := ⟨by decide +kernel, rfl⟩
theorem d_R_visitUpTo_123 : gAl M_R_visitUpTo 123 0 124 := Or.inr ⟨0, by decide +kernel, rfl, rfl⟩
theorem d_R_visitUpTo_124 : gGf M_R_visitUpTo 124 6 9 127 := ⟨31, by decide +kernel, rfl, fl_R_31 _ rfl⟩
theorem d_R_visitUpTo_127 : gIl M_R_visitUpTo 127 1 128 := Or.inr ⟨1, by decide +kernel, rfl, rfl⟩
theorem d_R_visitUpTo_128 : gD M_R_visitUpTo 128 (.iaload) 1 129 := ⟨by decide +kernel, rfl⟩
theorem d_R_visitUpTo_129 : gD M_R_visitUpTo 129 (.iadd) 1 130 := ⟨by decide +kernel, rfl⟩
theorem d_R_visitUpTo_130 : gIl M_R_visitUpTo 130 6 132 := Or.inl ⟨by decide +kernel, rfl⟩
theorem d_R_visitUpTo_132 : gD M_R_visitUpTo 132 (.iastore) 1 133 := ⟨by decide +kernel, rfl⟩
theorem d_R_visitUpTo_133 : gAl M_R_visitUpTo 133 0 134 := Or.inr ⟨0, by decide +kernel, rfl, rfl⟩
theorem d_R_visitUpTo_134 : gGf M_R_visitUpTo 134 6 9 137 := ⟨31, by decide +kernel, rfl, fl_R_31 _ rfl⟩
theorem d_R_visitUpTo_137 : gIl M_R_visitUpTo 137 1 138 := Or.inr ⟨1, by decide +kernel, rfl, rfl⟩
theorem d_R_visitUpTo_138 : gD M_R_visitUpTo 138 (.dup2) 1 139 := ⟨by decide +kernel, rfl⟩
theorem d_R_visitUpTo_139 : gD M_R_visitUpTo 139 (.iaload) 1 140 := ⟨by decide +kernel, rfl⟩
theorem d_R_visitUpTo_140 : gN M_R_visitUpTo 140 1 141 := Or.inl ⟨1, by decide +kernel, by decide, rfl⟩
theorem d_R_visitUpTo_141 : gD M_R_visitUpTo 141 (.iadd) 1 142 := ⟨by decide +kernel, rfl⟩
theorem d_R_visitUpTo_142 : gD M_R_visitUpTo 142 (.iastore) 1 143 := ⟨by decide +kernel, rfl⟩
theorem d_R_visitUpTo_143 : gAl M_R_visitUpTo 143 0 144 := Or.inr ⟨0, by decide +kernel, rfl, rfl⟩
theorem d_R_visitUpTo_144 : gIl M_R_visitUpTo 144 2 145 := Or.inr ⟨2, by decide +kernel, rfl, rfl⟩
theorem d_R_visitUpTo_145 : gIl M_R_visitUpTo 145 3 146 := Or.inr ⟨3, by decide +kernel, rfl, rfl⟩
theorem d_R_visitUpTo_146 : gIl M_R_visitUpTo 146 6 148 := Or.inl ⟨by decide +kernel, rfl⟩
theorem d_R_visitUpTo_148 : gD M_R_visitUpTo 148 (.invokevirtual 119) 3 151 := ⟨by decide +kernel, rfl⟩
theorem cs_R_visitUpTo_148 : gClV M_R_visitUpTo 119 6 y_R_nextToLoad M_R_nextToLoad 3 := ⟨⟨gW_c5 132 rfl rfl, gW_c1 8 rfl rfl, cd_R_nextToLoad, by decide +kernel, by decide +kernel⟩, rfl, gW_c5 134 rfl rfl, gW_c0 31 rfl rfl, TX5, 12, rfl⟩
theorem d_R_visitUpTo_151 : gIs M_R_visitUpTo 151 6 153 := Or.inl ⟨by decide +kernel, rfl⟩
theorem d_R_visitUpTo_153 : gB M_R_visitUpTo 153 (.goto (-71)) (-71) 156 82 := ⟨by decide +kernel, rfl, by decide⟩
theorem d_R_visitUpTo_156 : gAl M_R_visitUpTo 156 0 157 := Or.inr ⟨0, by decide +kernel, rfl, rfl⟩
theorem d_R_visitUpTo_157 : gGf M_R_visitUpTo 157 6 9 160 := ⟨31, by decide +kernel, rfl, fl_R_31 _ rfl⟩
theorem d_R_visitUpTo_160 : gIl M_R_visitUpTo 160 1 161 := Or.inr ⟨1, by decide +kernel, rfl, rfl⟩
theorem d_R_visitUpTo_161 : gD M_R_visitUpTo 161 (.iaload) 1 162 := ⟨by decide +kernel, rfl⟩
theorem d_R_visitUpTo_162 : gD M_R_visitUpTo 162 (.ireturn) 1 163 := ⟨by decide +kernel, rfl⟩
theorem d_R_unload_0 : gN M_R_unload 0 0 1 := Or.inl ⟨0, by decide +kernel, by decide, rfl⟩
theorem d_R_unload_1 : gIs M_R_unload 1 4 3 := Or.inl ⟨by decide +kernel, rfl⟩
theorem d_R_unload_3 : gIl M_R_unload 3 4 5 := Or.inl ⟨by decide +kernel, rfl⟩
theorem d_R_unload_5 : gAl M_R_unload 5 0 6 := Or.inr ⟨0, by decide +kernel, rfl, rfl⟩
theorem d_R_unload_6 : gGf M_R_unload 6 6 9 9 := ⟨31, by decide +kernel, rfl, fl_R_31 _ rfl⟩
theorem d_R_unload_9 : gIl M_R_unload 9 1 10 := Or.inr ⟨1, by decide +kernel, rfl, rfl⟩
theorem d_R_unload_10 : gD M_R_unload 10 (.iaload) 1 11 := ⟨by decide +kernel, rfl⟩
theorem d_R_unload_11 : gB M_R_unload 11 (.if_icmp .ge 80) 80 14 91 := ⟨by decide +kernel, rfl, by decide⟩
theorem d_R_unload_14 : gIl M_R_unload 14 4 16 := Or.inl ⟨by decide +kernel, rfl⟩
theorem d_R_unload_16 : gIl M_R_unload 16 3 17 := Or.inr ⟨3, by decide +kernel, rfl, rfl⟩
theorem d_R_unload_17 : gB M_R_unload 17 (.if_icmp .ge 74) 74 20 91 := ⟨by decide +kernel, rfl, by decide⟩
theorem d_R_unload_20 : gAl M_R_unload 20 0 21 := Or.inr ⟨0, by decide +kernel, rfl, rfl⟩
theorem d_R_unload_21 : gGf M_R_unload 21 6 10 24 := ⟨34, by decide +kernel, rfl, fl_R_34 _ rfl⟩
theorem d_R_unload_24 : gN M_R_unload 24 20 26 := Or.inr (Or.inl ⟨20, by decide +kernel, by decide, rfl⟩)
theorem d_R_unload_26 : gIl M_R_unload 26 1 27 := Or.inr ⟨1, by decide +kernel, rfl, rfl⟩
theorem d_R_unload_27 : gD M_R_unload 27 (.imul) 1 28 := ⟨by decide +kernel, rfl⟩
theorem d_R_unload_28 : gIl M_R_unload 28 4 30 := Or.inl ⟨by decide +kernel, rfl⟩
theorem d_R_unload_30 : gD M_R_unload 30 (.iadd) 1 31 := ⟨by decide +kernel, rfl⟩
theorem d_R_unload_31 : gD M_R_unload 31 (.iaload) 1 32 := ⟨by decide +kernel, rfl⟩
theorem d_R_unload_32 : gIs M_R_unload 32 5 34 := Or.inl ⟨by decide +kernel, rfl⟩
theorem d_R_unload_34 : gIc M_R_unload 34 4 1 37 := ⟨1, by decide +kernel, by decide, rfl⟩
theorem d_R_unload_37 : gAl M_R_unload 37 0 38 := Or.inr ⟨0, by decide +kernel, rfl, rfl⟩
theorem d_R_unload_38 : gIl M_R_unload 38 5 40 := Or.inl ⟨by decide +kernel, rfl⟩
theorem d_R_unload_40 : gIl M_R_unload 40 2 41 := Or.inr ⟨2, by decide +kernel, rfl, rfl⟩
theorem d_R_unload_41 : gIl M_R_unload 41 2 42 := Or.inr ⟨2, by decide +kernel, rfl, rfl⟩
theorem d_R_unload_42 : gAl M_R_unload 42 0 43 := Or.inr ⟨0, by decide +kernel, rfl, rfl⟩
theorem d_R_unload_43 : gGf M_R_unload 43 6 2 46 := ⟨7, by decide +kernel, rfl, fl_R_7 _ rfl⟩
theorem d_R_unload_46 : gIl M_R_unload 46 5 48 := Or.inl ⟨by decide +kernel, rfl⟩
theorem d_R_unload_48 : gD M_R_unload 48 (.iaload) 1 49 := ⟨by decide +kernel, rfl⟩
theorem d_R_unload_49 : gD M_R_unload 49 (.invokestatic 60) 3 52 := ⟨by decide +kernel, rfl⟩
theorem cs_R_unload_49 : gClS M_R_unload 60 y_R_at M_R_at 3 := ⟨⟨gW_c5 48 rfl rfl, gW_c1 8 rfl rfl, cd_R_at, by decide +kernel, by decide +kernel⟩, gW_c5 49 rfl rfl⟩
theorem d_R_unload_52 : gD M_R_unload 52 (.invokevirtual 94) 3 55 := ⟨by decide +kernel, rfl⟩
theorem cs_R_unload_52 : gClV M_R_unload 94 6 y_R_isCovered M_R_isCovered 2 := ⟨⟨gW_c5 120 rfl rfl, gW_c1 8 rfl rfl, cd_R_isCovered, by decide +kernel, by decide +kernel⟩, rfl, gW_c5 122 rfl rfl, gW_c0 28 rfl rfl, TX5, 12, rfl⟩
theorem d_R_unload_55 : gB M_R_unload 55 (.ifCond .ne 33) 33 58 88 := ⟨by decide +kernel, rfl, by decide⟩
theorem d_R_unload_58 : gAl M_R_unload 58 0 59 := Or.inr ⟨0, by decide +kernel, rfl, rfl⟩
theorem d_R_unload_59 : gIl M_R_unload 59 2 60 := Or.inr ⟨2, by decide +kernel, rfl, rfl⟩
theorem d_R_unload_60 : gIl M_R_unload 60 5 62 := Or.inl ⟨by decide +kernel, rfl⟩
theorem d_R_unload_62 : gD M_R_unload 62 (.invokevirtual 66) 3 65 := ⟨by decide +kernel, rfl⟩
theorem cs_R_unload_62 : gClV M_R_unload 66 6 y_R_hasRoom M_R_hasRoom 2 := ⟨⟨gW_c5 51 rfl rfl, gW_c1 8 rfl rfl, cd_R_hasRoom, by decide +kernel, by decide +kernel⟩, rfl, gW_c5 53 rfl rfl, gW_c0 16 rfl rfl, TX5, 12, rfl⟩
theorem d_R_unload_65 : gB M_R_unload 65 (.ifCond .eq 13) 13 68 78 := ⟨by decide +kernel, rfl, by decide⟩
theorem d_R_unload_68 : gAl M_R_unload 68 0 69 := Or.inr ⟨0, by decide +kernel, rfl, rfl⟩
theorem d_R_unload_69 : gIl M_R_unload 69 2 70 := Or.inr ⟨2, by decide +kernel, rfl, rfl⟩
theorem d_R_unload_70 : gIl M_R_unload 70 5 72 := Or.inl ⟨by decide +kernel, rfl⟩
theorem d_R_unload_72 : gD M_R_unload 72 (.invokevirtual 69) 3 75 := ⟨by decide +kernel, rfl⟩
theorem cs_R_unload_72 : gClV M_R_unload 69 6 y_R_comeToStand M_R_comeToStand 2 := ⟨⟨gW_c5 75 rfl rfl, gW_c1 8 rfl rfl, cd_R_comeToStand, by decide +kernel, by decide +kernel⟩, rfl, gW_c5 77 rfl rfl, gW_c0 22 rfl rfl, TX5, 12, rfl⟩
theorem d_R_unload_75 : gB M_R_unload 75 (.goto 13) 13 78 88 := ⟨by decide +kernel, rfl, by decide⟩
theorem d_R_unload_78 : gAl M_R_unload 78 0 79 := Or.inr ⟨0, by decide +kernel, rfl, rfl⟩
theorem d_R_unload_79 : gD M_R_unload 79 (.dup) 1 80 := ⟨by decide +kernel, rfl⟩
theorem d_R_unload_80 : gGf M_R_unload 80 6 11 83 := ⟨97, by decide +kernel, rfl, fl_R_97 _ rfl⟩
theorem d_R_unload_83 : gN M_R_unload 83 1 84 := Or.inl ⟨1, by decide +kernel, by decide, rfl⟩
theorem d_R_unload_84 : gD M_R_unload 84 (.iadd) 1 85 := ⟨by decide +kernel, rfl⟩
theorem d_R_unload_85 : gPf M_R_unload 85 6 11 .int 88 := ⟨97, by decide +kernel, rfl, RX5, TX5, 12, "FolderRoundsModel", tyX5, rfl, by decide, gW_c5 4 rfl rfl, gws_6, Or.inl rfl, tyX5_ok, nmX5, by decide +kernel, Or.inl rfl⟩
theorem d_R_unload_88 : gB M_R_unload 88 (.goto (-85)) (-85) 91 3 := ⟨by decide +kernel, rfl, by decide⟩
theorem d_R_unload_91 : gAl M_R_unload 91 0 92 := Or.inr ⟨0, by decide +kernel, rfl, rfl⟩
theorem d_R_unload_92 : gGf M_R_unload 92 6 9 95 := ⟨31, by decide +kernel, rfl, fl_R_31 _ rfl⟩
theorem d_R_unload_95 : gIl M_R_unload 95 1 96 := Or.inr ⟨1, by decide +kernel, rfl, rfl⟩
theorem d_R_unload_96 : gAl M_R_unload 96 0 97 := Or.inr ⟨0, by decide +kernel, rfl, rfl⟩
theorem d_R_unload_97 : gGf M_R_unload 97 6 9 100 := ⟨31, by decide +kernel, rfl, fl_R_31 _ rfl⟩
theorem d_R_unload_100 : gIl M_R_unload 100 1 101 := Or.inr ⟨1, by decide +kernel, rfl, rfl⟩
theorem d_R_unload_101 : gD M_R_unload 101 (.iaload) 1 102 := ⟨by decide +kernel, rfl⟩
theorem d_R_unload_102 : gIl M_R_unload 102 4 104 := Or.inl ⟨by decide +kernel, rfl⟩
theorem d_R_unload_104 : gD M_R_unload 104 (.isub) 1 105 := ⟨by decide +kernel, rfl⟩
theorem d_R_unload_105 : gD M_R_unload 105 (.iastore) 1 106 := ⟨by decide +kernel, rfl⟩
theorem d_R_unload_106 : gN M_R_unload 106 0 107 := Or.inl ⟨0, by decide +kernel, by decide, rfl⟩
theorem d_R_unload_107 : gIs M_R_unload 107 5 109 := Or.inl ⟨by decide +kernel, rfl⟩
theorem d_R_unload_109 : gIl M_R_unload 109 5 111 := Or.inl ⟨by decide +kernel, rfl⟩
theorem d_R_unload_111 : gAl M_R_unload 111 0 112 := Or.inr ⟨0, by decide +kernel, rfl, rfl⟩
theorem d_R_unload_112 : gGf M_R_unload 112 6 9 115 := ⟨31, by decide +kernel, rfl, fl_R_31 _ rfl⟩
theorem d_R_unload_115 : gIl M_R_unload 115 1 116 := Or.inr ⟨1, by decide +kernel, rfl, rfl⟩
theorem d_R_unload_116 : gD M_R_unload 116 (.iaload) 1 117 := ⟨by decide +kernel, rfl⟩
theorem d_R_unload_117 : gB M_R_unload 117 (.if_icmp .ge 36) 36 120 153 := ⟨by decide +kernel, rfl, by decide⟩
theorem d_R_unload_120 : gAl M_R_unload 120 0 121 := Or.inr ⟨0, by decide +kernel, rfl, rfl⟩
theorem d_R_unload_121 : gGf M_R_unload 121 6 10 124 := ⟨34, by decide +kernel, rfl, fl_R_34 _ rfl⟩
theorem d_R_unload_124 : gN M_R_unload 124 20 126 := Or.inr (Or.inl ⟨20, by decide +kernel, by decide, rfl⟩)
theorem d_R_unload_126 : gIl M_R_unload 126 1 127 := Or.inr ⟨1, by decide +kernel, rfl, rfl⟩
theorem d_R_unload_127 : gD M_R_unload 127 (.imul) 1 128 := ⟨by decide +kernel, rfl⟩
theorem d_R_unload_128 : gIl M_R_unload 128 5 130 := Or.inl ⟨by decide +kernel, rfl⟩
theorem d_R_unload_130 : gD M_R_unload 130 (.iadd) 1 131 := ⟨by decide +kernel, rfl⟩
theorem d_R_unload_131 : gAl M_R_unload 131 0 132 := Or.inr ⟨0, by decide +kernel, rfl, rfl⟩
theorem d_R_unload_132 : gGf M_R_unload 132 6 10 135 := ⟨34, by decide +kernel, rfl, fl_R_34 _ rfl⟩
theorem d_R_unload_135 : gN M_R_unload 135 20 137 := Or.inr (Or.inl ⟨20, by decide +kernel, by decide, rfl⟩)
theorem d_R_unload_137 : gIl M_R_unload 137 1 138 := Or.inr ⟨1, by decide +kernel, rfl, rfl⟩
theorem d_R_unload_138 : gD M_R_unload 138 (.imul) 1 139 := ⟨by decide +kernel, rfl⟩
theorem d_R_unload_139 : gIl M_R_unload 139 5 141 := Or.inl ⟨by decide +kernel, rfl⟩
theorem d_R_unload_141 : gD M_R_unload 141 (.iadd) 1 142 := ⟨by decide +kernel, rfl⟩
theorem d_R_unload_142 : gIl M_R_unload 142 4 144 := Or.inl ⟨by decide +kernel, rfl⟩
theorem d_R_unload_144 : gD M_R_unload 144 (.iadd) 1 145 := ⟨by decide +kernel, rfl⟩
theorem d_R_unload_145 : gD M_R_unload 145 (.iaload) 1 146 := ⟨by decide +kernel, rfl⟩
theorem d_R_unload_146 : gD M_R_unload 146 (.iastore) 1 147 := ⟨by decide +kernel, rfl⟩
theorem d_R_unload_147 : gIc M_R_unload 147 5 1 150 := ⟨1, by decide +kernel, by decide, rfl⟩
theorem d_R_unload_150 : gB M_R_unload 150 (.goto (-41)) (-41) 153 109 := ⟨by decide +kernel, rfl, by decide⟩
theorem d_R_unload_153 : gAl M_R_unload 153 0 154 := Or.inr ⟨0, by decide +kernel, rfl, rfl⟩
theorem d_R_unload_154 : gGf M_R_unload 154 6 9 157 := ⟨31, by decide +kernel, rfl, fl_R_31 _ rfl⟩
theorem d_R_unload_157 : gIl M_R_unload 157 1 158 := Or.inr ⟨1, by decide +kernel, rfl, rfl⟩
theorem d_R_unload_158 : gD M_R_unload 158 (.iaload) 1 159 := ⟨by decide +kernel, rfl⟩
theorem d_R_unload_159 : gB M_R_unload 159 (.ifCond .le 7) 7 162 166 := ⟨by decide +kernel, rfl, by decide⟩
theorem d_R_unload_162 : gN M_R_unload 162 (-1) 163 := Or.inl ⟨(-1), by decide +kernel, by decide, rfl⟩
theorem d_R_unload_163 : gB M_R_unload 163 (.goto 7) 7 166 170 := ⟨by decide +kernel, rfl, by decide⟩
theorem d_R_unload_166 : gIl M_R_unload 166 3 167 := Or.inr ⟨3, by decide +kernel, rfl, rfl⟩
theorem d_R_unload_167 : gIl M_R_unload 167 4 169 := Or.inl ⟨by decide +kernel, rfl⟩
theorem d_R_unload_169 : gD M_R_unload 169 (.isub) 1 170 := ⟨by decide +kernel, rfl⟩
theorem d_R_unload_170 : gD M_R_unload 170 (.ireturn) 1 171 := ⟨by decide +kernel, rfl⟩
theorem d_R_isCovered_0 : gN M_R_isCovered 0 1 1 := Or.inl ⟨1, by decide +kernel, by decide, rfl⟩
theorem d_R_isCovered_1 : gIs M_R_isCovered 1 3 2 := Or.inr ⟨3, by decide +kernel, rfl, rfl⟩
theorem d_R_isCovered_2 : gN M_R_isCovered 2 0 3 := Or.inl ⟨0, by decide +kernel, by decide, rfl⟩
theorem d_R_isCovered_3 : gIs M_R_isCovered 3 4 5 := Or.inl ⟨by decide +kernel, rfl⟩
theorem d_R_isCovered_5 : gIl M_R_isCovered 5 4 7 := Or.inl ⟨by decide +kernel, rfl⟩
theorem d_R_isCovered_7 : gN M_R_isCovered 7 4 8 := Or.inl ⟨4, by decide +kernel, by decide, rfl⟩
theorem d_R_isCovered_8 : gB M_R_isCovered 8 (.if_icmp .ge 38) 38 11 46 := ⟨by decide +kernel, rfl, by decide⟩
theorem d_R_isCovered_11 : gIl M_R_isCovered 11 3 12 := Or.inr ⟨3, by decide +kernel, rfl, rfl⟩
theorem d_R_isCovered_12 : gB M_R_isCovered 12 (.ifCond .eq 26) 26 15 38 := ⟨by decide +kernel, rfl, by decide⟩
theorem d_R_isCovered_15 : gAl M_R_isCovered 15 0 16 := Or.inr ⟨0, by decide +kernel, rfl, rfl⟩
theorem d_R_isCovered_16 : gGf M_R_isCovered 16 6 8 19 := ⟨28, by decide +kernel, rfl, fl_R_28 _ rfl⟩
theorem d_R_isCovered_19 : gIl M_R_isCovered 19 2 20 := Or.inr ⟨2, by decide +kernel, rfl, rfl⟩
theorem d_R_isCovered_20 : gIl M_R_isCovered 20 4 22 := Or.inl ⟨by decide +kernel, rfl⟩
theorem d_R_isCovered_22 : gD M_R_isCovered 22 (.iadd) 1 23 := ⟨by decide +kernel, rfl⟩
theorem d_R_isCovered_23 : gD M_R_isCovered 23 (.iaload) 1 24 := ⟨by decide +kernel, rfl⟩
theorem d_R_isCovered_24 : gAl M_R_isCovered 24 0 25 := Or.inr ⟨0, by decide +kernel, rfl, rfl⟩
theorem d_R_isCovered_25 : gIl M_R_isCovered 25 1 26 := Or.inr ⟨1, by decide +kernel, rfl, rfl⟩
theorem d_R_isCovered_26 : gIl M_R_isCovered 26 4 28 := Or.inl ⟨by decide +kernel, rfl⟩
theorem d_R_isCovered_28 : gD M_R_isCovered 28 (.invokevirtual 41) 3 31 := ⟨by decide +kernel, rfl⟩
theorem cs_R_isCovered_28 : gClV M_R_isCovered 41 6 y_R_counterOf M_R_counterOf 2 := ⟨⟨gW_c5 71 rfl rfl, gW_c1 8 rfl rfl, cd_R_counterOf, by decide +kernel, by decide +kernel⟩, rfl, gW_c5 73 rfl rfl, gW_c0 21 rfl rfl, TX5, 12, rfl⟩
theorem d_R_isCovered_31 : gB M_R_isCovered 31 (.if_icmp .lt 7) 7 34 38 := ⟨by decide +kernel, rfl, by decide⟩
theorem d_R_isCovered_34 : gN M_R_isCovered 34 1 35 := Or.inl ⟨1, by decide +kernel, by decide, rfl⟩
theorem d_R_isCovered_35 : gB M_R_isCovered 35 (.goto 4) 4 38 39 := ⟨by decide +kernel, rfl, by decide⟩
theorem d_R_isCovered_38 : gN M_R_isCovered 38 0 39 := Or.inl ⟨0, by decide +kernel, by decide, rfl⟩
theorem d_R_isCovered_39 : gIs M_R_isCovered 39 3 40 := Or.inr ⟨3, by decide +kernel, rfl, rfl⟩
theorem d_R_isCovered_40 : gIc M_R_isCovered 40 4 1 43 := ⟨1, by decide +kernel, by decide, rfl⟩
theorem d_R_isCovered_43 : gB M_R_isCovered 43 (.goto (-38)) (-38) 46 5 := ⟨by decide +kernel, rfl, by decide⟩
theorem d_R_isCovered_46 : gIl M_R_isCovered 46 3 47 := Or.inr ⟨3, by decide +kernel, rfl, rfl⟩
theorem d_R_isCovered_47 : gD M_R_isCovered 47 (.ireturn) 1 48 := ⟨by decide +kernel, rfl⟩
theorem d_R_learn_0 : gN M_R_learn 0 0 1 := Or.inl ⟨0, by decide +kernel, by decide, rfl⟩
theorem d_R_learn_1 : gIs M_R_learn 1 3 2 := Or.inr ⟨3, by decide +kernel, rfl, rfl⟩
theorem d_R_learn_2 : gIl M_R_learn 2 3 3 := Or.inr ⟨3, by decide +kernel, rfl, rfl⟩
theorem d_R_learn_3 : gN M_R_learn 3 4 4 := Or.inl ⟨4, by decide +kernel, by decide, rfl⟩
theorem d_R_learn_4 : gB M_R_learn 4 (.if_icmp .ge 95) 95 7 99 := ⟨by decide +kernel, rfl, by decide⟩
theorem d_R_learn_7 : gN M_R_learn 7 0 8 := Or.inl ⟨0, by decide +kernel, by decide, rfl⟩
theorem d_R_learn_8 : gIs M_R_learn 8 4 10 := Or.inl ⟨by decide +kernel, rfl⟩
theorem d_R_learn_10 : gIl M_R_learn 10 4 12 := Or.inl ⟨by decide +kernel, rfl⟩
theorem d_R_learn_12 : gN M_R_learn 12 40 14 := Or.inr (Or.inl ⟨40, by decide +kernel, by decide, rfl⟩)
theorem d_R_learn_14 : gB M_R_learn 14 (.if_icmp .ge 79) 79 17 93 := ⟨by decide +kernel, rfl, by decide⟩
theorem d_R_learn_17 : gIl M_R_learn 17 3 18 := Or.inr ⟨3, by decide +kernel, rfl, rfl⟩
theorem d_R_learn_18 : gIl M_R_learn 18 2 19 := Or.inr ⟨2, by decide +kernel, rfl, rfl⟩
theorem d_R_learn_19 : gB M_R_learn 19 (.if_icmp .eq 74) 74 22 93 := ⟨by decide +kernel, rfl, by decide⟩
theorem d_R_learn_22 : gIl M_R_learn 22 2 23 := Or.inr ⟨2, by decide +kernel, rfl, rfl⟩
theorem d_R_learn_23 : gIl M_R_learn 23 3 24 := Or.inr ⟨3, by decide +kernel, rfl, rfl⟩
theorem d_R_learn_24 : gN M_R_learn 24 0 25 := Or.inl ⟨0, by decide +kernel, by decide, rfl⟩
theorem d_R_learn_25 : gD M_R_learn 25 (.invokestatic 60) 3 28 := ⟨by decide +kernel, rfl⟩
theorem cs_R_learn_25 : gClS M_R_learn 60 y_R_at M_R_at 3 := ⟨⟨gW_c5 48 rfl rfl, gW_c1 8 rfl rfl, cd_R_at, by decide +kernel, by decide +kernel⟩, gW_c5 49 rfl rfl⟩
theorem d_R_learn_28 : gIl M_R_learn 28 4 30 := Or.inl ⟨by decide +kernel, rfl⟩
theorem d_R_learn_30 : gD M_R_learn 30 (.iadd) 1 31 := ⟨by decide +kernel, rfl⟩
theorem d_R_learn_31 : gIs M_R_learn 31 5 33 := Or.inl ⟨by decide +kernel, rfl⟩
theorem d_R_learn_33 : gN M_R_learn 33 4 34 := Or.inl ⟨4, by decide +kernel, by decide, rfl⟩
theorem d_R_learn_34 : gIl M_R_learn 34 1 35 := Or.inr ⟨1, by decide +kernel, rfl, rfl⟩
theorem d_R_learn_35 : gD M_R_learn 35 (.iadd) 1 36 := ⟨by decide +kernel, rfl⟩
theorem d_R_learn_36 : gIl M_R_learn 36 3 37 := Or.inr ⟨3, by decide +kernel, rfl, rfl⟩
theorem d_R_learn_37 : gN M_R_learn 37 0 38 := Or.inl ⟨0, by decide +kernel, by decide, rfl⟩
theorem d_R_learn_38 : gD M_R_learn 38 (.invokestatic 60) 3 41 := ⟨by decide +kernel, rfl⟩
theorem cs_R_learn_38 : gClS M_R_learn 60 y_R_at M_R_at 3 := ⟨⟨gW_c5 48 rfl rfl, gW_c1 8 rfl rfl, cd_R_at, by decide +kernel, by decide +kernel⟩, gW_c5 49 rfl rfl⟩
theorem d_R_learn_41 : gIl M_R_learn 41 4 43 := Or.inl ⟨by decide +kernel, rfl⟩
theorem d_R_learn_43 : gD M_R_learn 43 (.iadd) 1 44 := ⟨by decide +kernel, rfl⟩
theorem d_R_learn_44 : gIs M_R_learn 44 6 46 := Or.inl ⟨by decide +kernel, rfl⟩
theorem d_R_learn_46 : gAl M_R_learn 46 0 47 := Or.inr ⟨0, by decide +kernel, rfl, rfl⟩
theorem d_R_learn_47 : gGf M_R_learn 47 6 8 50 := ⟨28, by decide +kernel, rfl, fl_R_28 _ rfl⟩
theorem d_R_learn_50 : gIl M_R_learn 50 5 52 := Or.inl ⟨by decide +kernel, rfl⟩
theorem d_R_learn_52 : gAl M_R_learn 52 0 53 := Or.inr ⟨0, by decide +kernel, rfl, rfl⟩
theorem d_R_learn_53 : gGf M_R_learn 53 6 8 56 := ⟨28, by decide +kernel, rfl, fl_R_28 _ rfl⟩
theorem d_R_learn_56 : gIl M_R_learn 56 6 58 := Or.inl ⟨by decide +kernel, rfl⟩
theorem d_R_learn_58 : gD M_R_learn 58 (.iaload) 1 59 := ⟨by decide +kernel, rfl⟩
theorem d_R_learn_59 : gAl M_R_learn 59 0 60 := Or.inr ⟨0, by decide +kernel, rfl, rfl⟩
theorem d_R_learn_60 : gGf M_R_learn 60 6 8 63 := ⟨28, by decide +kernel, rfl, fl_R_28 _ rfl⟩
theorem d_R_learn_63 : gIl M_R_learn 63 5 65 := Or.inl ⟨by decide +kernel, rfl⟩
theorem d_R_learn_65 : gD M_R_learn 65 (.iaload) 1 66 := ⟨by decide +kernel, rfl⟩
theorem d_R_learn_66 : gB M_R_learn 66 (.if_icmp .le 13) 13 69 79 := ⟨by decide +kernel, rfl, by decide⟩
theorem d_R_learn_69 : gAl M_R_learn 69 0 70 := Or.inr ⟨0, by decide +kernel, rfl, rfl⟩
theorem d_R_learn_70 : gGf M_R_learn 70 6 8 73 := ⟨28, by decide +kernel, rfl, fl_R_28 _ rfl⟩
theorem d_R_learn_73 : gIl M_R_learn 73 6 75 := Or.inl ⟨by decide +kernel, rfl⟩
theorem d_R_learn_75 : gD M_R_learn 75 (.iaload) 1 76 := ⟨by decide +kernel, rfl⟩
theorem d_R_learn_76 : gB M_R_learn 76 (.goto 10) 10 79 86 := ⟨by decide +kernel, rfl, by decide⟩
theorem d_R_learn_79 : gAl M_R_learn 79 0 80 := Or.inr ⟨0, by decide +kernel, rfl, rfl⟩
theorem d_R_learn_80 : gGf M_R_learn 80 6 8 83 := ⟨28, by decide +kernel, rfl, fl_R_28 _ rfl⟩
theorem d_R_learn_83 : gIl M_R_learn 83 5 85 := Or.inl ⟨by decide +kernel, rfl⟩
theorem d_R_learn_85 : gD M_R_learn 85 (.iaload) 1 86 := ⟨by decide +kernel, rfl⟩
theorem d_R_learn_86 : gD M_R_learn 86 (.iastore) 1 87 := ⟨by decide +kernel, rfl⟩
theorem d_R_learn_87 : gIc M_R_learn 87 4 1 90 := ⟨1, by decide +kernel, by decide, rfl⟩
theorem d_R_learn_90 : gB M_R_learn 90 (.goto (-80)) (-80) 93 10 := ⟨by decide +kernel, rfl, by decide⟩
theorem d_R_learn_93 : gIc M_R_learn 93 3 1 96 := ⟨1, by decide +kernel, by decide, rfl⟩
theorem d_R_learn_96 : gB M_R_learn 96 (.goto (-94)) (-94) 99 2 := ⟨by decide +kernel, rfl, by decide⟩
theorem d_R_learn_99 : gD M_R_learn 99 (.return_) 1 100 := ⟨by decide +kernel, rfl⟩
theorem d_R_dropMarks_0 : gN M_R_dropMarks 0 0 1 := Or.inl ⟨0, by decide +kernel, by decide, rfl⟩
theorem d_R_dropMarks_1 : gIs M_R_dropMarks 1 2 2 := Or.inr ⟨2, by decide +kernel, rfl, rfl⟩
theorem d_R_dropMarks_2 : gIl M_R_dropMarks 2 2 3 := Or.inr ⟨2, by decide +kernel, rfl, rfl⟩
theorem d_R_dropMarks_3 : gN M_R_dropMarks 3 40 5 := Or.inr (Or.inl ⟨40, by decide +kernel, by decide, rfl⟩)
theorem d_R_dropMarks_5 : gB M_R_dropMarks 5 (.if_icmp .ge 110) 110 8 115 := ⟨by decide +kernel, rfl, by decide⟩
theorem d_R_dropMarks_8 : gAl M_R_dropMarks 8 0 9 := Or.inr ⟨0, by decide +kernel, rfl, rfl⟩
theorem d_R_dropMarks_9 : gGf M_R_dropMarks 9 6 7 12 := ⟨25, by decide +kernel, rfl, fl_R_25 _ rfl⟩
theorem d_R_dropMarks_12 : gN M_R_dropMarks 12 40 14 := Or.inr (Or.inl ⟨40, by decide +kernel, by decide, rfl⟩)
theorem d_R_dropMarks_14 : gIl M_R_dropMarks 14 1 15 := Or.inr ⟨1, by decide +kernel, rfl, rfl⟩
theorem d_R_dropMarks_15 : gD M_R_dropMarks 15 (.imul) 1 16 := ⟨by decide +kernel, rfl⟩
theorem d_R_dropMarks_16 : gIl M_R_dropMarks 16 2 17 := Or.inr ⟨2, by decide +kernel, rfl, rfl⟩
theorem d_R_dropMarks_17 : gD M_R_dropMarks 17 (.iadd) 1 18 := ⟨by decide +kernel, rfl⟩
theorem d_R_dropMarks_18 : gD M_R_dropMarks 18 (.iaload) 1 19 := ⟨by decide +kernel, rfl⟩
theorem d_R_dropMarks_19 : gN M_R_dropMarks 19 1 20 := Or.inl ⟨1, by decide +kernel, by decide, rfl⟩
theorem d_R_dropMarks_20 : gD M_R_dropMarks 20 (.isub) 1 21 := ⟨by decide +kernel, rfl⟩
theorem d_R_dropMarks_21 : gIs M_R_dropMarks 21 3 22 := Or.inr ⟨3, by decide +kernel, rfl, rfl⟩
theorem d_R_dropMarks_22 : gIl M_R_dropMarks 22 3 23 := Or.inr ⟨3, by decide +kernel, rfl, rfl⟩
theorem d_R_dropMarks_23 : gB M_R_dropMarks 23 (.ifCond .lt 16) 16 26 39 := ⟨by decide +kernel, rfl, by decide⟩
theorem d_R_dropMarks_26 : gAl M_R_dropMarks 26 0 27 := Or.inr ⟨0, by decide +kernel, rfl, rfl⟩
theorem d_R_dropMarks_27 : gGf M_R_dropMarks 27 6 4 30 := ⟨16, by decide +kernel, rfl, fl_R_16 _ rfl⟩
theorem d_R_dropMarks_30 : gIl M_R_dropMarks 30 3 31 := Or.inr ⟨3, by decide +kernel, rfl, rfl⟩
theorem d_R_dropMarks_31 : gD M_R_dropMarks 31 (.iaload) 1 32 := ⟨by decide +kernel, rfl⟩
theorem d_R_dropMarks_32 : gB M_R_dropMarks 32 (.ifCond .ge 7) 7 35 39 := ⟨by decide +kernel, rfl, by decide⟩
theorem d_R_dropMarks_35 : gN M_R_dropMarks 35 1 36 := Or.inl ⟨1, by decide +kernel, by decide, rfl⟩
theorem d_R_dropMarks_36 : gB M_R_dropMarks 36 (.goto 4) 4 39 40 := ⟨by decide +kernel, rfl, by decide⟩
theorem d_R_dropMarks_39 : gN M_R_dropMarks 39 0 40 := Or.inl ⟨0, by decide +kernel, by decide, rfl⟩
theorem d_R_dropMarks_40 : gIs M_R_dropMarks 40 4 42 := Or.inl ⟨by decide +kernel, rfl⟩
theorem d_R_dropMarks_42 : gN M_R_dropMarks 42 0 43 := Or.inl ⟨0, by decide +kernel, by decide, rfl⟩
theorem d_R_dropMarks_43 : gIs M_R_dropMarks 43 5 45 := Or.inl ⟨by decide +kernel, rfl⟩
theorem d_R_dropMarks_45 : gIl M_R_dropMarks 45 5 47 := Or.inl ⟨by decide +kernel, rfl⟩
theorem d_R_dropMarks_47 : gN M_R_dropMarks 47 4 48 := Or.inl ⟨4, by decide +kernel, by decide, rfl⟩
theorem d_R_dropMarks_48 : gB M_R_dropMarks 48 (.if_icmp .ge 30) 30 51 78 := ⟨by decide +kernel, rfl, by decide⟩
theorem d_R_dropMarks_51 : gIl M_R_dropMarks 51 4 53 := Or.inl ⟨by decide +kernel, rfl⟩
theorem d_R_dropMarks_53 : gB M_R_dropMarks 53 (.ifCond .eq 25) 25 56 78 := ⟨by decide +kernel, rfl, by decide⟩
theorem d_R_dropMarks_56 : gAl M_R_dropMarks 56 0 57 := Or.inr ⟨0, by decide +kernel, rfl, rfl⟩
theorem d_R_dropMarks_57 : gIl M_R_dropMarks 57 3 58 := Or.inr ⟨3, by decide +kernel, rfl, rfl⟩
theorem d_R_dropMarks_58 : gIl M_R_dropMarks 58 1 59 := Or.inr ⟨1, by decide +kernel, rfl, rfl⟩
theorem d_R_dropMarks_59 : gIl M_R_dropMarks 59 5 61 := Or.inl ⟨by decide +kernel, rfl⟩
theorem d_R_dropMarks_61 : gIl M_R_dropMarks 61 2 62 := Or.inr ⟨2, by decide +kernel, rfl, rfl⟩
theorem d_R_dropMarks_62 : gN M_R_dropMarks 62 4 63 := Or.inl ⟨4, by decide +kernel, by decide, rfl⟩
theorem d_R_dropMarks_63 : gD M_R_dropMarks 63 (.idiv) 1 64 := ⟨by decide +kernel, rfl⟩
theorem d_R_dropMarks_64 : gD M_R_dropMarks 64 (.invokestatic 60) 3 67 := ⟨by decide +kernel, rfl⟩
theorem cs_R_dropMarks_64 : gClS M_R_dropMarks 60 y_R_at M_R_at 3 := ⟨⟨gW_c5 48 rfl rfl, gW_c1 8 rfl rfl, cd_R_at, by decide +kernel, by decide +kernel⟩, gW_c5 49 rfl rfl⟩
theorem d_R_dropMarks_67 : gD M_R_dropMarks 67 (.invokevirtual 94) 3 70 := ⟨by decide +kernel, rfl⟩
theorem cs_R_dropMarks_67 : gClV M_R_dropMarks 94 6 y_R_isCovered M_R_isCovered 2 := ⟨⟨gW_c5 120 rfl rfl, gW_c1 8 rfl rfl, cd_R_isCovered, by decide +kernel, by decide +kernel⟩, rfl, gW_c5 122 rfl rfl, gW_c0 28 rfl rfl, TX5, 12, rfl⟩
theorem d_R_dropMarks_70 : gIs M_R_dropMarks 70 4 72 := Or.inl ⟨by decide +kernel, rfl⟩
theorem d_R_dropMarks_72 : gIc M_R_dropMarks 72 5 1 75 := ⟨1, by decide +kernel, by decide, rfl⟩
theorem d_R_dropMarks_75 : gB M_R_dropMarks 75 (.goto (-30)) (-30) 78 45 := ⟨by decide +kernel, rfl, by decide⟩
theorem d_R_dropMarks_78 : gAl M_R_dropMarks 78 0 79 := Or.inr ⟨0, by decide +kernel, rfl, rfl⟩
theorem d_R_dropMarks_79 : gGf M_R_dropMarks 79 6 7 82 := ⟨25, by decide +kernel, rfl, fl_R_25 _ rfl⟩
theorem d_R_dropMarks_82 : gN M_R_dropMarks 82 40 84 := Or.inr (Or.inl ⟨40, by decide +kernel, by decide, rfl⟩)
theorem d_R_dropMarks_84 : gIl M_R_dropMarks 84 1 85 := Or.inr ⟨1, by decide +kernel, rfl, rfl⟩
theorem d_R_dropMarks_85 : gD M_R_dropMarks 85 (.imul) 1 86 := ⟨by decide +kernel, rfl⟩
theorem d_R_dropMarks_86 : gIl M_R_dropMarks 86 2 87 := Or.inr ⟨2, by decide +kernel, rfl, rfl⟩
theorem d_R_dropMarks_87 : gD M_R_dropMarks 87 (.iadd) 1 88 := ⟨by decide +kernel, rfl⟩
theorem d_R_dropMarks_88 : gIl M_R_dropMarks 88 4 90 := Or.inl ⟨by decide +kernel, rfl⟩
theorem d_R_dropMarks_90 : gB M_R_dropMarks 90 (.ifCond .eq 7) 7 93 97 := ⟨by decide +kernel, rfl, by decide⟩
theorem d_R_dropMarks_93 : gN M_R_dropMarks 93 0 94 := Or.inl ⟨0, by decide +kernel, by decide, rfl⟩
theorem d_R_dropMarks_94 : gB M_R_dropMarks 94 (.goto 14) 14 97 108 := ⟨by decide +kernel, rfl, by decide⟩
theorem d_R_dropMarks_97 : gAl M_R_dropMarks 97 0 98 := Or.inr ⟨0, by decide +kernel, rfl, rfl⟩
theorem d_R_dropMarks_98 : gGf M_R_dropMarks 98 6 7 101 := ⟨25, by decide +kernel, rfl, fl_R_25 _ rfl⟩
theorem d_R_dropMarks_101 : gN M_R_dropMarks 101 40 103 := Or.inr (Or.inl ⟨40, by decide +kernel, by decide, rfl⟩)
theorem d_R_dropMarks_103 : gIl M_R_dropMarks 103 1 104 := Or.inr ⟨1, by decide +kernel, rfl, rfl⟩
theorem d_R_dropMarks_104 : gD M_R_dropMarks 104 (.imul) 1 105 := ⟨by decide +kernel, rfl⟩
theorem d_R_dropMarks_105 : gIl M_R_dropMarks 105 2 106 := Or.inr ⟨2, by decide +kernel, rfl, rfl⟩
theorem d_R_dropMarks_106 : gD M_R_dropMarks 106 (.iadd) 1 107 := ⟨by decide +kernel, rfl⟩
theorem d_R_dropMarks_107 : gD M_R_dropMarks 107 (.iaload) 1 108 := ⟨by decide +kernel, rfl⟩
theorem d_R_dropMarks_108 : gD M_R_dropMarks 108 (.iastore) 1 109 := ⟨by decide +kernel, rfl⟩
theorem d_R_dropMarks_109 : gIc M_R_dropMarks 109 2 1 112 := ⟨1, by decide +kernel, by decide, rfl⟩
theorem d_R_dropMarks_112 : gB M_R_dropMarks 112 (.goto (-110)) (-110) 115 2 := ⟨by decide +kernel, rfl, by decide⟩
theorem d_R_dropMarks_115 : gD M_R_dropMarks 115 (.return_) 1 116 := ⟨by decide +kernel, rfl⟩
theorem d_R_nextToLoad_0 : gN M_R_nextToLoad 0 (-1) 1 := Or.inl ⟨(-1), by decide +kernel, by decide, rfl⟩
theorem d_R_nextToLoad_1 : gIs M_R_nextToLoad 1 4 3 := Or.inl ⟨by decide +kernel, rfl⟩
theorem d_R_nextToLoad_3 : gN M_R_nextToLoad 3 0 4 := Or.inl ⟨0, by decide +kernel, by decide, rfl⟩
theorem d_R_nextToLoad_4 : gIs M_R_nextToLoad 4 5 6 := Or.inl ⟨by decide +kernel, rfl⟩
theorem d_R_nextToLoad_6 : gIl M_R_nextToLoad 6 5 8 := Or.inl ⟨by decide +kernel, rfl⟩
theorem d_R_nextToLoad_8 : gN M_R_nextToLoad 8 40 10 := Or.inr (Or.inl ⟨40, by decide +kernel, by decide, rfl⟩)
theorem d_R_nextToLoad_10 : gB M_R_nextToLoad 10 (.if_icmp .ge 92) 92 13 102 := ⟨by decide +kernel, rfl, by decide⟩
theorem d_R_nextToLoad_13 : gAl M_R_nextToLoad 13 0 14 := Or.inr ⟨0, by decide +kernel, rfl, rfl⟩
theorem d_R_nextToLoad_14 : gGf M_R_nextToLoad 14 6 7 17 := ⟨25, by decide +kernel, rfl, fl_R_25 _ rfl⟩
theorem d_R_nextToLoad_17 : gN M_R_nextToLoad 17 40 19 := Or.inr (Or.inl ⟨40, by decide +kernel, by decide, rfl⟩)
theorem d_R_nextToLoad_19 : gIl M_R_nextToLoad 19 1 20 := Or.inr ⟨1, by decide +kernel, rfl, rfl⟩
theorem d_R_nextToLoad_20 : gD M_R_nextToLoad 20 (.imul) 1 21 := ⟨by decide +kernel, rfl⟩
theorem d_R_nextToLoad_21 : gIl M_R_nextToLoad 21 5 23 := Or.inl ⟨by decide +kernel, rfl⟩
theorem d_R_nextToLoad_23 : gD M_R_nextToLoad 23 (.iadd) 1 24 := ⟨by decide +kernel, rfl⟩
theorem d_R_nextToLoad_24 : gD M_R_nextToLoad 24 (.iaload) 1 25 := ⟨by decide +kernel, rfl⟩
theorem d_R_nextToLoad_25 : gN M_R_nextToLoad 25 1 26 := Or.inl ⟨1, by decide +kernel, by decide, rfl⟩
theorem d_R_nextToLoad_26 : gD M_R_nextToLoad 26 (.isub) 1 27 := ⟨by decide +kernel, rfl⟩
theorem d_R_nextToLoad_27 : gIs M_R_nextToLoad 27 6 29 := Or.inl ⟨by decide +kernel, rfl⟩
theorem d_R_nextToLoad_29 : gIl M_R_nextToLoad 29 6 31 := Or.inl ⟨by decide +kernel, rfl⟩
theorem d_R_nextToLoad_31 : gB M_R_nextToLoad 31 (.ifCond .lt 32) 32 34 63 := ⟨by decide +kernel, rfl, by decide⟩
theorem d_R_nextToLoad_34 : gAl M_R_nextToLoad 34 0 35 := Or.inr ⟨0, by decide +kernel, rfl, rfl⟩
theorem d_R_nextToLoad_35 : gIl M_R_nextToLoad 35 1 36 := Or.inr ⟨1, by decide +kernel, rfl, rfl⟩
theorem d_R_nextToLoad_36 : gIl M_R_nextToLoad 36 6 38 := Or.inl ⟨by decide +kernel, rfl⟩
theorem d_R_nextToLoad_38 : gIl M_R_nextToLoad 38 2 39 := Or.inr ⟨2, by decide +kernel, rfl, rfl⟩
theorem d_R_nextToLoad_39 : gD M_R_nextToLoad 39 (.invokevirtual 103) 3 42 := ⟨by decide +kernel, rfl⟩
theorem cs_R_nextToLoad_39 : gClV M_R_nextToLoad 103 6 y_R_isLacked M_R_isLacked 3 := ⟨⟨gW_c5 136 rfl rfl, gW_c1 8 rfl rfl, cd_R_isLacked, by decide +kernel, by decide +kernel⟩, rfl, gW_c5 138 rfl rfl, gW_c0 32 rfl rfl, TX5, 12, rfl⟩
theorem d_R_nextToLoad_42 : gB M_R_nextToLoad 42 (.ifCond .eq 21) 21 45 63 := ⟨by decide +kernel, rfl, by decide⟩
theorem d_R_nextToLoad_45 : gIl M_R_nextToLoad 45 3 46 := Or.inr ⟨3, by decide +kernel, rfl, rfl⟩
theorem d_R_nextToLoad_46 : gB M_R_nextToLoad 46 (.ifCond .lt 13) 13 49 59 := ⟨by decide +kernel, rfl, by decide⟩
theorem d_R_nextToLoad_49 : gAl M_R_nextToLoad 49 0 50 := Or.inr ⟨0, by decide +kernel, rfl, rfl⟩
theorem d_R_nextToLoad_50 : gIl M_R_nextToLoad 50 3 51 := Or.inr ⟨3, by decide +kernel, rfl, rfl⟩
theorem d_R_nextToLoad_51 : gIl M_R_nextToLoad 51 6 53 := Or.inl ⟨by decide +kernel, rfl⟩
theorem d_R_nextToLoad_53 : gD M_R_nextToLoad 53 (.invokevirtual 106) 3 56 := ⟨by decide +kernel, rfl⟩
theorem cs_R_nextToLoad_53 : gClV M_R_nextToLoad 106 6 y_R_isSooner M_R_isSooner 2 := ⟨⟨gW_c5 140 rfl rfl, gW_c1 8 rfl rfl, cd_R_isSooner, by decide +kernel, by decide +kernel⟩, rfl, gW_c5 142 rfl rfl, gW_c0 33 rfl rfl, TX5, 12, rfl⟩
theorem d_R_nextToLoad_56 : gB M_R_nextToLoad 56 (.ifCond .eq 7) 7 59 63 := ⟨by decide +kernel, rfl, by decide⟩
theorem d_R_nextToLoad_59 : gN M_R_nextToLoad 59 1 60 := Or.inl ⟨1, by decide +kernel, by decide, rfl⟩
theorem d_R_nextToLoad_60 : gB M_R_nextToLoad 60 (.goto 4) 4 63 64 := ⟨by decide +kernel, rfl, by decide⟩
theorem d_R_nextToLoad_63 : gN M_R_nextToLoad 63 0 64 := Or.inl ⟨0, by decide +kernel, by decide, rfl⟩
theorem d_R_nextToLoad_64 : gIs M_R_nextToLoad 64 7 66 := Or.inl ⟨by decide +kernel, rfl⟩
theorem d_R_nextToLoad_66 : gIl M_R_nextToLoad 66 7 68 := Or.inl ⟨by decide +kernel, rfl⟩
theorem d_R_nextToLoad_68 : gB M_R_nextToLoad 68 (.ifCond .eq 24) 24 71 92 := ⟨by decide +kernel, rfl, by decide⟩
theorem d_R_nextToLoad_71 : gIl M_R_nextToLoad 71 4 73 := Or.inl ⟨by decide +kernel, rfl⟩
theorem d_R_nextToLoad_73 : gB M_R_nextToLoad 73 (.ifCond .lt 14) 14 76 87 := ⟨by decide +kernel, rfl, by decide⟩
theorem d_R_nextToLoad_76 : gAl M_R_nextToLoad 76 0 77 := Or.inr ⟨0, by decide +kernel, rfl, rfl⟩
theorem d_R_nextToLoad_77 : gIl M_R_nextToLoad 77 6 79 := Or.inl ⟨by decide +kernel, rfl⟩
theorem d_R_nextToLoad_79 : gIl M_R_nextToLoad 79 4 81 := Or.inl ⟨by decide +kernel, rfl⟩
theorem d_R_nextToLoad_81 : gD M_R_nextToLoad 81 (.invokevirtual 106) 3 84 := ⟨by decide +kernel, rfl⟩
theorem cs_R_nextToLoad_81 : gClV M_R_nextToLoad 106 6 y_R_isSooner M_R_isSooner 2 := ⟨⟨gW_c5 140 rfl rfl, gW_c1 8 rfl rfl, cd_R_isSooner, by decide +kernel, by decide +kernel⟩, rfl, gW_c5 142 rfl rfl, gW_c0 33 rfl rfl, TX5, 12, rfl⟩
theorem d_R_nextToLoad_84 : gB M_R_nextToLoad 84 (.ifCond .eq 8) 8 87 92 := ⟨by decide +kernel, rfl, by decide⟩
theorem d_R_nextToLoad_87 : gIl M_R_nextToLoad 87 6 89 := Or.inl ⟨by decide +kernel, rfl⟩
theorem d_R_nextToLoad_89 : gB M_R_nextToLoad 89 (.goto 5) 5 92 94 := ⟨by decide +kernel, rfl, by decide⟩
theorem d_R_nextToLoad_92 : gIl M_R_nextToLoad 92 4 94 := Or.inl ⟨by decide +kernel, rfl⟩
theorem d_R_nextToLoad_94 : gIs M_R_nextToLoad 94 4 96 := Or.inl ⟨by decide +kernel, rfl⟩
theorem d_R_nextToLoad_96 : gIc M_R_nextToLoad 96 5 1 99 := ⟨1, by decide +kernel, by decide, rfl⟩
theorem d_R_nextToLoad_99 : gB M_R_nextToLoad 99 (.goto (-93)) (-93) 102 6 := ⟨by decide +kernel, rfl, by decide⟩
theorem d_R_nextToLoad_102 : gIl M_R_nextToLoad 102 4 104 := Or.inl ⟨by decide +kernel, rfl⟩
theorem d_R_nextToLoad_104 : gD M_R_nextToLoad 104 (.ireturn) 1 105 := ⟨by decide +kernel, rfl⟩
theorem d_R_isLacked_0 : gN M_R_isLacked 0 0 1 := Or.inl ⟨0, by decide +kernel, by decide, rfl⟩
theorem d_R_isLacked_1 : gIs M_R_isLacked 1 4 3 := Or.inl ⟨by decide +kernel, rfl⟩
theorem d_R_isLacked_3 : gN M_R_isLacked 3 0 4 := Or.inl ⟨0, by decide +kernel, by decide, rfl⟩
theorem d_R_isLacked_4 : gIs M_R_isLacked 4 5 6 := Or.inl ⟨by decide +kernel, rfl⟩
theorem d_R_isLacked_6 : gIl M_R_isLacked 6 5 8 := Or.inl ⟨by decide +kernel, rfl⟩
theorem d_R_isLacked_8 : gN M_R_isLacked 8 4 9 := Or.inl ⟨4, by decide +kernel, by decide, rfl⟩
theorem d_R_isLacked_9 : gB M_R_isLacked 9 (.if_icmp .ge 69) 69 12 78 := ⟨by decide +kernel, rfl, by decide⟩
theorem d_R_isLacked_12 : gIl M_R_isLacked 12 5 14 := Or.inl ⟨by decide +kernel, rfl⟩
theorem d_R_isLacked_14 : gIl M_R_isLacked 14 1 15 := Or.inr ⟨1, by decide +kernel, rfl, rfl⟩
theorem d_R_isLacked_15 : gB M_R_isLacked 15 (.if_icmp .eq 17) 17 18 32 := ⟨by decide +kernel, rfl, by decide⟩
theorem d_R_isLacked_18 : gIl M_R_isLacked 18 3 19 := Or.inr ⟨3, by decide +kernel, rfl, rfl⟩
theorem d_R_isLacked_19 : gIl M_R_isLacked 19 5 21 := Or.inl ⟨by decide +kernel, rfl⟩
theorem d_R_isLacked_21 : gD M_R_isLacked 21 (.ishr) 1 22 := ⟨by decide +kernel, rfl⟩
theorem d_R_isLacked_22 : gN M_R_isLacked 22 1 23 := Or.inl ⟨1, by decide +kernel, by decide, rfl⟩
theorem d_R_isLacked_23 : gD M_R_isLacked 23 (.iand) 1 24 := ⟨by decide +kernel, rfl⟩
theorem d_R_isLacked_24 : gN M_R_isLacked 24 1 25 := Or.inl ⟨1, by decide +kernel, by decide, rfl⟩
theorem d_R_isLacked_25 : gB M_R_isLacked 25 (.if_icmp .ne 7) 7 28 32 := ⟨by decide +kernel, rfl, by decide⟩
theorem d_R_isLacked_28 : gN M_R_isLacked 28 1 29 := Or.inl ⟨1, by decide +kernel, by decide, rfl⟩
theorem d_R_isLacked_29 : gB M_R_isLacked 29 (.goto 4) 4 32 33 := ⟨by decide +kernel, rfl, by decide⟩
theorem d_R_isLacked_32 : gN M_R_isLacked 32 0 33 := Or.inl ⟨0, by decide +kernel, by decide, rfl⟩
theorem d_R_isLacked_33 : gIs M_R_isLacked 33 6 35 := Or.inl ⟨by decide +kernel, rfl⟩
theorem d_R_isLacked_35 : gIl M_R_isLacked 35 4 37 := Or.inl ⟨by decide +kernel, rfl⟩
theorem d_R_isLacked_37 : gB M_R_isLacked 37 (.ifCond .ne 28) 28 40 65 := ⟨by decide +kernel, rfl, by decide⟩
theorem d_R_isLacked_40 : gIl M_R_isLacked 40 6 42 := Or.inl ⟨by decide +kernel, rfl⟩
theorem d_R_isLacked_42 : gB M_R_isLacked 42 (.ifCond .eq 27) 27 45 69 := ⟨by decide +kernel, rfl, by decide⟩
theorem d_R_isLacked_45 : gAl M_R_isLacked 45 0 46 := Or.inr ⟨0, by decide +kernel, rfl, rfl⟩
theorem d_R_isLacked_46 : gIl M_R_isLacked 46 2 47 := Or.inr ⟨2, by decide +kernel, rfl, rfl⟩
theorem d_R_isLacked_47 : gIl M_R_isLacked 47 1 48 := Or.inr ⟨1, by decide +kernel, rfl, rfl⟩
theorem d_R_isLacked_48 : gIl M_R_isLacked 48 5 50 := Or.inl ⟨by decide +kernel, rfl⟩
theorem d_R_isLacked_50 : gAl M_R_isLacked 50 0 51 := Or.inr ⟨0, by decide +kernel, rfl, rfl⟩
theorem d_R_isLacked_51 : gGf M_R_isLacked 51 6 2 54 := ⟨7, by decide +kernel, rfl, fl_R_7 _ rfl⟩
theorem d_R_isLacked_54 : gIl M_R_isLacked 54 2 55 := Or.inr ⟨2, by decide +kernel, rfl, rfl⟩
theorem d_R_isLacked_55 : gD M_R_isLacked 55 (.iaload) 1 56 := ⟨by decide +kernel, rfl⟩
theorem d_R_isLacked_56 : gD M_R_isLacked 56 (.invokestatic 60) 3 59 := ⟨by decide +kernel, rfl⟩
theorem cs_R_isLacked_56 : gClS M_R_isLacked 60 y_R_at M_R_at 3 := ⟨⟨gW_c5 48 rfl rfl, gW_c1 8 rfl rfl, cd_R_at, by decide +kernel, by decide +kernel⟩, gW_c5 49 rfl rfl⟩
theorem d_R_isLacked_59 : gD M_R_isLacked 59 (.invokevirtual 94) 3 62 := ⟨by decide +kernel, rfl⟩
theorem cs_R_isLacked_59 : gClV M_R_isLacked 94 6 y_R_isCovered M_R_isCovered 2 := ⟨⟨gW_c5 120 rfl rfl, gW_c1 8 rfl rfl, cd_R_isCovered, by decide +kernel, by decide +kernel⟩, rfl, gW_c5 122 rfl rfl, gW_c0 28 rfl rfl, TX5, 12, rfl⟩
theorem d_R_isLacked_62 : gB M_R_isLacked 62 (.ifCond .ne 7) 7 65 69 := ⟨by decide +kernel, rfl, by decide⟩
theorem d_R_isLacked_65 : gN M_R_isLacked 65 1 66 := Or.inl ⟨1, by decide +kernel, by decide, rfl⟩
theorem d_R_isLacked_66 : gB M_R_isLacked 66 (.goto 4) 4 69 70 := ⟨by decide +kernel, rfl, by decide⟩
theorem d_R_isLacked_69 : gN M_R_isLacked 69 0 70 := Or.inl ⟨0, by decide +kernel, by decide, rfl⟩
theorem d_R_isLacked_70 : gIs M_R_isLacked 70 4 72 := Or.inl ⟨by decide +kernel, rfl⟩
theorem d_R_isLacked_72 : gIc M_R_isLacked 72 5 1 75 := ⟨1, by decide +kernel, by decide, rfl⟩
theorem d_R_isLacked_75 : gB M_R_isLacked 75 (.goto (-69)) (-69) 78 6 := ⟨by decide +kernel, rfl, by decide⟩
theorem d_R_isLacked_78 : gIl M_R_isLacked 78 4 80 := Or.inl ⟨by decide +kernel, rfl⟩
theorem d_R_isLacked_80 : gD M_R_isLacked 80 (.ireturn) 1 81 := ⟨by decide +kernel, rfl⟩
theorem d_R_isSooner_0 : gAl M_R_isSooner 0 0 1 := Or.inr ⟨0, by decide +kernel, rfl, rfl⟩
theorem d_R_isSooner_1 : gIl M_R_isSooner 1 1 2 := Or.inr ⟨1, by decide +kernel, rfl, rfl⟩
theorem d_R_isSooner_2 : gD M_R_isSooner 2 (.invokevirtual 100) 3 5 := ⟨by decide +kernel, rfl⟩
theorem cs_R_isSooner_2 : gClV M_R_isSooner 100 6 y_R_sumOf M_R_sumOf 1 := ⟨⟨gW_c5 144 rfl rfl, gW_c1 8 rfl rfl, cd_R_sumOf, by decide +kernel, by decide +kernel⟩, rfl, gW_c5 146 rfl rfl, gW_c0 34 rfl rfl, TX5, 12, rfl⟩
theorem d_R_isSooner_5 : gAl M_R_isSooner 5 0 6 := Or.inr ⟨0, by decide +kernel, rfl, rfl⟩
theorem d_R_isSooner_6 : gIl M_R_isSooner 6 2 7 := Or.inr ⟨2, by decide +kernel, rfl, rfl⟩
theorem d_R_isSooner_7 : gD M_R_isSooner 7 (.invokevirtual 100) 3 10 := ⟨by decide +kernel, rfl⟩
theorem cs_R_isSooner_7 : gClV M_R_isSooner 100 6 y_R_sumOf M_R_sumOf 1 := ⟨⟨gW_c5 144 rfl rfl, gW_c1 8 rfl rfl, cd_R_sumOf, by decide +kernel, by decide +kernel⟩, rfl, gW_c5 146 rfl rfl, gW_c0 34 rfl rfl, TX5, 12, rfl⟩
theorem d_R_isSooner_10 : gB M_R_isSooner 10 (.if_icmp .eq 22) 22 13 32 := ⟨by decide +kernel, rfl, by decide⟩
theorem d_R_isSooner_13 : gAl M_R_isSooner 13 0 14 := Or.inr ⟨0, by decide +kernel, rfl, rfl⟩
theorem d_R_isSooner_14 : gIl M_R_isSooner 14 1 15 := Or.inr ⟨1, by decide +kernel, rfl, rfl⟩
theorem d_R_isSooner_15 : gD M_R_isSooner 15 (.invokevirtual 100) 3 18 := ⟨by decide +kernel, rfl⟩
theorem cs_R_isSooner_15 : gClV M_R_isSooner 100 6 y_R_sumOf M_R_sumOf 1 := ⟨⟨gW_c5 144 rfl rfl, gW_c1 8 rfl rfl, cd_R_sumOf, by decide +kernel, by decide +kernel⟩, rfl, gW_c5 146 rfl rfl, gW_c0 34 rfl rfl, TX5, 12, rfl⟩
theorem d_R_isSooner_18 : gAl M_R_isSooner 18 0 19 := Or.inr ⟨0, by decide +kernel, rfl, rfl⟩
theorem d_R_isSooner_19 : gIl M_R_isSooner 19 2 20 := Or.inr ⟨2, by decide +kernel, rfl, rfl⟩
theorem d_R_isSooner_20 : gD M_R_isSooner 20 (.invokevirtual 100) 3 23 := ⟨by decide +kernel, rfl⟩
theorem cs_R_isSooner_20 : gClV M_R_isSooner 100 6 y_R_sumOf M_R_sumOf 1 := ⟨⟨gW_c5 144 rfl rfl, gW_c1 8 rfl rfl, cd_R_sumOf, by decide +kernel, by decide +kernel⟩, rfl, gW_c5 146 rfl rfl, gW_c0 34 rfl rfl, TX5, 12, rfl⟩
theorem d_R_isSooner_23 : gB M_R_isSooner 23 (.if_icmp .ge 7) 7 26 30 := ⟨by decide +kernel, rfl, by decide⟩
theorem d_R_isSooner_26 : gN M_R_isSooner 26 1 27 := Or.inl ⟨1, by decide +kernel, by decide, rfl⟩
theorem d_R_isSooner_27 : gB M_R_isSooner 27 (.goto 4) 4 30 31 := ⟨by decide +kernel, rfl, by decide⟩
theorem d_R_isSooner_30 : gN M_R_isSooner 30 0 31 := Or.inl ⟨0, by decide +kernel, by decide, rfl⟩
theorem d_R_isSooner_31 : gD M_R_isSooner 31 (.ireturn) 1 32 := ⟨by decide +kernel, rfl⟩
theorem d_R_isSooner_32 : gAl M_R_isSooner 32 0 33 := Or.inr ⟨0, by decide +kernel, rfl, rfl⟩
theorem d_R_isSooner_33 : gGf M_R_isSooner 33 6 2 36 := ⟨7, by decide +kernel, rfl, fl_R_7 _ rfl⟩
theorem d_R_isSooner_36 : gIl M_R_isSooner 36 1 37 := Or.inr ⟨1, by decide +kernel, rfl, rfl⟩
theorem d_R_isSooner_37 : gD M_R_isSooner 37 (.iaload) 1 38 := ⟨by decide +kernel, rfl⟩
theorem d_R_isSooner_38 : gAl M_R_isSooner 38 0 39 := Or.inr ⟨0, by decide +kernel, rfl, rfl⟩
theorem d_R_isSooner_39 : gGf M_R_isSooner 39 6 2 42 := ⟨7, by decide +kernel, rfl, fl_R_7 _ rfl⟩
theorem d_R_isSooner_42 : gIl M_R_isSooner 42 2 43 := Or.inr ⟨2, by decide +kernel, rfl, rfl⟩
theorem d_R_isSooner_43 : gD M_R_isSooner 43 (.iaload) 1 44 := ⟨by decide +kernel, rfl⟩
theorem d_R_isSooner_44 : gB M_R_isSooner 44 (.if_icmp .eq 24) 24 47 68 := ⟨by decide +kernel, rfl, by decide⟩
theorem d_R_isSooner_47 : gAl M_R_isSooner 47 0 48 := Or.inr ⟨0, by decide +kernel, rfl, rfl⟩
theorem d_R_isSooner_48 : gGf M_R_isSooner 48 6 2 51 := ⟨7, by decide +kernel, rfl, fl_R_7 _ rfl⟩
theorem d_R_isSooner_51 : gIl M_R_isSooner 51 1 52 := Or.inr ⟨1, by decide +kernel, rfl, rfl⟩
theorem d_R_isSooner_52 : gD M_R_isSooner 52 (.iaload) 1 53 := ⟨by decide +kernel, rfl⟩
theorem d_R_isSooner_53 : gAl M_R_isSooner 53 0 54 := Or.inr ⟨0, by decide +kernel, rfl, rfl⟩
theorem d_R_isSooner_54 : gGf M_R_isSooner 54 6 2 57 := ⟨7, by decide +kernel, rfl, fl_R_7 _ rfl⟩
theorem d_R_isSooner_57 : gIl M_R_isSooner 57 2 58 := Or.inr ⟨2, by decide +kernel, rfl, rfl⟩
theorem d_R_isSooner_58 : gD M_R_isSooner 58 (.iaload) 1 59 := ⟨by decide +kernel, rfl⟩
theorem d_R_isSooner_59 : gB M_R_isSooner 59 (.if_icmp .ge 7) 7 62 66 := ⟨by decide +kernel, rfl, by decide⟩
theorem d_R_isSooner_62 : gN M_R_isSooner 62 1 63 := Or.inl ⟨1, by decide +kernel, by decide, rfl⟩
theorem d_R_isSooner_63 : gB M_R_isSooner 63 (.goto 4) 4 66 67 := ⟨by decide +kernel, rfl, by decide⟩
theorem d_R_isSooner_66 : gN M_R_isSooner 66 0 67 := Or.inl ⟨0, by decide +kernel, by decide, rfl⟩
theorem d_R_isSooner_67 : gD M_R_isSooner 67 (.ireturn) 1 68 := ⟨by decide +kernel, rfl⟩
theorem d_R_isSooner_68 : gAl M_R_isSooner 68 0 69 := Or.inr ⟨0, by decide +kernel, rfl, rfl⟩
theorem d_R_isSooner_69 : gIl M_R_isSooner 69 1 70 := Or.inr ⟨1, by decide +kernel, rfl, rfl⟩
theorem d_R_isSooner_70 : gIl M_R_isSooner 70 2 71 := Or.inr ⟨2, by decide +kernel, rfl, rfl⟩
theorem d_R_isSooner_71 : gD M_R_isSooner 71 (.invokevirtual 84) 3 74 := ⟨by decide +kernel, rfl⟩
theorem cs_R_isSooner_71 : gClV M_R_isSooner 84 6 y_R_compare M_R_compare 2 := ⟨⟨gW_c5 99 rfl rfl, gW_c1 8 rfl rfl, cd_R_compare, by decide +kernel, by decide +kernel⟩, rfl, gW_c5 101 rfl rfl, gW_c0 25 rfl rfl, TX5, 12, rfl⟩
theorem d_R_isSooner_74 : gB M_R_isSooner 74 (.ifCond .ge 7) 7 77 81 := ⟨by decide +kernel, rfl, by decide⟩
theorem d_R_isSooner_77 : gN M_R_isSooner 77 1 78 := Or.inl ⟨1, by decide +kernel, by decide, rfl⟩
theorem d_R_isSooner_78 : gB M_R_isSooner 78 (.goto 4) 4 81 82 := ⟨by decide +kernel, rfl, by decide⟩
theorem d_R_isSooner_81 : gN M_R_isSooner 81 0 82 := Or.inl ⟨0, by decide +kernel, by decide, rfl⟩
theorem d_R_isSooner_82 : gD M_R_isSooner 82 (.ireturn) 1 83 := ⟨by decide +kernel, rfl⟩
theorem d_R_sumOf_0 : gAl M_R_sumOf 0 0 1 := Or.inr ⟨0, by decide +kernel, rfl, rfl⟩
theorem d_R_sumOf_1 : gIl M_R_sumOf 1 1 2 := Or.inr ⟨1, by decide +kernel, rfl, rfl⟩
theorem d_R_sumOf_2 : gN M_R_sumOf 2 0 3 := Or.inl ⟨0, by decide +kernel, by decide, rfl⟩
theorem d_R_sumOf_3 : gD M_R_sumOf 3 (.invokevirtual 41) 3 6 := ⟨by decide +kernel, rfl⟩
theorem cs_R_sumOf_3 : gClV M_R_sumOf 41 6 y_R_counterOf M_R_counterOf 2 := ⟨⟨gW_c5 71 rfl rfl, gW_c1 8 rfl rfl, cd_R_counterOf, by decide +kernel, by decide +kernel⟩, rfl, gW_c5 73 rfl rfl, gW_c0 21 rfl rfl, TX5, 12, rfl⟩
theorem d_R_sumOf_6 : gAl M_R_sumOf 6 0 7 := Or.inr ⟨0, by decide +kernel, rfl, rfl⟩
theorem d_R_sumOf_7 : gIl M_R_sumOf 7 1 8 := Or.inr ⟨1, by decide +kernel, rfl, rfl⟩
theorem d_R_sumOf_8 : gN M_R_sumOf 8 1 9 := Or.inl ⟨1, by decide +kernel, by decide, rfl⟩
theorem d_R_sumOf_9 : gD M_R_sumOf 9 (.invokevirtual 41) 3 12 := ⟨by decide +kernel, rfl⟩
theorem cs_R_sumOf_9 : gClV M_R_sumOf 41 6 y_R_counterOf M_R_counterOf 2 := ⟨⟨gW_c5 71 rfl rfl, gW_c1 8 rfl rfl, cd_R_counterOf, by decide +kernel, by decide +kernel⟩, rfl, gW_c5 73 rfl rfl, gW_c0 21 rfl rfl, TX5, 12, rfl⟩
theorem d_R_sumOf_12 : gD M_R_sumOf 12 (.iadd) 1 13 := ⟨by decide +kernel, rfl⟩
theorem d_R_sumOf_13 : gAl M_R_sumOf 13 0 14 := Or.inr ⟨0, by decide +kernel, rfl, rfl⟩
theorem d_R_sumOf_14 : gIl M_R_sumOf 14 1 15 := Or.inr ⟨1, by decide +kernel, rfl, rfl⟩
theorem d_R_sumOf_15 : gN M_R_sumOf 15 2 16 := Or.inl ⟨2, by decide +kernel, by decide, rfl⟩
theorem d_R_sumOf_16 : gD M_R_sumOf 16 (.invokevirtual 41) 3 19 := ⟨by decide +kernel, rfl⟩
theorem cs_R_sumOf_16 : gClV M_R_sumOf 41 6 y_R_counterOf M_R_counterOf 2 := ⟨⟨gW_c5 71 rfl rfl, gW_c1 8 rfl rfl, cd_R_counterOf, by decide +kernel, by decide +kernel⟩, rfl, gW_c5 73 rfl rfl, gW_c0 21 rfl rfl, TX5, 12, rfl⟩
theorem d_R_sumOf_19 : gD M_R_sumOf 19 (.iadd) 1 20 := ⟨by decide +kernel, rfl⟩
theorem d_R_sumOf_20 : gAl M_R_sumOf 20 0 21 := Or.inr ⟨0, by decide +kernel, rfl, rfl⟩
theorem d_R_sumOf_21 : gIl M_R_sumOf 21 1 22 := Or.inr ⟨1, by decide +kernel, rfl, rfl⟩
theorem d_R_sumOf_22 : gN M_R_sumOf 22 3 23 := Or.inl ⟨3, by decide +kernel, by decide, rfl⟩
theorem d_R_sumOf_23 : gD M_R_sumOf 23 (.invokevirtual 41) 3 26 := ⟨by decide +kernel, rfl⟩
theorem cs_R_sumOf_23 : gClV M_R_sumOf 41 6 y_R_counterOf M_R_counterOf 2 := ⟨⟨gW_c5 71 rfl rfl, gW_c1 8 rfl rfl, cd_R_counterOf, by decide +kernel, by decide +kernel⟩, rfl, gW_c5 73 rfl rfl, gW_c0 21 rfl rfl, TX5, 12, rfl⟩
theorem d_R_sumOf_26 : gD M_R_sumOf 26 (.iadd) 1 27 := ⟨by decide +kernel, rfl⟩
theorem d_R_sumOf_27 : gD M_R_sumOf 27 (.ireturn) 1 28 := ⟨by decide +kernel, rfl⟩
theorem d_R_roomOf_0 : gN M_R_roomOf 0 100 2 := Or.inr (Or.inl ⟨100, by decide +kernel, by decide, rfl⟩)
theorem d_R_roomOf_2 : gIs M_R_roomOf 2 2 3 := Or.inr ⟨2, by decide +kernel, rfl, rfl⟩
theorem d_R_roomOf_3 : gN M_R_roomOf 3 0 4 := Or.inl ⟨0, by decide +kernel, by decide, rfl⟩
theorem d_R_roomOf_4 : gIs M_R_roomOf 4 3 5 := Or.inr ⟨3, by decide +kernel, rfl, rfl⟩
theorem d_R_roomOf_5 : gIl M_R_roomOf 5 3 6 := Or.inr ⟨3, by decide +kernel, rfl, rfl⟩
theorem d_R_roomOf_6 : gAl M_R_roomOf 6 0 7 := Or.inr ⟨0, by decide +kernel, rfl, rfl⟩
theorem d_R_roomOf_7 : gGf M_R_roomOf 7 6 9 10 := ⟨31, by decide +kernel, rfl, fl_R_31 _ rfl⟩
theorem d_R_roomOf_10 : gIl M_R_roomOf 10 1 11 := Or.inr ⟨1, by decide +kernel, rfl, rfl⟩
theorem d_R_roomOf_11 : gD M_R_roomOf 11 (.iaload) 1 12 := ⟨by decide +kernel, rfl⟩
theorem d_R_roomOf_12 : gB M_R_roomOf 12 (.if_icmp .ge 30) 30 15 42 := ⟨by decide +kernel, rfl, by decide⟩
theorem d_R_roomOf_15 : gIl M_R_roomOf 15 2 16 := Or.inr ⟨2, by decide +kernel, rfl, rfl⟩
theorem d_R_roomOf_16 : gN M_R_roomOf 16 8 18 := Or.inr (Or.inl ⟨8, by decide +kernel, by decide, rfl⟩)
theorem d_R_roomOf_18 : gD M_R_roomOf 18 (.isub) 1 19 := ⟨by decide +kernel, rfl⟩
theorem d_R_roomOf_19 : gAl M_R_roomOf 19 0 20 := Or.inr ⟨0, by decide +kernel, rfl, rfl⟩
theorem d_R_roomOf_20 : gAl M_R_roomOf 20 0 21 := Or.inr ⟨0, by decide +kernel, rfl, rfl⟩
theorem d_R_roomOf_21 : gGf M_R_roomOf 21 6 10 24 := ⟨34, by decide +kernel, rfl, fl_R_34 _ rfl⟩
theorem d_R_roomOf_24 : gN M_R_roomOf 24 20 26 := Or.inr (Or.inl ⟨20, by decide +kernel, by decide, rfl⟩)
theorem d_R_roomOf_26 : gIl M_R_roomOf 26 1 27 := Or.inr ⟨1, by decide +kernel, rfl, rfl⟩
theorem d_R_roomOf_27 : gD M_R_roomOf 27 (.imul) 1 28 := ⟨by decide +kernel, rfl⟩
theorem d_R_roomOf_28 : gIl M_R_roomOf 28 3 29 := Or.inr ⟨3, by decide +kernel, rfl, rfl⟩
theorem d_R_roomOf_29 : gD M_R_roomOf 29 (.iadd) 1 30 := ⟨by decide +kernel, rfl⟩
theorem d_R_roomOf_30 : gD M_R_roomOf 30 (.iaload) 1 31 := ⟨by decide +kernel, rfl⟩
theorem d_R_roomOf_31 : gD M_R_roomOf 31 (.invokevirtual 45) 3 34 := ⟨by decide +kernel, rfl⟩
theorem cs_R_roomOf_31 : gClV M_R_roomOf 45 6 y_R_bytesOf M_R_bytesOf 1 := ⟨⟨gW_c5 59 rfl rfl, gW_c1 8 rfl rfl, cd_R_bytesOf, by decide +kernel, by decide +kernel⟩, rfl, gW_c5 61 rfl rfl, gW_c0 18 rfl rfl, TX5, 12, rfl⟩
theorem d_R_roomOf_34 : gD M_R_roomOf 34 (.isub) 1 35 := ⟨by decide +kernel, rfl⟩
theorem d_R_roomOf_35 : gIs M_R_roomOf 35 2 36 := Or.inr ⟨2, by decide +kernel, rfl, rfl⟩
theorem d_R_roomOf_36 : gIc M_R_roomOf 36 3 1 39 := ⟨1, by decide +kernel, by decide, rfl⟩
theorem d_R_roomOf_39 : gB M_R_roomOf 39 (.goto (-34)) (-34) 42 5 := ⟨by decide +kernel, rfl, by decide⟩
theorem d_R_roomOf_42 : gIl M_R_roomOf 42 2 43 := Or.inr ⟨2, by decide +kernel, rfl, rfl⟩
theorem d_R_roomOf_43 : gD M_R_roomOf 43 (.ireturn) 1 44 := ⟨by decide +kernel, rfl⟩
theorem d_R_cut_0 : gAl M_R_cut 0 0 1 := Or.inr ⟨0, by decide +kernel, rfl, rfl⟩
theorem d_R_cut_1 : gIl M_R_cut 1 1 2 := Or.inr ⟨1, by decide +kernel, rfl, rfl⟩
theorem d_R_cut_2 : gN M_R_cut 2 0 3 := Or.inl ⟨0, by decide +kernel, by decide, rfl⟩
theorem d_R_cut_3 : gN M_R_cut 3 2 4 := Or.inl ⟨2, by decide +kernel, by decide, rfl⟩
theorem d_R_cut_4 : gD M_R_cut 4 (.invokestatic 73) 3 7 := ⟨by decide +kernel, rfl⟩
theorem cs_R_cut_4 : gClS M_R_cut 73 y_R_within M_R_within 3 := ⟨⟨gW_c5 41 rfl rfl, gW_c1 8 rfl rfl, cd_R_within, by decide +kernel, by decide +kernel⟩, gW_c5 42 rfl rfl⟩
theorem d_R_cut_7 : gB M_R_cut 7 (.ifCond .eq 12) 12 10 19 := ⟨by decide +kernel, rfl, by decide⟩
theorem d_R_cut_10 : gIl M_R_cut 10 2 11 := Or.inr ⟨2, by decide +kernel, rfl, rfl⟩
theorem d_R_cut_11 : gN M_R_cut 11 0 12 := Or.inl ⟨0, by decide +kernel, by decide, rfl⟩
theorem d_R_cut_12 : gN M_R_cut 12 3 13 := Or.inl ⟨3, by decide +kernel, by decide, rfl⟩
theorem d_R_cut_13 : gD M_R_cut 13 (.invokestatic 73) 3 16 := ⟨by decide +kernel, rfl⟩
theorem cs_R_cut_13 : gClS M_R_cut 73 y_R_within M_R_within 3 := ⟨⟨gW_c5 41 rfl rfl, gW_c1 8 rfl rfl, cd_R_within, by decide +kernel, by decide +kernel⟩, gW_c5 42 rfl rfl⟩
theorem d_R_cut_16 : gB M_R_cut 16 (.ifCond .ne 7) 7 19 23 := ⟨by decide +kernel, rfl, by decide⟩
theorem d_R_cut_19 : gN M_R_cut 19 1 20 := Or.inl ⟨1, by decide +kernel, by decide, rfl⟩
theorem d_R_cut_20 : gB M_R_cut 20 (.goto 13) 13 23 33 := ⟨by decide +kernel, rfl, by decide⟩
theorem d_R_cut_23 : gIl M_R_cut 23 4 25 := Or.inl ⟨by decide +kernel, rfl⟩
theorem d_R_cut_25 : gB M_R_cut 25 (.ifCond .ge 7) 7 28 32 := ⟨by decide +kernel, rfl, by decide⟩
theorem d_R_cut_28 : gN M_R_cut 28 2 29 := Or.inl ⟨2, by decide +kernel, by decide, rfl⟩
theorem d_R_cut_29 : gB M_R_cut 29 (.goto 4) 4 32 33 := ⟨by decide +kernel, rfl, by decide⟩
theorem d_R_cut_32 : gN M_R_cut 32 0 33 := Or.inl ⟨0, by decide +kernel, by decide, rfl⟩
theorem d_R_cut_33 : gPf M_R_cut 33 6 0 .int 36 := ⟨37, by decide +kernel, rfl, RX5, TX5, 12, "FolderRoundsModel", tyX5, rfl, by decide, gW_c4 233 rfl rfl, gws_6, Or.inl rfl, tyX5_ok, nmX5, by decide +kernel, Or.inl rfl⟩
theorem d_R_cut_36 : gAl M_R_cut 36 0 37 := Or.inr ⟨0, by decide +kernel, rfl, rfl⟩
theorem d_R_cut_37 : gGf M_R_cut 37 6 0 40 := ⟨37, by decide +kernel, rfl, fl_R_37 _ rfl⟩
theorem d_R_cut_40 : gB M_R_cut 40 (.ifCond .le 7) 7 43 47 := ⟨by decide +kernel, rfl, by decide⟩
theorem d_R_cut_43 : gN M_R_cut 43 0 44 := Or.inl ⟨0, by decide +kernel, by decide, rfl⟩
theorem d_R_cut_44 : gB M_R_cut 44 (.goto 12) 12 47 56 := ⟨by decide +kernel, rfl, by decide⟩
theorem d_R_cut_47 : gAl M_R_cut 47 0 48 := Or.inr ⟨0, by decide +kernel, rfl, rfl⟩
theorem d_R_cut_48 : gIl M_R_cut 48 1 49 := Or.inr ⟨1, by decide +kernel, rfl, rfl⟩
theorem d_R_cut_49 : gIl M_R_cut 49 2 50 := Or.inr ⟨2, by decide +kernel, rfl, rfl⟩
theorem d_R_cut_50 : gIl M_R_cut 50 3 51 := Or.inr ⟨3, by decide +kernel, rfl, rfl⟩
theorem d_R_cut_51 : gIl M_R_cut 51 4 53 := Or.inl ⟨by decide +kernel, rfl⟩
theorem d_R_cut_53 : gD M_R_cut 53 (.invokevirtual 126) 3 56 := ⟨by decide +kernel, rfl⟩
theorem cs_R_cut_53 : gClV M_R_cut 126 6 y_R_visitUpTo M_R_visitUpTo 4 := ⟨⟨gW_c5 112 rfl rfl, gW_c1 8 rfl rfl, cd_R_visitUpTo, by decide +kernel, by decide +kernel⟩, rfl, gW_c5 114 rfl rfl, gW_c0 26 rfl rfl, TX5, 12, rfl⟩
theorem d_R_cut_56 : gD M_R_cut 56 (.ireturn) 1 57 := ⟨by decide +kernel, rfl⟩
theorem d_R_lose_0 : gAl M_R_lose 0 0 1 := Or.inr ⟨0, by decide +kernel, rfl, rfl⟩
theorem d_R_lose_1 : gIl M_R_lose 1 1 2 := Or.inr ⟨1, by decide +kernel, rfl, rfl⟩
theorem d_R_lose_2 : gN M_R_lose 2 0 3 := Or.inl ⟨0, by decide +kernel, by decide, rfl⟩
theorem d_R_lose_3 : gN M_R_lose 3 2 4 := Or.inl ⟨2, by decide +kernel, by decide, rfl⟩
theorem d_R_lose_4 : gD M_R_lose 4 (.invokestatic 73) 3 7 := ⟨by decide +kernel, rfl⟩
theorem cs_R_lose_4 : gClS M_R_lose 73 y_R_within M_R_within 3 := ⟨⟨gW_c5 41 rfl rfl, gW_c1 8 rfl rfl, cd_R_within, by decide +kernel, by decide +kernel⟩, gW_c5 42 rfl rfl⟩
theorem d_R_lose_7 : gB M_R_lose 7 (.ifCond .eq 7) 7 10 14 := ⟨by decide +kernel, rfl, by decide⟩
theorem d_R_lose_10 : gN M_R_lose 10 0 11 := Or.inl ⟨0, by decide +kernel, by decide, rfl⟩
theorem d_R_lose_11 : gB M_R_lose 11 (.goto 4) 4 14 15 := ⟨by decide +kernel, rfl, by decide⟩
theorem d_R_lose_14 : gN M_R_lose 14 1 15 := Or.inl ⟨1, by decide +kernel, by decide, rfl⟩
theorem d_R_lose_15 : gPf M_R_lose 15 6 0 .int 18 := ⟨37, by decide +kernel, rfl, RX5, TX5, 12, "FolderRoundsModel", tyX5, rfl, by decide, gW_c4 233 rfl rfl, gws_6, Or.inl rfl, tyX5_ok, nmX5, by decide +kernel, Or.inl rfl⟩
theorem d_R_lose_18 : gAl M_R_lose 18 0 19 := Or.inr ⟨0, by decide +kernel, rfl, rfl⟩
theorem d_R_lose_19 : gGf M_R_lose 19 6 0 22 := ⟨37, by decide +kernel, rfl, fl_R_37 _ rfl⟩
theorem d_R_lose_22 : gB M_R_lose 22 (.ifCond .le 5) 5 25 27 := ⟨by decide +kernel, rfl, by decide⟩
theorem d_R_lose_25 : gN M_R_lose 25 0 26 := Or.inl ⟨0, by decide +kernel, by decide, rfl⟩
theorem d_R_lose_26 : gD M_R_lose 26 (.ireturn) 1 27 := ⟨by decide +kernel, rfl⟩
theorem d_R_lose_27 : gAl M_R_lose 27 0 28 := Or.inr ⟨0, by decide +kernel, rfl, rfl⟩
theorem d_R_lose_28 : gGf M_R_lose 28 6 9 31 := ⟨31, by decide +kernel, rfl, fl_R_31 _ rfl⟩
theorem d_R_lose_31 : gIl M_R_lose 31 1 32 := Or.inr ⟨1, by decide +kernel, rfl, rfl⟩
theorem d_R_lose_32 : gD M_R_lose 32 (.iaload) 1 33 := ⟨by decide +kernel, rfl⟩
theorem d_R_lose_33 : gIs M_R_lose 33 2 34 := Or.inr ⟨2, by decide +kernel, rfl, rfl⟩
theorem d_R_lose_34 : gAl M_R_lose 34 0 35 := Or.inr ⟨0, by decide +kernel, rfl, rfl⟩
theorem d_R_lose_35 : gGf M_R_lose 35 6 9 38 := ⟨31, by decide +kernel, rfl, fl_R_31 _ rfl⟩
theorem d_R_lose_38 : gIl M_R_lose 38 1 39 := Or.inr ⟨1, by decide +kernel, rfl, rfl⟩
theorem d_R_lose_39 : gN M_R_lose 39 0 40 := Or.inl ⟨0, by decide +kernel, by decide, rfl⟩
theorem d_R_lose_40 : gD M_R_lose 40 (.iastore) 1 41 := ⟨by decide +kernel, rfl⟩
theorem d_R_lose_41 : gN M_R_lose 41 0 42 := Or.inl ⟨0, by decide +kernel, by decide, rfl⟩
theorem d_R_lose_42 : gIs M_R_lose 42 3 43 := Or.inr ⟨3, by decide +kernel, rfl, rfl⟩
theorem d_R_lose_43 : gIl M_R_lose 43 3 44 := Or.inr ⟨3, by decide +kernel, rfl, rfl⟩
theorem d_R_lose_44 : gN M_R_lose 44 160 47 := Or.inr (Or.inr (Or.inl ⟨160, by decide +kernel, by decide, rfl⟩))
theorem d_R_lose_47 : gB M_R_lose 47 (.if_icmp .ge 24) 24 50 71 := ⟨by decide +kernel, rfl, by decide⟩
theorem d_R_lose_50 : gAl M_R_lose 50 0 51 := Or.inr ⟨0, by decide +kernel, rfl, rfl⟩
theorem d_R_lose_51 : gGf M_R_lose 51 6 8 54 := ⟨28, by decide +kernel, rfl, fl_R_28 _ rfl⟩
theorem d_R_lose_54 : gN M_R_lose 54 160 57 := Or.inr (Or.inr (Or.inl ⟨160, by decide +kernel, by decide, rfl⟩))
theorem d_R_lose_57 : gN M_R_lose 57 4 58 := Or.inl ⟨4, by decide +kernel, by decide, rfl⟩
theorem d_R_lose_58 : gIl M_R_lose 58 1 59 := Or.inr ⟨1, by decide +kernel, rfl, rfl⟩
theorem d_R_lose_59 : gD M_R_lose 59 (.iadd) 1 60 := ⟨by decide +kernel, rfl⟩
theorem d_R_lose_60 : gD M_R_lose 60 (.imul) 1 61 := ⟨by decide +kernel, rfl⟩
theorem d_R_lose_61 : gIl M_R_lose 61 3 62 := Or.inr ⟨3, by decide +kernel, rfl, rfl⟩
theorem d_R_lose_62 : gD M_R_lose 62 (.iadd) 1 63 := ⟨by decide +kernel, rfl⟩
theorem d_R_lose_63 : gN M_R_lose 63 0 64 := Or.inl ⟨0, by decide +kernel, by decide, rfl⟩
theorem d_R_lose_64 : gD M_R_lose 64 (.iastore) 1 65 := ⟨by decide +kernel, rfl⟩
theorem d_R_lose_65 : gIc M_R_lose 65 3 1 68 := ⟨1, by decide +kernel, by decide, rfl⟩
theorem d_R_lose_68 : gB M_R_lose 68 (.goto (-25)) (-25) 71 43 := ⟨by decide +kernel, rfl, by decide⟩
theorem d_R_lose_71 : gIl M_R_lose 71 2 72 := Or.inr ⟨2, by decide +kernel, rfl, rfl⟩
theorem d_R_lose_72 : gD M_R_lose 72 (.ireturn) 1 73 := ⟨by decide +kernel, rfl⟩
theorem d_R_copy_0 : gAl M_R_copy 0 0 1 := Or.inr ⟨0, by decide +kernel, rfl, rfl⟩
theorem d_R_copy_1 : gIl M_R_copy 1 1 2 := Or.inr ⟨1, by decide +kernel, rfl, rfl⟩
theorem d_R_copy_2 : gN M_R_copy 2 0 3 := Or.inl ⟨0, by decide +kernel, by decide, rfl⟩
theorem d_R_copy_3 : gN M_R_copy 3 2 4 := Or.inl ⟨2, by decide +kernel, by decide, rfl⟩
theorem d_R_copy_4 : gD M_R_copy 4 (.invokestatic 73) 3 7 := ⟨by decide +kernel, rfl⟩
theorem cs_R_copy_4 : gClS M_R_copy 73 y_R_within M_R_within 3 := ⟨⟨gW_c5 41 rfl rfl, gW_c1 8 rfl rfl, cd_R_within, by decide +kernel, by decide +kernel⟩, gW_c5 42 rfl rfl⟩
theorem d_R_copy_7 : gB M_R_copy 7 (.ifCond .eq 12) 12 10 19 := ⟨by decide +kernel, rfl, by decide⟩
theorem d_R_copy_10 : gIl M_R_copy 10 2 11 := Or.inr ⟨2, by decide +kernel, rfl, rfl⟩
theorem d_R_copy_11 : gN M_R_copy 11 0 12 := Or.inl ⟨0, by decide +kernel, by decide, rfl⟩
theorem d_R_copy_12 : gN M_R_copy 12 2 13 := Or.inl ⟨2, by decide +kernel, by decide, rfl⟩
theorem d_R_copy_13 : gD M_R_copy 13 (.invokestatic 73) 3 16 := ⟨by decide +kernel, rfl⟩
theorem cs_R_copy_13 : gClS M_R_copy 73 y_R_within M_R_within 3 := ⟨⟨gW_c5 41 rfl rfl, gW_c1 8 rfl rfl, cd_R_within, by decide +kernel, by decide +kernel⟩, gW_c5 42 rfl rfl⟩
theorem d_R_copy_16 : gB M_R_copy 16 (.ifCond .ne 7) 7 19 23 := ⟨by decide +kernel, rfl, by decide⟩
theorem d_R_copy_19 : gN M_R_copy 19 1 20 := Or.inl ⟨1, by decide +kernel, by decide, rfl⟩
theorem d_R_copy_20 : gB M_R_copy 20 (.goto 4) 4 23 24 := ⟨by decide +kernel, rfl, by decide⟩
theorem d_R_copy_23 : gN M_R_copy 23 0 24 := Or.inl ⟨0, by decide +kernel, by decide, rfl⟩
theorem d_R_copy_24 : gPf M_R_copy 24 6 0 .int 27 := ⟨37, by decide +kernel, rfl, RX5, TX5, 12, "FolderRoundsModel", tyX5, rfl, by decide, gW_c4 233 rfl rfl, gws_6, Or.inl rfl, tyX5_ok, nmX5, by decide +kernel, Or.inl rfl⟩
theorem d_R_copy_27 : gAl M_R_copy 27 0 28 := Or.inr ⟨0, by decide +kernel, rfl, rfl⟩
theorem d_R_copy_28 : gGf M_R_copy 28 6 0 31 := ⟨37, by decide +kernel, rfl, fl_R_37 _ rfl⟩
theorem d_R_copy_31 : gB M_R_copy 31 (.ifCond .le 4) 4 34 35 := ⟨by decide +kernel, rfl, by decide⟩
theorem d_R_copy_34 : gD M_R_copy 34 (.return_) 1 35 := ⟨by decide +kernel, rfl⟩
theorem d_R_copy_35 : gAl M_R_copy 35 0 36 := Or.inr ⟨0, by decide +kernel, rfl, rfl⟩
theorem d_R_copy_36 : gGf M_R_copy 36 6 9 39 := ⟨31, by decide +kernel, rfl, fl_R_31 _ rfl⟩
theorem d_R_copy_39 : gIl M_R_copy 39 2 40 := Or.inr ⟨2, by decide +kernel, rfl, rfl⟩
theorem d_R_copy_40 : gAl M_R_copy 40 0 41 := Or.inr ⟨0, by decide +kernel, rfl, rfl⟩
theorem d_R_copy_41 : gGf M_R_copy 41 6 9 44 := ⟨31, by decide +kernel, rfl, fl_R_31 _ rfl⟩
theorem d_R_copy_44 : gIl M_R_copy 44 1 45 := Or.inr ⟨1, by decide +kernel, rfl, rfl⟩
theorem d_R_copy_45 : gD M_R_copy 45 (.iaload) 1 46 := ⟨by decide +kernel, rfl⟩
theorem d_R_copy_46 : gD M_R_copy 46 (.iastore) 1 47 := ⟨by decide +kernel, rfl⟩
theorem d_R_copy_47 : gN M_R_copy 47 0 48 := Or.inl ⟨0, by decide +kernel, by decide, rfl⟩
theorem d_R_copy_48 : gIs M_R_copy 48 3 49 := Or.inr ⟨3, by decide +kernel, rfl, rfl⟩
theorem d_R_copy_49 : gIl M_R_copy 49 3 50 := Or.inr ⟨3, by decide +kernel, rfl, rfl⟩
theorem d_R_copy_50 : gN M_R_copy 50 20 52 := Or.inr (Or.inl ⟨20, by decide +kernel, by decide, rfl⟩)
theorem d_R_copy_52 : gB M_R_copy 52 (.if_icmp .ge 31) 31 55 83 := ⟨by decide +kernel, rfl, by decide⟩
theorem d_R_copy_55 : gAl M_R_copy 55 0 56 := Or.inr ⟨0, by decide +kernel, rfl, rfl⟩
theorem d_R_copy_56 : gGf M_R_copy 56 6 10 59 := ⟨34, by decide +kernel, rfl, fl_R_34 _ rfl⟩
theorem d_R_copy_59 : gN M_R_copy 59 20 61 := Or.inr (Or.inl ⟨20, by decide +kernel, by decide, rfl⟩)
theorem d_R_copy_61 : gIl M_R_copy 61 2 62 := Or.inr ⟨2, by decide +kernel, rfl, rfl⟩
theorem d_R_copy_62 : gD M_R_copy 62 (.imul) 1 63 := ⟨by decide +kernel, rfl⟩
theorem d_R_copy_63 : gIl M_R_copy 63 3 64 := Or.inr ⟨3, by decide +kernel, rfl, rfl⟩
theorem d_R_copy_64 : gD M_R_copy 64 (.iadd) 1 65 := ⟨by decide +kernel, rfl⟩
theorem d_R_copy_65 : gAl M_R_copy 65 0 66 := Or.inr ⟨0, by decide +kernel, rfl, rfl⟩
theorem d_R_copy_66 : gGf M_R_copy 66 6 10 69 := ⟨34, by decide +kernel, rfl, fl_R_34 _ rfl⟩
theorem d_R_copy_69 : gN M_R_copy 69 20 71 := Or.inr (Or.inl ⟨20, by decide +kernel, by decide, rfl⟩)
theorem d_R_copy_71 : gIl M_R_copy 71 1 72 := Or.inr ⟨1, by decide +kernel, rfl, rfl⟩
theorem d_R_copy_72 : gD M_R_copy 72 (.imul) 1 73 := ⟨by decide +kernel, rfl⟩
theorem d_R_copy_73 : gIl M_R_copy 73 3 74 := Or.inr ⟨3, by decide +kernel, rfl, rfl⟩
theorem d_R_copy_74 : gD M_R_copy 74 (.iadd) 1 75 := ⟨by decide +kernel, rfl⟩
theorem d_R_copy_75 : gD M_R_copy 75 (.iaload) 1 76 := ⟨by decide +kernel, rfl⟩
theorem d_R_copy_76 : gD M_R_copy 76 (.iastore) 1 77 := ⟨by decide +kernel, rfl⟩
theorem d_R_copy_77 : gIc M_R_copy 77 3 1 80 := ⟨1, by decide +kernel, by decide, rfl⟩
theorem d_R_copy_80 : gB M_R_copy 80 (.goto (-31)) (-31) 83 49 := ⟨by decide +kernel, rfl, by decide⟩
theorem d_R_copy_83 : gN M_R_copy 83 0 84 := Or.inl ⟨0, by decide +kernel, by decide, rfl⟩
theorem d_R_copy_84 : gIs M_R_copy 84 3 85 := Or.inr ⟨3, by decide +kernel, rfl, rfl⟩
theorem d_R_copy_85 : gIl M_R_copy 85 3 86 := Or.inr ⟨3, by decide +kernel, rfl, rfl⟩
theorem d_R_copy_86 : gN M_R_copy 86 160 89 := Or.inr (Or.inr (Or.inl ⟨160, by decide +kernel, by decide, rfl⟩))
theorem d_R_copy_89 : gB M_R_copy 89 (.if_icmp .ge 37) 37 92 126 := ⟨by decide +kernel, rfl, by decide⟩
theorem d_R_copy_92 : gAl M_R_copy 92 0 93 := Or.inr ⟨0, by decide +kernel, rfl, rfl⟩
theorem d_R_copy_93 : gGf M_R_copy 93 6 8 96 := ⟨28, by decide +kernel, rfl, fl_R_28 _ rfl⟩
theorem d_R_copy_96 : gN M_R_copy 96 160 99 := Or.inr (Or.inr (Or.inl ⟨160, by decide +kernel, by decide, rfl⟩))
theorem d_R_copy_99 : gN M_R_copy 99 4 100 := Or.inl ⟨4, by decide +kernel, by decide, rfl⟩
theorem d_R_copy_100 : gIl M_R_copy 100 2 101 := Or.inr ⟨2, by decide +kernel, rfl, rfl⟩
theorem d_R_copy_101 : gD M_R_copy 101 (.iadd) 1 102 := ⟨by decide +kernel, rfl⟩
theorem d_R_copy_102 : gD M_R_copy 102 (.imul) 1 103 := ⟨by decide +kernel, rfl⟩
theorem d_R_copy_103 : gIl M_R_copy 103 3 104 := Or.inr ⟨3, by decide +kernel, rfl, rfl⟩
theorem d_R_copy_104 : gD M_R_copy 104 (.iadd) 1 105 := ⟨by decide +kernel, rfl⟩
theorem d_R_copy_105 : gAl M_R_copy 105 0 106 := Or.inr ⟨0, by decide +kernel, rfl, rfl⟩
theorem d_R_copy_106 : gGf M_R_copy 106 6 8 109 := ⟨28, by decide +kernel, rfl, fl_R_28 _ rfl⟩
theorem d_R_copy_109 : gN M_R_copy 109 160 112 := Or.inr (Or.inr (Or.inl ⟨160, by decide +kernel, by decide, rfl⟩))
theorem d_R_copy_112 : gN M_R_copy 112 4 113 := Or.inl ⟨4, by decide +kernel, by decide, rfl⟩
theorem d_R_copy_113 : gIl M_R_copy 113 1 114 := Or.inr ⟨1, by decide +kernel, rfl, rfl⟩
theorem d_R_copy_114 : gD M_R_copy 114 (.iadd) 1 115 := ⟨by decide +kernel, rfl⟩
theorem d_R_copy_115 : gD M_R_copy 115 (.imul) 1 116 := ⟨by decide +kernel, rfl⟩
theorem d_R_copy_116 : gIl M_R_copy 116 3 117 := Or.inr ⟨3, by decide +kernel, rfl, rfl⟩
theorem d_R_copy_117 : gD M_R_copy 117 (.iadd) 1 118 := ⟨by decide +kernel, rfl⟩
theorem d_R_copy_118 : gD M_R_copy 118 (.iaload) 1 119 := ⟨by decide +kernel, rfl⟩
theorem d_R_copy_119 : gD M_R_copy 119 (.iastore) 1 120 := ⟨by decide +kernel, rfl⟩
theorem d_R_copy_120 : gIc M_R_copy 120 3 1 123 := ⟨1, by decide +kernel, by decide, rfl⟩
theorem d_R_copy_123 : gB M_R_copy 123 (.goto (-38)) (-38) 126 85 := ⟨by decide +kernel, rfl, by decide⟩
theorem d_R_copy_126 : gD M_R_copy 126 (.return_) 1 127 := ⟨by decide +kernel, rfl⟩
theorem d_R_known_0 : gAl M_R_known 0 0 1 := Or.inr ⟨0, by decide +kernel, rfl, rfl⟩
theorem d_R_known_1 : gIl M_R_known 1 1 2 := Or.inr ⟨1, by decide +kernel, rfl, rfl⟩
theorem d_R_known_2 : gIl M_R_known 2 3 3 := Or.inr ⟨3, by decide +kernel, rfl, rfl⟩
theorem d_R_known_3 : gD M_R_known 3 (.invokestatic 77) 3 6 := ⟨by decide +kernel, rfl⟩
theorem cs_R_known_3 : gClS M_R_known 77 y_R_isPlace M_R_isPlace 2 := ⟨⟨gW_c5 38 rfl rfl, gW_c1 8 rfl rfl, cd_R_isPlace, by decide +kernel, by decide +kernel⟩, gW_c5 39 rfl rfl⟩
theorem d_R_known_6 : gB M_R_known 6 (.ifCond .eq 12) 12 9 18 := ⟨by decide +kernel, rfl, by decide⟩
theorem d_R_known_9 : gIl M_R_known 9 2 10 := Or.inr ⟨2, by decide +kernel, rfl, rfl⟩
theorem d_R_known_10 : gN M_R_known 10 0 11 := Or.inl ⟨0, by decide +kernel, by decide, rfl⟩
theorem d_R_known_11 : gN M_R_known 11 3 12 := Or.inl ⟨3, by decide +kernel, by decide, rfl⟩
theorem d_R_known_12 : gD M_R_known 12 (.invokestatic 73) 3 15 := ⟨by decide +kernel, rfl⟩
theorem cs_R_known_12 : gClS M_R_known 73 y_R_within M_R_within 3 := ⟨⟨gW_c5 41 rfl rfl, gW_c1 8 rfl rfl, cd_R_within, by decide +kernel, by decide +kernel⟩, gW_c5 42 rfl rfl⟩
theorem d_R_known_15 : gB M_R_known 15 (.ifCond .ne 7) 7 18 22 := ⟨by decide +kernel, rfl, by decide⟩
theorem d_R_known_18 : gN M_R_known 18 1 19 := Or.inl ⟨1, by decide +kernel, by decide, rfl⟩
theorem d_R_known_19 : gB M_R_known 19 (.goto 18) 18 22 37 := ⟨by decide +kernel, rfl, by decide⟩
theorem d_R_known_22 : gIl M_R_known 22 4 24 := Or.inl ⟨by decide +kernel, rfl⟩
theorem d_R_known_24 : gN M_R_known 24 0 25 := Or.inl ⟨0, by decide +kernel, by decide, rfl⟩
theorem d_R_known_25 : gN M_R_known 25 3 26 := Or.inl ⟨3, by decide +kernel, by decide, rfl⟩
theorem d_R_known_26 : gD M_R_known 26 (.invokestatic 73) 3 29 := ⟨by decide +kernel, rfl⟩
theorem cs_R_known_26 : gClS M_R_known 73 y_R_within M_R_within 3 := ⟨⟨gW_c5 41 rfl rfl, gW_c1 8 rfl rfl, cd_R_within, by decide +kernel, by decide +kernel⟩, gW_c5 42 rfl rfl⟩
theorem d_R_known_29 : gB M_R_known 29 (.ifCond .ne 7) 7 32 36 := ⟨by decide +kernel, rfl, by decide⟩
theorem d_R_known_32 : gN M_R_known 32 2 33 := Or.inl ⟨2, by decide +kernel, by decide, rfl⟩
theorem d_R_known_33 : gB M_R_known 33 (.goto 4) 4 36 37 := ⟨by decide +kernel, rfl, by decide⟩
theorem d_R_known_36 : gN M_R_known 36 0 37 := Or.inl ⟨0, by decide +kernel, by decide, rfl⟩
theorem d_R_known_37 : gPf M_R_known 37 6 0 .int 40 := ⟨37, by decide +kernel, rfl, RX5, TX5, 12, "FolderRoundsModel", tyX5, rfl, by decide, gW_c4 233 rfl rfl, gws_6, Or.inl rfl, tyX5_ok, nmX5, by decide +kernel, Or.inl rfl⟩
theorem d_R_known_40 : gAl M_R_known 40 0 41 := Or.inr ⟨0, by decide +kernel, rfl, rfl⟩
theorem d_R_known_41 : gGf M_R_known 41 6 0 44 := ⟨37, by decide +kernel, rfl, fl_R_37 _ rfl⟩
theorem d_R_known_44 : gB M_R_known 44 (.ifCond .le 7) 7 47 51 := ⟨by decide +kernel, rfl, by decide⟩
theorem d_R_known_47 : gN M_R_known 47 0 48 := Or.inl ⟨0, by decide +kernel, by decide, rfl⟩
theorem d_R_known_48 : gB M_R_known 48 (.goto 17) 17 51 65 := ⟨by decide +kernel, rfl, by decide⟩
theorem d_R_known_51 : gAl M_R_known 51 0 52 := Or.inr ⟨0, by decide +kernel, rfl, rfl⟩
theorem d_R_known_52 : gGf M_R_known 52 6 8 55 := ⟨28, by decide +kernel, rfl, fl_R_28 _ rfl⟩
theorem d_R_known_55 : gIl M_R_known 55 1 56 := Or.inr ⟨1, by decide +kernel, rfl, rfl⟩
theorem d_R_known_56 : gIl M_R_known 56 2 57 := Or.inr ⟨2, by decide +kernel, rfl, rfl⟩
theorem d_R_known_57 : gIl M_R_known 57 3 58 := Or.inr ⟨3, by decide +kernel, rfl, rfl⟩
theorem d_R_known_58 : gD M_R_known 58 (.invokestatic 60) 3 61 := ⟨by decide +kernel, rfl⟩
theorem cs_R_known_58 : gClS M_R_known 60 y_R_at M_R_at 3 := ⟨⟨gW_c5 48 rfl rfl, gW_c1 8 rfl rfl, cd_R_at, by decide +kernel, by decide +kernel⟩, gW_c5 49 rfl rfl⟩
theorem d_R_known_61 : gIl M_R_known 61 4 63 := Or.inl ⟨by decide +kernel, rfl⟩
theorem d_R_known_63 : gD M_R_known 63 (.iadd) 1 64 := ⟨by decide +kernel, rfl⟩
theorem d_R_known_64 : gD M_R_known 64 (.iaload) 1 65 := ⟨by decide +kernel, rfl⟩
theorem d_R_known_65 : gD M_R_known 65 (.ireturn) 1 66 := ⟨by decide +kernel, rfl⟩
theorem d_R_marks_0 : gAl M_R_marks 0 0 1 := Or.inr ⟨0, by decide +kernel, rfl, rfl⟩
theorem d_R_marks_1 : gIl M_R_marks 1 1 2 := Or.inr ⟨1, by decide +kernel, rfl, rfl⟩
theorem d_R_marks_2 : gN M_R_marks 2 0 3 := Or.inl ⟨0, by decide +kernel, by decide, rfl⟩
theorem d_R_marks_3 : gN M_R_marks 3 3 4 := Or.inl ⟨3, by decide +kernel, by decide, rfl⟩
theorem d_R_marks_4 : gD M_R_marks 4 (.invokestatic 73) 3 7 := ⟨by decide +kernel, rfl⟩
theorem cs_R_marks_4 : gClS M_R_marks 73 y_R_within M_R_within 3 := ⟨⟨gW_c5 41 rfl rfl, gW_c1 8 rfl rfl, cd_R_within, by decide +kernel, by decide +kernel⟩, gW_c5 42 rfl rfl⟩
theorem d_R_marks_7 : gB M_R_marks 7 (.ifCond .eq 7) 7 10 14 := ⟨by decide +kernel, rfl, by decide⟩
theorem d_R_marks_10 : gN M_R_marks 10 0 11 := Or.inl ⟨0, by decide +kernel, by decide, rfl⟩
theorem d_R_marks_11 : gB M_R_marks 11 (.goto 4) 4 14 15 := ⟨by decide +kernel, rfl, by decide⟩
theorem d_R_marks_14 : gN M_R_marks 14 1 15 := Or.inl ⟨1, by decide +kernel, by decide, rfl⟩
theorem d_R_marks_15 : gPf M_R_marks 15 6 0 .int 18 := ⟨37, by decide +kernel, rfl, RX5, TX5, 12, "FolderRoundsModel", tyX5, rfl, by decide, gW_c4 233 rfl rfl, gws_6, Or.inl rfl, tyX5_ok, nmX5, by decide +kernel, Or.inl rfl⟩
theorem d_R_marks_18 : gN M_R_marks 18 0 19 := Or.inl ⟨0, by decide +kernel, by decide, rfl⟩
theorem d_R_marks_19 : gIs M_R_marks 19 2 20 := Or.inr ⟨2, by decide +kernel, rfl, rfl⟩
theorem d_R_marks_20 : gN M_R_marks 20 0 21 := Or.inl ⟨0, by decide +kernel, by decide, rfl⟩
theorem d_R_marks_21 : gIs M_R_marks 21 3 22 := Or.inr ⟨3, by decide +kernel, rfl, rfl⟩
theorem d_R_marks_22 : gIl M_R_marks 22 3 23 := Or.inr ⟨3, by decide +kernel, rfl, rfl⟩
theorem d_R_marks_23 : gN M_R_marks 23 10 25 := Or.inr (Or.inl ⟨10, by decide +kernel, by decide, rfl⟩)
theorem d_R_marks_25 : gB M_R_marks 25 (.if_icmp .ge 26) 26 28 51 := ⟨by decide +kernel, rfl, by decide⟩
theorem d_R_marks_28 : gAl M_R_marks 28 0 29 := Or.inr ⟨0, by decide +kernel, rfl, rfl⟩
theorem d_R_marks_29 : gGf M_R_marks 29 6 0 32 := ⟨37, by decide +kernel, rfl, fl_R_37 _ rfl⟩
theorem d_R_marks_32 : gB M_R_marks 32 (.ifCond .ne 19) 19 35 51 := ⟨by decide +kernel, rfl, by decide⟩
theorem d_R_marks_35 : gIl M_R_marks 35 2 36 := Or.inr ⟨2, by decide +kernel, rfl, rfl⟩
theorem d_R_marks_36 : gAl M_R_marks 36 0 37 := Or.inr ⟨0, by decide +kernel, rfl, rfl⟩
theorem d_R_marks_37 : gIl M_R_marks 37 1 38 := Or.inr ⟨1, by decide +kernel, rfl, rfl⟩
theorem d_R_marks_38 : gIl M_R_marks 38 3 39 := Or.inr ⟨3, by decide +kernel, rfl, rfl⟩
theorem d_R_marks_39 : gN M_R_marks 39 1 40 := Or.inl ⟨1, by decide +kernel, by decide, rfl⟩
theorem d_R_marks_40 : gD M_R_marks 40 (.invokevirtual 87) 3 43 := ⟨by decide +kernel, rfl⟩
theorem cs_R_marks_40 : gClV M_R_marks 87 6 y_R_count M_R_count 3 := ⟨⟨gW_c5 87 rfl rfl, gW_c1 8 rfl rfl, cd_R_count, by decide +kernel, by decide +kernel⟩, rfl, gW_c5 89 rfl rfl, gW_c0 23 rfl rfl, TX5, 12, rfl⟩
theorem d_R_marks_43 : gD M_R_marks 43 (.iadd) 1 44 := ⟨by decide +kernel, rfl⟩
theorem d_R_marks_44 : gIs M_R_marks 44 2 45 := Or.inr ⟨2, by decide +kernel, rfl, rfl⟩
theorem d_R_marks_45 : gIc M_R_marks 45 3 1 48 := ⟨1, by decide +kernel, by decide, rfl⟩
theorem d_R_marks_48 : gB M_R_marks 48 (.goto (-26)) (-26) 51 22 := ⟨by decide +kernel, rfl, by decide⟩
theorem d_R_marks_51 : gIl M_R_marks 51 2 52 := Or.inr ⟨2, by decide +kernel, rfl, rfl⟩
theorem d_R_marks_52 : gD M_R_marks 52 (.ireturn) 1 53 := ⟨by decide +kernel, rfl⟩
theorem d_R_bytes_0 : gAl M_R_bytes 0 0 1 := Or.inr ⟨0, by decide +kernel, rfl, rfl⟩
theorem d_R_bytes_1 : gIl M_R_bytes 1 1 2 := Or.inr ⟨1, by decide +kernel, rfl, rfl⟩
theorem d_R_bytes_2 : gN M_R_bytes 2 0 3 := Or.inl ⟨0, by decide +kernel, by decide, rfl⟩
theorem d_R_bytes_3 : gN M_R_bytes 3 3 4 := Or.inl ⟨3, by decide +kernel, by decide, rfl⟩
theorem d_R_bytes_4 : gD M_R_bytes 4 (.invokestatic 73) 3 7 := ⟨by decide +kernel, rfl⟩
theorem cs_R_bytes_4 : gClS M_R_bytes 73 y_R_within M_R_within 3 := ⟨⟨gW_c5 41 rfl rfl, gW_c1 8 rfl rfl, cd_R_within, by decide +kernel, by decide +kernel⟩, gW_c5 42 rfl rfl⟩
theorem d_R_bytes_7 : gB M_R_bytes 7 (.ifCond .eq 7) 7 10 14 := ⟨by decide +kernel, rfl, by decide⟩
theorem d_R_bytes_10 : gN M_R_bytes 10 0 11 := Or.inl ⟨0, by decide +kernel, by decide, rfl⟩
theorem d_R_bytes_11 : gB M_R_bytes 11 (.goto 4) 4 14 15 := ⟨by decide +kernel, rfl, by decide⟩
theorem d_R_bytes_14 : gN M_R_bytes 14 1 15 := Or.inl ⟨1, by decide +kernel, by decide, rfl⟩
theorem d_R_bytes_15 : gPf M_R_bytes 15 6 0 .int 18 := ⟨37, by decide +kernel, rfl, RX5, TX5, 12, "FolderRoundsModel", tyX5, rfl, by decide, gW_c4 233 rfl rfl, gws_6, Or.inl rfl, tyX5_ok, nmX5, by decide +kernel, Or.inl rfl⟩
theorem d_R_bytes_18 : gAl M_R_bytes 18 0 19 := Or.inr ⟨0, by decide +kernel, rfl, rfl⟩
theorem d_R_bytes_19 : gGf M_R_bytes 19 6 0 22 := ⟨37, by decide +kernel, rfl, fl_R_37 _ rfl⟩
theorem d_R_bytes_22 : gB M_R_bytes 22 (.ifCond .le 7) 7 25 29 := ⟨by decide +kernel, rfl, by decide⟩
theorem d_R_bytes_25 : gN M_R_bytes 25 0 26 := Or.inl ⟨0, by decide +kernel, by decide, rfl⟩
theorem d_R_bytes_26 : gB M_R_bytes 26 (.goto 8) 8 29 34 := ⟨by decide +kernel, rfl, by decide⟩
theorem d_R_bytes_29 : gAl M_R_bytes 29 0 30 := Or.inr ⟨0, by decide +kernel, rfl, rfl⟩
theorem d_R_bytes_30 : gIl M_R_bytes 30 1 31 := Or.inr ⟨1, by decide +kernel, rfl, rfl⟩
theorem d_R_bytes_31 : gD M_R_bytes 31 (.invokevirtual 49) 3 34 := ⟨by decide +kernel, rfl⟩
theorem cs_R_bytes_31 : gClV M_R_bytes 49 6 y_R_allBytes M_R_allBytes 1 := ⟨⟨gW_c5 55 rfl rfl, gW_c1 8 rfl rfl, cd_R_allBytes, by decide +kernel, by decide +kernel⟩, rfl, gW_c5 57 rfl rfl, gW_c0 17 rfl rfl, TX5, 12, rfl⟩
theorem d_R_bytes_34 : gD M_R_bytes 34 (.ireturn) 1 35 := ⟨by decide +kernel, rfl⟩
theorem d_R_same_0 : gAl M_R_same 0 0 1 := Or.inr ⟨0, by decide +kernel, rfl, rfl⟩
theorem d_R_same_1 : gIl M_R_same 1 1 2 := Or.inr ⟨1, by decide +kernel, rfl, rfl⟩
theorem d_R_same_2 : gN M_R_same 2 0 3 := Or.inl ⟨0, by decide +kernel, by decide, rfl⟩
theorem d_R_same_3 : gN M_R_same 3 3 4 := Or.inl ⟨3, by decide +kernel, by decide, rfl⟩
theorem d_R_same_4 : gD M_R_same 4 (.invokestatic 73) 3 7 := ⟨by decide +kernel, rfl⟩
theorem cs_R_same_4 : gClS M_R_same 73 y_R_within M_R_within 3 := ⟨⟨gW_c5 41 rfl rfl, gW_c1 8 rfl rfl, cd_R_within, by decide +kernel, by decide +kernel⟩, gW_c5 42 rfl rfl⟩
theorem d_R_same_7 : gB M_R_same 7 (.ifCond .eq 12) 12 10 19 := ⟨by decide +kernel, rfl, by decide⟩
theorem d_R_same_10 : gIl M_R_same 10 2 11 := Or.inr ⟨2, by decide +kernel, rfl, rfl⟩
theorem d_R_same_11 : gN M_R_same 11 0 12 := Or.inl ⟨0, by decide +kernel, by decide, rfl⟩
theorem d_R_same_12 : gN M_R_same 12 3 13 := Or.inl ⟨3, by decide +kernel, by decide, rfl⟩
theorem d_R_same_13 : gD M_R_same 13 (.invokestatic 73) 3 16 := ⟨by decide +kernel, rfl⟩
theorem cs_R_same_13 : gClS M_R_same 73 y_R_within M_R_within 3 := ⟨⟨gW_c5 41 rfl rfl, gW_c1 8 rfl rfl, cd_R_within, by decide +kernel, by decide +kernel⟩, gW_c5 42 rfl rfl⟩
theorem d_R_same_16 : gB M_R_same 16 (.ifCond .ne 7) 7 19 23 := ⟨by decide +kernel, rfl, by decide⟩
theorem d_R_same_19 : gN M_R_same 19 1 20 := Or.inl ⟨1, by decide +kernel, by decide, rfl⟩
theorem d_R_same_20 : gB M_R_same 20 (.goto 4) 4 23 24 := ⟨by decide +kernel, rfl, by decide⟩
theorem d_R_same_23 : gN M_R_same 23 0 24 := Or.inl ⟨0, by decide +kernel, by decide, rfl⟩
theorem d_R_same_24 : gPf M_R_same 24 6 0 .int 27 := ⟨37, by decide +kernel, rfl, RX5, TX5, 12, "FolderRoundsModel", tyX5, rfl, by decide, gW_c4 233 rfl rfl, gws_6, Or.inl rfl, tyX5_ok, nmX5, by decide +kernel, Or.inl rfl⟩
theorem d_R_same_27 : gAl M_R_same 27 0 28 := Or.inr ⟨0, by decide +kernel, rfl, rfl⟩
theorem d_R_same_28 : gGf M_R_same 28 6 0 31 := ⟨37, by decide +kernel, rfl, fl_R_37 _ rfl⟩
theorem d_R_same_31 : gB M_R_same 31 (.ifCond .ne 7) 7 34 38 := ⟨by decide +kernel, rfl, by decide⟩
theorem d_R_same_34 : gN M_R_same 34 1 35 := Or.inl ⟨1, by decide +kernel, by decide, rfl⟩
theorem d_R_same_35 : gB M_R_same 35 (.goto 4) 4 38 39 := ⟨by decide +kernel, rfl, by decide⟩
theorem d_R_same_38 : gN M_R_same 38 0 39 := Or.inl ⟨0, by decide +kernel, by decide, rfl⟩
theorem d_R_same_39 : gIs M_R_same 39 3 40 := Or.inr ⟨3, by decide +kernel, rfl, rfl⟩
theorem d_R_same_40 : gN M_R_same 40 0 41 := Or.inl ⟨0, by decide +kernel, by decide, rfl⟩
theorem d_R_same_41 : gIs M_R_same 41 4 43 := Or.inl ⟨by decide +kernel, rfl⟩
theorem d_R_same_43 : gIl M_R_same 43 4 45 := Or.inl ⟨by decide +kernel, rfl⟩
theorem d_R_same_45 : gN M_R_same 45 40 47 := Or.inr (Or.inl ⟨40, by decide +kernel, by decide, rfl⟩)
theorem d_R_same_47 : gB M_R_same 47 (.if_icmp .ge 114) 114 50 161 := ⟨by decide +kernel, rfl, by decide⟩
theorem d_R_same_50 : gIl M_R_same 50 3 51 := Or.inr ⟨3, by decide +kernel, rfl, rfl⟩
theorem d_R_same_51 : gB M_R_same 51 (.ifCond .eq 110) 110 54 161 := ⟨by decide +kernel, rfl, by decide⟩
theorem d_R_same_54 : gAl M_R_same 54 0 55 := Or.inr ⟨0, by decide +kernel, rfl, rfl⟩
theorem d_R_same_55 : gGf M_R_same 55 6 7 58 := ⟨25, by decide +kernel, rfl, fl_R_25 _ rfl⟩
theorem d_R_same_58 : gN M_R_same 58 40 60 := Or.inr (Or.inl ⟨40, by decide +kernel, by decide, rfl⟩)
theorem d_R_same_60 : gIl M_R_same 60 1 61 := Or.inr ⟨1, by decide +kernel, rfl, rfl⟩
theorem d_R_same_61 : gD M_R_same 61 (.imul) 1 62 := ⟨by decide +kernel, rfl⟩
theorem d_R_same_62 : gIl M_R_same 62 4 64 := Or.inl ⟨by decide +kernel, rfl⟩
theorem d_R_same_64 : gD M_R_same 64 (.iadd) 1 65 := ⟨by decide +kernel, rfl⟩
theorem d_R_same_65 : gD M_R_same 65 (.iaload) 1 66 := ⟨by decide +kernel, rfl⟩
theorem d_R_same_66 : gN M_R_same 66 1 67 := Or.inl ⟨1, by decide +kernel, by decide, rfl⟩
theorem d_R_same_67 : gD M_R_same 67 (.isub) 1 68 := ⟨by decide +kernel, rfl⟩
theorem d_R_same_68 : gIs M_R_same 68 5 70 := Or.inl ⟨by decide +kernel, rfl⟩
theorem d_R_same_70 : gAl M_R_same 70 0 71 := Or.inr ⟨0, by decide +kernel, rfl, rfl⟩
theorem d_R_same_71 : gGf M_R_same 71 6 7 74 := ⟨25, by decide +kernel, rfl, fl_R_25 _ rfl⟩
theorem d_R_same_74 : gN M_R_same 74 40 76 := Or.inr (Or.inl ⟨40, by decide +kernel, by decide, rfl⟩)
theorem d_R_same_76 : gIl M_R_same 76 2 77 := Or.inr ⟨2, by decide +kernel, rfl, rfl⟩
theorem d_R_same_77 : gD M_R_same 77 (.imul) 1 78 := ⟨by decide +kernel, rfl⟩
theorem d_R_same_78 : gIl M_R_same 78 4 80 := Or.inl ⟨by decide +kernel, rfl⟩
theorem d_R_same_80 : gD M_R_same 80 (.iadd) 1 81 := ⟨by decide +kernel, rfl⟩
theorem d_R_same_81 : gD M_R_same 81 (.iaload) 1 82 := ⟨by decide +kernel, rfl⟩
theorem d_R_same_82 : gN M_R_same 82 1 83 := Or.inl ⟨1, by decide +kernel, by decide, rfl⟩
theorem d_R_same_83 : gD M_R_same 83 (.isub) 1 84 := ⟨by decide +kernel, rfl⟩
theorem d_R_same_84 : gIs M_R_same 84 6 86 := Or.inl ⟨by decide +kernel, rfl⟩
theorem d_R_same_86 : gIl M_R_same 86 5 88 := Or.inl ⟨by decide +kernel, rfl⟩
theorem d_R_same_88 : gB M_R_same 88 (.ifCond .lt 17) 17 91 105 := ⟨by decide +kernel, rfl, by decide⟩
theorem d_R_same_91 : gAl M_R_same 91 0 92 := Or.inr ⟨0, by decide +kernel, rfl, rfl⟩
theorem d_R_same_92 : gGf M_R_same 92 6 4 95 := ⟨16, by decide +kernel, rfl, fl_R_16 _ rfl⟩
theorem d_R_same_95 : gIl M_R_same 95 5 97 := Or.inl ⟨by decide +kernel, rfl⟩
theorem d_R_same_97 : gD M_R_same 97 (.iaload) 1 98 := ⟨by decide +kernel, rfl⟩
theorem d_R_same_98 : gB M_R_same 98 (.ifCond .lt 7) 7 101 105 := ⟨by decide +kernel, rfl, by decide⟩
theorem d_R_same_101 : gN M_R_same 101 1 102 := Or.inl ⟨1, by decide +kernel, by decide, rfl⟩
theorem d_R_same_102 : gB M_R_same 102 (.goto 4) 4 105 106 := ⟨by decide +kernel, rfl, by decide⟩
theorem d_R_same_105 : gN M_R_same 105 0 106 := Or.inl ⟨0, by decide +kernel, by decide, rfl⟩
theorem d_R_same_106 : gIs M_R_same 106 7 108 := Or.inl ⟨by decide +kernel, rfl⟩
theorem d_R_same_108 : gIl M_R_same 108 6 110 := Or.inl ⟨by decide +kernel, rfl⟩
theorem d_R_same_110 : gB M_R_same 110 (.ifCond .lt 17) 17 113 127 := ⟨by decide +kernel, rfl, by decide⟩
theorem d_R_same_113 : gAl M_R_same 113 0 114 := Or.inr ⟨0, by decide +kernel, rfl, rfl⟩
theorem d_R_same_114 : gGf M_R_same 114 6 4 117 := ⟨16, by decide +kernel, rfl, fl_R_16 _ rfl⟩
theorem d_R_same_117 : gIl M_R_same 117 6 119 := Or.inl ⟨by decide +kernel, rfl⟩
theorem d_R_same_119 : gD M_R_same 119 (.iaload) 1 120 := ⟨by decide +kernel, rfl⟩
theorem d_R_same_120 : gB M_R_same 120 (.ifCond .lt 7) 7 123 127 := ⟨by decide +kernel, rfl, by decide⟩
theorem d_R_same_123 : gN M_R_same 123 1 124 := Or.inl ⟨1, by decide +kernel, by decide, rfl⟩
theorem d_R_same_124 : gB M_R_same 124 (.goto 4) 4 127 128 := ⟨by decide +kernel, rfl, by decide⟩
theorem d_R_same_127 : gN M_R_same 127 0 128 := Or.inl ⟨0, by decide +kernel, by decide, rfl⟩
theorem d_R_same_128 : gIs M_R_same 128 8 130 := Or.inl ⟨by decide +kernel, rfl⟩
theorem d_R_same_130 : gIl M_R_same 130 7 132 := Or.inl ⟨by decide +kernel, rfl⟩
theorem d_R_same_132 : gIl M_R_same 132 8 134 := Or.inl ⟨by decide +kernel, rfl⟩
theorem d_R_same_134 : gB M_R_same 134 (.if_icmp .ne 19) 19 137 153 := ⟨by decide +kernel, rfl, by decide⟩
theorem d_R_same_137 : gIl M_R_same 137 7 139 := Or.inl ⟨by decide +kernel, rfl⟩
theorem d_R_same_139 : gB M_R_same 139 (.ifCond .eq 10) 10 142 149 := ⟨by decide +kernel, rfl, by decide⟩
theorem d_R_same_142 : gIl M_R_same 142 5 144 := Or.inl ⟨by decide +kernel, rfl⟩
theorem d_R_same_144 : gIl M_R_same 144 6 146 := Or.inl ⟨by decide +kernel, rfl⟩
theorem d_R_same_146 : gB M_R_same 146 (.if_icmp .ne 7) 7 149 153 := ⟨by decide +kernel, rfl, by decide⟩
theorem d_R_same_149 : gN M_R_same 149 1 150 := Or.inl ⟨1, by decide +kernel, by decide, rfl⟩
theorem d_R_same_150 : gB M_R_same 150 (.goto 4) 4 153 154 := ⟨by decide +kernel, rfl, by decide⟩
theorem d_R_same_153 : gN M_R_same 153 0 154 := Or.inl ⟨0, by decide +kernel, by decide, rfl⟩
theorem d_R_same_154 : gIs M_R_same 154 3 155 := Or.inr ⟨3, by decide +kernel, rfl, rfl⟩
theorem d_R_same_155 : gIc M_R_same 155 4 1 158 := ⟨1, by decide +kernel, by decide, rfl⟩
theorem d_R_same_158 : gB M_R_same 158 (.goto (-115)) (-115) 161 43 := ⟨by decide +kernel, rfl, by decide⟩
theorem d_R_same_161 : gIl M_R_same 161 3 162 := Or.inr ⟨3, by decide +kernel, rfl, rfl⟩
theorem d_R_same_162 : gD M_R_same 162 (.ireturn) 1 163 := ⟨by decide +kernel, rfl⟩
theorem d_R_room_0 : gAl M_R_room 0 0 1 := Or.inr ⟨0, by decide +kernel, rfl, rfl⟩
theorem d_R_room_1 : gIl M_R_room 1 1 2 := Or.inr ⟨1, by decide +kernel, rfl, rfl⟩
theorem d_R_room_2 : gN M_R_room 2 0 3 := Or.inl ⟨0, by decide +kernel, by decide, rfl⟩
theorem d_R_room_3 : gN M_R_room 3 2 4 := Or.inl ⟨2, by decide +kernel, by decide, rfl⟩
theorem d_R_room_4 : gD M_R_room 4 (.invokestatic 73) 3 7 := ⟨by decide +kernel, rfl⟩
theorem cs_R_room_4 : gClS M_R_room 73 y_R_within M_R_within 3 := ⟨⟨gW_c5 41 rfl rfl, gW_c1 8 rfl rfl, cd_R_within, by decide +kernel, by decide +kernel⟩, gW_c5 42 rfl rfl⟩
theorem d_R_room_7 : gB M_R_room 7 (.ifCond .eq 7) 7 10 14 := ⟨by decide +kernel, rfl, by decide⟩
theorem d_R_room_10 : gN M_R_room 10 0 11 := Or.inl ⟨0, by decide +kernel, by decide, rfl⟩
theorem d_R_room_11 : gB M_R_room 11 (.goto 4) 4 14 15 := ⟨by decide +kernel, rfl, by decide⟩
theorem d_R_room_14 : gN M_R_room 14 1 15 := Or.inl ⟨1, by decide +kernel, by decide, rfl⟩
theorem d_R_room_15 : gPf M_R_room 15 6 0 .int 18 := ⟨37, by decide +kernel, rfl, RX5, TX5, 12, "FolderRoundsModel", tyX5, rfl, by decide, gW_c4 233 rfl rfl, gws_6, Or.inl rfl, tyX5_ok, nmX5, by decide +kernel, Or.inl rfl⟩
theorem d_R_room_18 : gAl M_R_room 18 0 19 := Or.inr ⟨0, by decide +kernel, rfl, rfl⟩
theorem d_R_room_19 : gGf M_R_room 19 6 0 22 := ⟨37, by decide +kernel, rfl, fl_R_37 _ rfl⟩
theorem d_R_room_22 : gB M_R_room 22 (.ifCond .le 7) 7 25 29 := ⟨by decide +kernel, rfl, by decide⟩
theorem d_R_room_25 : gN M_R_room 25 0 26 := Or.inl ⟨0, by decide +kernel, by decide, rfl⟩
theorem d_R_room_26 : gB M_R_room 26 (.goto 8) 8 29 34 := ⟨by decide +kernel, rfl, by decide⟩
theorem d_R_room_29 : gAl M_R_room 29 0 30 := Or.inr ⟨0, by decide +kernel, rfl, rfl⟩
theorem d_R_room_30 : gIl M_R_room 30 1 31 := Or.inr ⟨1, by decide +kernel, rfl, rfl⟩
theorem d_R_room_31 : gD M_R_room 31 (.invokevirtual 122) 3 34 := ⟨by decide +kernel, rfl⟩
theorem cs_R_room_31 : gClV M_R_room 122 6 y_R_roomOf M_R_roomOf 1 := ⟨⟨gW_c5 148 rfl rfl, gW_c1 8 rfl rfl, cd_R_roomOf, by decide +kernel, by decide +kernel⟩, rfl, gW_c5 150 rfl rfl, gW_c0 35 rfl rfl, TX5, 12, rfl⟩
theorem d_R_room_34 : gD M_R_room 34 (.ireturn) 1 35 := ⟨by decide +kernel, rfl⟩
theorem d_R_item_0 : gAl M_R_item 0 0 1 := Or.inr ⟨0, by decide +kernel, rfl, rfl⟩
theorem d_R_item_1 : gIl M_R_item 1 1 2 := Or.inr ⟨1, by decide +kernel, rfl, rfl⟩
theorem d_R_item_2 : gN M_R_item 2 0 3 := Or.inl ⟨0, by decide +kernel, by decide, rfl⟩
theorem d_R_item_3 : gN M_R_item 3 2 4 := Or.inl ⟨2, by decide +kernel, by decide, rfl⟩
theorem d_R_item_4 : gD M_R_item 4 (.invokestatic 73) 3 7 := ⟨by decide +kernel, rfl⟩
theorem cs_R_item_4 : gClS M_R_item 73 y_R_within M_R_within 3 := ⟨⟨gW_c5 41 rfl rfl, gW_c1 8 rfl rfl, cd_R_within, by decide +kernel, by decide +kernel⟩, gW_c5 42 rfl rfl⟩
theorem d_R_item_7 : gB M_R_item 7 (.ifCond .eq 17) 17 10 24 := ⟨by decide +kernel, rfl, by decide⟩
theorem d_R_item_10 : gIl M_R_item 10 2 11 := Or.inr ⟨2, by decide +kernel, rfl, rfl⟩
theorem d_R_item_11 : gB M_R_item 11 (.ifCond .lt 13) 13 14 24 := ⟨by decide +kernel, rfl, by decide⟩
theorem d_R_item_14 : gIl M_R_item 14 2 15 := Or.inr ⟨2, by decide +kernel, rfl, rfl⟩
theorem d_R_item_15 : gAl M_R_item 15 0 16 := Or.inr ⟨0, by decide +kernel, rfl, rfl⟩
theorem d_R_item_16 : gGf M_R_item 16 6 9 19 := ⟨31, by decide +kernel, rfl, fl_R_31 _ rfl⟩
theorem d_R_item_19 : gIl M_R_item 19 1 20 := Or.inr ⟨1, by decide +kernel, rfl, rfl⟩
theorem d_R_item_20 : gD M_R_item 20 (.iaload) 1 21 := ⟨by decide +kernel, rfl⟩
theorem d_R_item_21 : gB M_R_item 21 (.if_icmp .lt 7) 7 24 28 := ⟨by decide +kernel, rfl, by decide⟩
theorem d_R_item_24 : gN M_R_item 24 1 25 := Or.inl ⟨1, by decide +kernel, by decide, rfl⟩
theorem d_R_item_25 : gB M_R_item 25 (.goto 17) 17 28 42 := ⟨by decide +kernel, rfl, by decide⟩
theorem d_R_item_28 : gIl M_R_item 28 3 29 := Or.inr ⟨3, by decide +kernel, rfl, rfl⟩
theorem d_R_item_29 : gN M_R_item 29 0 30 := Or.inl ⟨0, by decide +kernel, by decide, rfl⟩
theorem d_R_item_30 : gN M_R_item 30 5 31 := Or.inl ⟨5, by decide +kernel, by decide, rfl⟩
theorem d_R_item_31 : gD M_R_item 31 (.invokestatic 73) 3 34 := ⟨by decide +kernel, rfl⟩
theorem cs_R_item_31 : gClS M_R_item 73 y_R_within M_R_within 3 := ⟨⟨gW_c5 41 rfl rfl, gW_c1 8 rfl rfl, cd_R_within, by decide +kernel, by decide +kernel⟩, gW_c5 42 rfl rfl⟩
theorem d_R_item_34 : gB M_R_item 34 (.ifCond .ne 7) 7 37 41 := ⟨by decide +kernel, rfl, by decide⟩
theorem d_R_item_37 : gN M_R_item 37 2 38 := Or.inl ⟨2, by decide +kernel, by decide, rfl⟩
theorem d_R_item_38 : gB M_R_item 38 (.goto 4) 4 41 42 := ⟨by decide +kernel, rfl, by decide⟩
theorem d_R_item_41 : gN M_R_item 41 0 42 := Or.inl ⟨0, by decide +kernel, by decide, rfl⟩
theorem d_R_item_42 : gPf M_R_item 42 6 0 .int 45 := ⟨37, by decide +kernel, rfl, RX5, TX5, 12, "FolderRoundsModel", tyX5, rfl, by decide, gW_c4 233 rfl rfl, gws_6, Or.inl rfl, tyX5_ok, nmX5, by decide +kernel, Or.inl rfl⟩
theorem d_R_item_45 : gAl M_R_item 45 0 46 := Or.inr ⟨0, by decide +kernel, rfl, rfl⟩
theorem d_R_item_46 : gGf M_R_item 46 6 0 49 := ⟨37, by decide +kernel, rfl, fl_R_37 _ rfl⟩
theorem d_R_item_49 : gB M_R_item 49 (.ifCond .le 5) 5 52 54 := ⟨by decide +kernel, rfl, by decide⟩
theorem d_R_item_52 : gN M_R_item 52 0 53 := Or.inl ⟨0, by decide +kernel, by decide, rfl⟩
theorem d_R_item_53 : gD M_R_item 53 (.ireturn) 1 54 := ⟨by decide +kernel, rfl⟩
theorem d_R_item_54 : gAl M_R_item 54 0 55 := Or.inr ⟨0, by decide +kernel, rfl, rfl⟩
theorem d_R_item_55 : gGf M_R_item 55 6 10 58 := ⟨34, by decide +kernel, rfl, fl_R_34 _ rfl⟩
theorem d_R_item_58 : gN M_R_item 58 20 60 := Or.inr (Or.inl ⟨20, by decide +kernel, by decide, rfl⟩)
theorem d_R_item_60 : gIl M_R_item 60 1 61 := Or.inr ⟨1, by decide +kernel, rfl, rfl⟩
theorem d_R_item_61 : gD M_R_item 61 (.imul) 1 62 := ⟨by decide +kernel, rfl⟩
theorem d_R_item_62 : gIl M_R_item 62 2 63 := Or.inr ⟨2, by decide +kernel, rfl, rfl⟩
theorem d_R_item_63 : gD M_R_item 63 (.iadd) 1 64 := ⟨by decide +kernel, rfl⟩
theorem d_R_item_64 : gD M_R_item 64 (.iaload) 1 65 := ⟨by decide +kernel, rfl⟩
theorem d_R_item_65 : gIs M_R_item 65 4 67 := Or.inl ⟨by decide +kernel, rfl⟩
theorem d_R_item_67 : gIl M_R_item 67 3 68 := Or.inr ⟨3, by decide +kernel, rfl, rfl⟩
theorem d_R_item_68 : gB M_R_item 68 (.ifCond .ne 13) 13 71 81 := ⟨by decide +kernel, rfl, by decide⟩
theorem d_R_item_71 : gAl M_R_item 71 0 72 := Or.inr ⟨0, by decide +kernel, rfl, rfl⟩
theorem d_R_item_72 : gGf M_R_item 72 6 2 75 := ⟨7, by decide +kernel, rfl, fl_R_7 _ rfl⟩
theorem d_R_item_75 : gIl M_R_item 75 4 77 := Or.inl ⟨by decide +kernel, rfl⟩
theorem d_R_item_77 : gD M_R_item 77 (.iaload) 1 78 := ⟨by decide +kernel, rfl⟩
theorem d_R_item_78 : gB M_R_item 78 (.goto 27) 27 81 105 := ⟨by decide +kernel, rfl, by decide⟩
theorem d_R_item_81 : gIl M_R_item 81 3 82 := Or.inr ⟨3, by decide +kernel, rfl, rfl⟩
theorem d_R_item_82 : gN M_R_item 82 1 83 := Or.inl ⟨1, by decide +kernel, by decide, rfl⟩
theorem d_R_item_83 : gB M_R_item 83 (.if_icmp .ne 13) 13 86 96 := ⟨by decide +kernel, rfl, by decide⟩
theorem d_R_item_86 : gAl M_R_item 86 0 87 := Or.inr ⟨0, by decide +kernel, rfl, rfl⟩
theorem d_R_item_87 : gGf M_R_item 87 6 4 90 := ⟨16, by decide +kernel, rfl, fl_R_16 _ rfl⟩
theorem d_R_item_90 : gIl M_R_item 90 4 92 := Or.inl ⟨by decide +kernel, rfl⟩
theorem d_R_item_92 : gD M_R_item 92 (.iaload) 1 93 := ⟨by decide +kernel, rfl⟩
theorem d_R_item_93 : gB M_R_item 93 (.goto 12) 12 96 105 := ⟨by decide +kernel, rfl, by decide⟩
theorem d_R_item_96 : gAl M_R_item 96 0 97 := Or.inr ⟨0, by decide +kernel, rfl, rfl⟩
theorem d_R_item_97 : gIl M_R_item 97 4 99 := Or.inl ⟨by decide +kernel, rfl⟩
theorem d_R_item_99 : gIl M_R_item 99 3 100 := Or.inr ⟨3, by decide +kernel, rfl, rfl⟩
theorem d_R_item_100 : gN M_R_item 100 2 101 := Or.inl ⟨2, by decide +kernel, by decide, rfl⟩
theorem d_R_item_101 : gD M_R_item 101 (.isub) 1 102 := ⟨by decide +kernel, rfl⟩
theorem d_R_item_102 : gD M_R_item 102 (.invokevirtual 41) 3 105 := ⟨by decide +kernel, rfl⟩
theorem cs_R_item_102 : gClV M_R_item 41 6 y_R_counterOf M_R_counterOf 2 := ⟨⟨gW_c5 71 rfl rfl, gW_c1 8 rfl rfl, cd_R_counterOf, by decide +kernel, by decide +kernel⟩, rfl, gW_c5 73 rfl rfl, gW_c0 21 rfl rfl, TX5, 12, rfl⟩
theorem d_R_item_105 : gD M_R_item 105 (.ireturn) 1 106 := ⟨by decide +kernel, rfl⟩
theorem d_R_leftOut_0 : gAl M_R_leftOut 0 0 1 := Or.inr ⟨0, by decide +kernel, rfl, rfl⟩
theorem d_R_leftOut_1 : gN M_R_leftOut 1 0 2 := Or.inl ⟨0, by decide +kernel, by decide, rfl⟩
theorem d_R_leftOut_2 : gPf M_R_leftOut 2 6 0 .int 5 := ⟨37, by decide +kernel, rfl, RX5, TX5, 12, "FolderRoundsModel", tyX5, rfl, by decide, gW_c4 233 rfl rfl, gws_6, Or.inl rfl, tyX5_ok, nmX5, by decide +kernel, Or.inl rfl⟩
theorem d_R_leftOut_5 : gAl M_R_leftOut 5 0 6 := Or.inr ⟨0, by decide +kernel, rfl, rfl⟩
theorem d_R_leftOut_6 : gGf M_R_leftOut 6 6 11 9 := ⟨97, by decide +kernel, rfl, fl_R_97 _ rfl⟩
theorem d_R_leftOut_9 : gD M_R_leftOut 9 (.ireturn) 1 10 := ⟨by decide +kernel, rfl⟩
end
section
/-! ===== decode rows ===== -/
theorem d_L_edit_0 : gAl M_L_edit 0 0 1 := Or.inr ⟨0, by decide +kernel, rfl, rfl⟩
theorem d_L_edit_1 : gIl M_L_edit 1 1 2 := Or.inr ⟨1, by decide +kernel, rfl, rfl⟩
theorem d_L_edit_2 : gIl M_L_edit 2 2 3 := Or.inr ⟨2, by decide +kernel, rfl, rfl⟩
theorem d_L_edit_3 : gIl M_L_edit 3 3 4 := Or.inr ⟨3, by decide +kernel, rfl, rfl⟩
theorem d_L_edit_4 : gIl M_L_edit 4 4 6 := Or.inl ⟨by decide +kernel, rfl⟩
theorem d_L_edit_6 : gD M_L_edit 6 (.invokevirtual 7) 3 9 := ⟨by decide +kernel, rfl⟩
theorem cs_L_edit_6 : gClV M_L_edit 7 5 y_F_edit M_F_edit 4 := ⟨⟨gW_c1 139 rfl rfl, gW_c1 1 rfl rfl, cd_F_edit, by decide +kernel, by decide +kernel⟩, rfl, gW_c1 140 rfl rfl, gW_c1 141 rfl rfl, TX4, 4, rfl⟩
theorem d_L_edit_9 : gB M_L_edit 9 (.goto 15) 15 12 24 := ⟨by decide +kernel, rfl, by decide⟩
theorem d_L_edit_12 : gAst M_L_edit 12 5 14 := Or.inl ⟨by decide +kernel, rfl⟩
theorem d_L_edit_14 : gN M_L_edit 14 1 15 := Or.inl ⟨1, by decide +kernel, by decide, rfl⟩
theorem d_L_edit_15 : gD M_L_edit 15 (.ireturn) 1 16 := ⟨by decide +kernel, rfl⟩
theorem d_L_edit_16 : gAst M_L_edit 16 5 18 := Or.inl ⟨by decide +kernel, rfl⟩
theorem d_L_edit_18 : gN M_L_edit 18 2 19 := Or.inl ⟨2, by decide +kernel, by decide, rfl⟩
theorem d_L_edit_19 : gD M_L_edit 19 (.ireturn) 1 20 := ⟨by decide +kernel, rfl⟩
theorem d_L_edit_20 : gAst M_L_edit 20 5 22 := Or.inl ⟨by decide +kernel, rfl⟩
theorem d_L_edit_22 : gN M_L_edit 22 3 23 := Or.inl ⟨3, by decide +kernel, by decide, rfl⟩
theorem d_L_edit_23 : gD M_L_edit 23 (.ireturn) 1 24 := ⟨by decide +kernel, rfl⟩
theorem d_L_edit_24 : gN M_L_edit 24 0 25 := Or.inl ⟨0, by decide +kernel, by decide, rfl⟩
theorem d_L_edit_25 : gD M_L_edit 25 (.ireturn) 1 26 := ⟨by decide +kernel, rfl⟩
theorem d_L_erase_0 : gAl M_L_erase 0 0 1 := Or.inr ⟨0, by decide +kernel, rfl, rfl⟩
theorem d_L_erase_1 : gIl M_L_erase 1 1 2 := Or.inr ⟨1, by decide +kernel, rfl, rfl⟩
theorem d_L_erase_2 : gIl M_L_erase 2 2 3 := Or.inr ⟨2, by decide +kernel, rfl, rfl⟩
theorem d_L_erase_3 : gD M_L_erase 3 (.invokevirtual 19) 3 6 := ⟨by decide +kernel, rfl⟩
theorem cs_L_erase_3 : gClV M_L_erase 19 5 y_F_erase M_F_erase 2 := ⟨⟨gW_c3 218 rfl rfl, gW_c1 1 rfl rfl, cd_F_erase, by decide +kernel, by decide +kernel⟩, rfl, gW_c3 219 rfl rfl, gW_c3 220 rfl rfl, TX4, 4, rfl⟩
theorem d_L_erase_6 : gB M_L_erase 6 (.goto 9) 9 9 15 := ⟨by decide +kernel, rfl, by decide⟩
theorem d_L_erase_9 : gAst M_L_erase 9 3 10 := Or.inr ⟨3, by decide +kernel, rfl, rfl⟩
theorem d_L_erase_10 : gN M_L_erase 10 1 11 := Or.inl ⟨1, by decide +kernel, by decide, rfl⟩
theorem d_L_erase_11 : gD M_L_erase 11 (.ireturn) 1 12 := ⟨by decide +kernel, rfl⟩
theorem d_L_erase_12 : gAst M_L_erase 12 3 13 := Or.inr ⟨3, by decide +kernel, rfl, rfl⟩
theorem d_L_erase_13 : gN M_L_erase 13 2 14 := Or.inl ⟨2, by decide +kernel, by decide, rfl⟩
theorem d_L_erase_14 : gD M_L_erase 14 (.ireturn) 1 15 := ⟨by decide +kernel, rfl⟩
theorem d_L_erase_15 : gN M_L_erase 15 0 16 := Or.inl ⟨0, by decide +kernel, by decide, rfl⟩
theorem d_L_erase_16 : gD M_L_erase 16 (.ireturn) 1 17 := ⟨by decide +kernel, rfl⟩
theorem d_L_siblings_0 : gAl M_L_siblings 0 3 1 := Or.inr ⟨3, by decide +kernel, rfl, rfl⟩
theorem d_L_siblings_1 : gN M_L_siblings 1 0 2 := Or.inl ⟨0, by decide +kernel, by decide, rfl⟩
theorem d_L_siblings_2 : gAl M_L_siblings 2 0 3 := Or.inr ⟨0, by decide +kernel, rfl, rfl⟩
theorem d_L_siblings_3 : gIl M_L_siblings 3 1 4 := Or.inr ⟨1, by decide +kernel, rfl, rfl⟩
theorem d_L_siblings_4 : gIl M_L_siblings 4 2 5 := Or.inr ⟨2, by decide +kernel, rfl, rfl⟩
theorem d_L_siblings_5 : gD M_L_siblings 5 (.invokevirtual 23) 3 8 := ⟨by decide +kernel, rfl⟩
theorem cs_L_siblings_5 : gClV M_L_siblings 23 5 y_F_siblings M_F_siblings 2 := ⟨⟨gW_c3 225 rfl rfl, gW_c1 1 rfl rfl, cd_F_siblings, by decide +kernel, by decide +kernel⟩, rfl, gW_c3 226 rfl rfl, gW_c3 227 rfl rfl, TX4, 4, rfl⟩
theorem d_L_siblings_8 : gD M_L_siblings 8 (.i2l) 1 9 := ⟨by decide +kernel, rfl⟩
theorem d_L_siblings_9 : gD M_L_siblings 9 (.lastore) 1 10 := ⟨by decide +kernel, rfl⟩
theorem d_L_siblings_10 : gB M_L_siblings 10 (.goto 7) 7 13 17 := ⟨by decide +kernel, rfl, by decide⟩
theorem d_L_siblings_13 : gAst M_L_siblings 13 4 15 := Or.inl ⟨by decide +kernel, rfl⟩
theorem d_L_siblings_15 : gN M_L_siblings 15 1 16 := Or.inl ⟨1, by decide +kernel, by decide, rfl⟩
theorem d_L_siblings_16 : gD M_L_siblings 16 (.ireturn) 1 17 := ⟨by decide +kernel, rfl⟩
theorem d_L_siblings_17 : gN M_L_siblings 17 0 18 := Or.inl ⟨0, by decide +kernel, by decide, rfl⟩
theorem d_L_siblings_18 : gD M_L_siblings 18 (.ireturn) 1 19 := ⟨by decide +kernel, rfl⟩
theorem d_L_counter_0 : gAl M_L_counter 0 5 2 := Or.inl ⟨by decide +kernel, rfl⟩
theorem d_L_counter_2 : gN M_L_counter 2 0 3 := Or.inl ⟨0, by decide +kernel, by decide, rfl⟩
theorem d_L_counter_3 : gAl M_L_counter 3 0 4 := Or.inr ⟨0, by decide +kernel, rfl, rfl⟩
theorem d_L_counter_4 : gIl M_L_counter 4 1 5 := Or.inr ⟨1, by decide +kernel, rfl, rfl⟩
theorem d_L_counter_5 : gIl M_L_counter 5 2 6 := Or.inr ⟨2, by decide +kernel, rfl, rfl⟩
theorem d_L_counter_6 : gIl M_L_counter 6 3 7 := Or.inr ⟨3, by decide +kernel, rfl, rfl⟩
theorem d_L_counter_7 : gIl M_L_counter 7 4 9 := Or.inl ⟨by decide +kernel, rfl⟩
theorem d_L_counter_9 : gD M_L_counter 9 (.invokevirtual 27) 3 12 := ⟨by decide +kernel, rfl⟩
theorem cs_L_counter_9 : gClV M_L_counter 27 5 y_F_counter M_F_counter 4 := ⟨⟨gW_c4 1 rfl rfl, gW_c1 1 rfl rfl, cd_F_counter, by decide +kernel, by decide +kernel⟩, rfl, gW_c4 2 rfl rfl, gW_c4 3 rfl rfl, TX4, 4, rfl⟩
theorem d_L_counter_12 : gD M_L_counter 12 (.i2l) 1 13 := ⟨by decide +kernel, rfl⟩
theorem d_L_counter_13 : gD M_L_counter 13 (.lastore) 1 14 := ⟨by decide +kernel, rfl⟩
theorem d_L_counter_14 : gB M_L_counter 14 (.goto 11) 11 17 25 := ⟨by decide +kernel, rfl, by decide⟩
theorem d_L_counter_17 : gAst M_L_counter 17 6 19 := Or.inl ⟨by decide +kernel, rfl⟩
theorem d_L_counter_19 : gN M_L_counter 19 1 20 := Or.inl ⟨1, by decide +kernel, by decide, rfl⟩
theorem d_L_counter_20 : gD M_L_counter 20 (.ireturn) 1 21 := ⟨by decide +kernel, rfl⟩
theorem d_L_counter_21 : gAst M_L_counter 21 6 23 := Or.inl ⟨by decide +kernel, rfl⟩
theorem d_L_counter_23 : gN M_L_counter 23 2 24 := Or.inl ⟨2, by decide +kernel, by decide, rfl⟩
theorem d_L_counter_24 : gD M_L_counter 24 (.ireturn) 1 25 := ⟨by decide +kernel, rfl⟩
theorem d_L_counter_25 : gN M_L_counter 25 0 26 := Or.inl ⟨0, by decide +kernel, by decide, rfl⟩
theorem d_L_counter_26 : gD M_L_counter 26 (.ireturn) 1 27 := ⟨by decide +kernel, rfl⟩
theorem d_L_byteOf_0 : gAl M_L_byteOf 0 5 2 := Or.inl ⟨by decide +kernel, rfl⟩
theorem d_L_byteOf_2 : gN M_L_byteOf 2 0 3 := Or.inl ⟨0, by decide +kernel, by decide, rfl⟩
theorem d_L_byteOf_3 : gAl M_L_byteOf 3 0 4 := Or.inr ⟨0, by decide +kernel, rfl, rfl⟩
theorem d_L_byteOf_4 : gIl M_L_byteOf 4 1 5 := Or.inr ⟨1, by decide +kernel, rfl, rfl⟩
theorem d_L_byteOf_5 : gIl M_L_byteOf 5 2 6 := Or.inr ⟨2, by decide +kernel, rfl, rfl⟩
theorem d_L_byteOf_6 : gIl M_L_byteOf 6 3 7 := Or.inr ⟨3, by decide +kernel, rfl, rfl⟩
theorem d_L_byteOf_7 : gIl M_L_byteOf 7 4 9 := Or.inl ⟨by decide +kernel, rfl⟩
theorem d_L_byteOf_9 : gD M_L_byteOf 9 (.invokevirtual 33) 3 12 := ⟨by decide +kernel, rfl⟩
theorem cs_L_byteOf_9 : gClV M_L_byteOf 33 5 y_F_byteOf M_F_byteOf 4 := ⟨⟨gW_c4 24 rfl rfl, gW_c1 1 rfl rfl, cd_F_byteOf, by decide +kernel, by decide +kernel⟩, rfl, gW_c4 25 rfl rfl, gW_c4 26 rfl rfl, TX4, 4, rfl⟩
theorem d_L_byteOf_12 : gD M_L_byteOf 12 (.i2l) 1 13 := ⟨by decide +kernel, rfl⟩
theorem d_L_byteOf_13 : gD M_L_byteOf 13 (.lastore) 1 14 := ⟨by decide +kernel, rfl⟩
theorem d_L_byteOf_14 : gB M_L_byteOf 14 (.goto 11) 11 17 25 := ⟨by decide +kernel, rfl, by decide⟩
theorem d_L_byteOf_17 : gAst M_L_byteOf 17 6 19 := Or.inl ⟨by decide +kernel, rfl⟩
theorem d_L_byteOf_19 : gN M_L_byteOf 19 1 20 := Or.inl ⟨1, by decide +kernel, by decide, rfl⟩
theorem d_L_byteOf_20 : gD M_L_byteOf 20 (.ireturn) 1 21 := ⟨by decide +kernel, rfl⟩
theorem d_L_byteOf_21 : gAst M_L_byteOf 21 6 23 := Or.inl ⟨by decide +kernel, rfl⟩
theorem d_L_byteOf_23 : gN M_L_byteOf 23 2 24 := Or.inl ⟨2, by decide +kernel, by decide, rfl⟩
theorem d_L_byteOf_24 : gD M_L_byteOf 24 (.ireturn) 1 25 := ⟨by decide +kernel, rfl⟩
theorem d_L_byteOf_25 : gN M_L_byteOf 25 0 26 := Or.inl ⟨0, by decide +kernel, by decide, rfl⟩
theorem d_L_byteOf_26 : gD M_L_byteOf 26 (.ireturn) 1 27 := ⟨by decide +kernel, rfl⟩
theorem d_L_visit_0 : gAl M_L_visit 0 4 2 := Or.inl ⟨by decide +kernel, rfl⟩
theorem d_L_visit_2 : gN M_L_visit 2 0 3 := Or.inl ⟨0, by decide +kernel, by decide, rfl⟩
theorem d_L_visit_3 : gAl M_L_visit 3 0 4 := Or.inr ⟨0, by decide +kernel, rfl, rfl⟩
theorem d_L_visit_4 : gIl M_L_visit 4 1 5 := Or.inr ⟨1, by decide +kernel, rfl, rfl⟩
theorem d_L_visit_5 : gIl M_L_visit 5 2 6 := Or.inr ⟨2, by decide +kernel, rfl, rfl⟩
theorem d_L_visit_6 : gIl M_L_visit 6 3 7 := Or.inr ⟨3, by decide +kernel, rfl, rfl⟩
theorem d_L_visit_7 : gD M_L_visit 7 (.invokevirtual 36) 3 10 := ⟨by decide +kernel, rfl⟩
theorem cs_L_visit_7 : gClV M_L_visit 36 5 y_F_visit M_F_visit 3 := ⟨⟨gW_c4 31 rfl rfl, gW_c1 1 rfl rfl, cd_F_visit, by decide +kernel, by decide +kernel⟩, rfl, gW_c4 32 rfl rfl, gW_c4 33 rfl rfl, TX4, 4, rfl⟩
theorem d_L_visit_10 : gD M_L_visit 10 (.i2l) 1 11 := ⟨by decide +kernel, rfl⟩
theorem d_L_visit_11 : gD M_L_visit 11 (.lastore) 1 12 := ⟨by decide +kernel, rfl⟩
theorem d_L_visit_12 : gB M_L_visit 12 (.goto 7) 7 15 19 := ⟨by decide +kernel, rfl, by decide⟩
theorem d_L_visit_15 : gAst M_L_visit 15 5 17 := Or.inl ⟨by decide +kernel, rfl⟩
theorem d_L_visit_17 : gN M_L_visit 17 1 18 := Or.inl ⟨1, by decide +kernel, by decide, rfl⟩
theorem d_L_visit_18 : gD M_L_visit 18 (.ireturn) 1 19 := ⟨by decide +kernel, rfl⟩
theorem d_L_visit_19 : gN M_L_visit 19 0 20 := Or.inl ⟨0, by decide +kernel, by decide, rfl⟩
theorem d_L_visit_20 : gD M_L_visit 20 (.ireturn) 1 21 := ⟨by decide +kernel, rfl⟩
theorem d_L_cut_0 : gAl M_L_cut 0 5 2 := Or.inl ⟨by decide +kernel, rfl⟩
theorem d_L_cut_2 : gN M_L_cut 2 0 3 := Or.inl ⟨0, by decide +kernel, by decide, rfl⟩
theorem d_L_cut_3 : gAl M_L_cut 3 0 4 := Or.inr ⟨0, by decide +kernel, rfl, rfl⟩
theorem d_L_cut_4 : gIl M_L_cut 4 1 5 := Or.inr ⟨1, by decide +kernel, rfl, rfl⟩
theorem d_L_cut_5 : gIl M_L_cut 5 2 6 := Or.inr ⟨2, by decide +kernel, rfl, rfl⟩
theorem d_L_cut_6 : gIl M_L_cut 6 3 7 := Or.inr ⟨3, by decide +kernel, rfl, rfl⟩
theorem d_L_cut_7 : gIl M_L_cut 7 4 9 := Or.inl ⟨by decide +kernel, rfl⟩
theorem d_L_cut_9 : gD M_L_cut 9 (.invokevirtual 40) 3 12 := ⟨by decide +kernel, rfl⟩
theorem cs_L_cut_9 : gClV M_L_cut 40 5 y_F_cut M_F_cut 4 := ⟨⟨gW_c4 136 rfl rfl, gW_c1 1 rfl rfl, cd_F_cut, by decide +kernel, by decide +kernel⟩, rfl, gW_c4 137 rfl rfl, gW_c4 138 rfl rfl, TX4, 4, rfl⟩
theorem d_L_cut_12 : gD M_L_cut 12 (.i2l) 1 13 := ⟨by decide +kernel, rfl⟩
theorem d_L_cut_13 : gD M_L_cut 13 (.lastore) 1 14 := ⟨by decide +kernel, rfl⟩
theorem d_L_cut_14 : gB M_L_cut 14 (.goto 11) 11 17 25 := ⟨by decide +kernel, rfl, by decide⟩
theorem d_L_cut_17 : gAst M_L_cut 17 6 19 := Or.inl ⟨by decide +kernel, rfl⟩
theorem d_L_cut_19 : gN M_L_cut 19 1 20 := Or.inl ⟨1, by decide +kernel, by decide, rfl⟩
theorem d_L_cut_20 : gD M_L_cut 20 (.ireturn) 1 21 := ⟨by decide +kernel, rfl⟩
theorem d_L_cut_21 : gAst M_L_cut 21 6 23 := Or.inl ⟨by decide +kernel, rfl⟩
theorem d_L_cut_23 : gN M_L_cut 23 2 24 := Or.inl ⟨2, by decide +kernel, by decide, rfl⟩
theorem d_L_cut_24 : gD M_L_cut 24 (.ireturn) 1 25 := ⟨by decide +kernel, rfl⟩
theorem d_L_cut_25 : gN M_L_cut 25 0 26 := Or.inl ⟨0, by decide +kernel, by decide, rfl⟩
theorem d_L_cut_26 : gD M_L_cut 26 (.ireturn) 1 27 := ⟨by decide +kernel, rfl⟩
theorem d_L_lose_0 : gAl M_L_lose 0 2 1 := Or.inr ⟨2, by decide +kernel, rfl, rfl⟩
theorem d_L_lose_1 : gN M_L_lose 1 0 2 := Or.inl ⟨0, by decide +kernel, by decide, rfl⟩
theorem d_L_lose_2 : gAl M_L_lose 2 0 3 := Or.inr ⟨0, by decide +kernel, rfl, rfl⟩
theorem d_L_lose_3 : gIl M_L_lose 3 1 4 := Or.inr ⟨1, by decide +kernel, rfl, rfl⟩
theorem d_L_lose_4 : gD M_L_lose 4 (.invokevirtual 43) 3 7 := ⟨by decide +kernel, rfl⟩
theorem cs_L_lose_4 : gClV M_L_lose 43 5 y_F_lose M_F_lose 1 := ⟨⟨gW_c4 143 rfl rfl, gW_c1 1 rfl rfl, cd_F_lose, by decide +kernel, by decide +kernel⟩, rfl, gW_c4 144 rfl rfl, gW_c4 145 rfl rfl, TX4, 4, rfl⟩
theorem d_L_lose_7 : gD M_L_lose 7 (.i2l) 1 8 := ⟨by decide +kernel, rfl⟩
theorem d_L_lose_8 : gD M_L_lose 8 (.lastore) 1 9 := ⟨by decide +kernel, rfl⟩
theorem d_L_lose_9 : gB M_L_lose 9 (.goto 6) 6 12 15 := ⟨by decide +kernel, rfl, by decide⟩
theorem d_L_lose_12 : gAst M_L_lose 12 3 13 := Or.inr ⟨3, by decide +kernel, rfl, rfl⟩
theorem d_L_lose_13 : gN M_L_lose 13 1 14 := Or.inl ⟨1, by decide +kernel, by decide, rfl⟩
theorem d_L_lose_14 : gD M_L_lose 14 (.ireturn) 1 15 := ⟨by decide +kernel, rfl⟩
theorem d_L_lose_15 : gN M_L_lose 15 0 16 := Or.inl ⟨0, by decide +kernel, by decide, rfl⟩
theorem d_L_lose_16 : gD M_L_lose 16 (.ireturn) 1 17 := ⟨by decide +kernel, rfl⟩
theorem d_L_copy_0 : gAl M_L_copy 0 0 1 := Or.inr ⟨0, by decide +kernel, rfl, rfl⟩
theorem d_L_copy_1 : gIl M_L_copy 1 1 2 := Or.inr ⟨1, by decide +kernel, rfl, rfl⟩
theorem d_L_copy_2 : gIl M_L_copy 2 2 3 := Or.inr ⟨2, by decide +kernel, rfl, rfl⟩
theorem d_L_copy_3 : gD M_L_copy 3 (.invokevirtual 47) 3 6 := ⟨by decide +kernel, rfl⟩
theorem cs_L_copy_3 : gClV M_L_copy 47 5 y_F_copy M_F_copy 2 := ⟨⟨gW_c4 157 rfl rfl, gW_c1 1 rfl rfl, cd_F_copy, by decide +kernel, by decide +kernel⟩, rfl, gW_c4 158 rfl rfl, gW_c4 159 rfl rfl, TX4, 4, rfl⟩
theorem d_L_copy_6 : gB M_L_copy 6 (.goto 6) 6 9 12 := ⟨by decide +kernel, rfl, by decide⟩
theorem d_L_copy_9 : gAst M_L_copy 9 3 10 := Or.inr ⟨3, by decide +kernel, rfl, rfl⟩
theorem d_L_copy_10 : gN M_L_copy 10 1 11 := Or.inl ⟨1, by decide +kernel, by decide, rfl⟩
theorem d_L_copy_11 : gD M_L_copy 11 (.ireturn) 1 12 := ⟨by decide +kernel, rfl⟩
theorem d_L_copy_12 : gN M_L_copy 12 0 13 := Or.inl ⟨0, by decide +kernel, by decide, rfl⟩
theorem d_L_copy_13 : gD M_L_copy 13 (.ireturn) 1 14 := ⟨by decide +kernel, rfl⟩
theorem d_L_known_0 : gAl M_L_known 0 5 2 := Or.inl ⟨by decide +kernel, rfl⟩
theorem d_L_known_2 : gN M_L_known 2 0 3 := Or.inl ⟨0, by decide +kernel, by decide, rfl⟩
theorem d_L_known_3 : gAl M_L_known 3 0 4 := Or.inr ⟨0, by decide +kernel, rfl, rfl⟩
theorem d_L_known_4 : gIl M_L_known 4 1 5 := Or.inr ⟨1, by decide +kernel, rfl, rfl⟩
theorem d_L_known_5 : gIl M_L_known 5 2 6 := Or.inr ⟨2, by decide +kernel, rfl, rfl⟩
theorem d_L_known_6 : gIl M_L_known 6 3 7 := Or.inr ⟨3, by decide +kernel, rfl, rfl⟩
theorem d_L_known_7 : gIl M_L_known 7 4 9 := Or.inl ⟨by decide +kernel, rfl⟩
theorem d_L_known_9 : gD M_L_known 9 (.invokevirtual 50) 3 12 := ⟨by decide +kernel, rfl⟩
theorem cs_L_known_9 : gClV M_L_known 50 5 y_F_known M_F_known 4 := ⟨⟨gW_c4 171 rfl rfl, gW_c1 1 rfl rfl, cd_F_known, by decide +kernel, by decide +kernel⟩, rfl, gW_c4 172 rfl rfl, gW_c4 173 rfl rfl, TX4, 4, rfl⟩
theorem d_L_known_12 : gD M_L_known 12 (.i2l) 1 13 := ⟨by decide +kernel, rfl⟩
theorem d_L_known_13 : gD M_L_known 13 (.lastore) 1 14 := ⟨by decide +kernel, rfl⟩
theorem d_L_known_14 : gB M_L_known 14 (.goto 11) 11 17 25 := ⟨by decide +kernel, rfl, by decide⟩
theorem d_L_known_17 : gAst M_L_known 17 6 19 := Or.inl ⟨by decide +kernel, rfl⟩
theorem d_L_known_19 : gN M_L_known 19 1 20 := Or.inl ⟨1, by decide +kernel, by decide, rfl⟩
theorem d_L_known_20 : gD M_L_known 20 (.ireturn) 1 21 := ⟨by decide +kernel, rfl⟩
theorem d_L_known_21 : gAst M_L_known 21 6 23 := Or.inl ⟨by decide +kernel, rfl⟩
theorem d_L_known_23 : gN M_L_known 23 2 24 := Or.inl ⟨2, by decide +kernel, by decide, rfl⟩
theorem d_L_known_24 : gD M_L_known 24 (.ireturn) 1 25 := ⟨by decide +kernel, rfl⟩
theorem d_L_known_25 : gN M_L_known 25 0 26 := Or.inl ⟨0, by decide +kernel, by decide, rfl⟩
theorem d_L_known_26 : gD M_L_known 26 (.ireturn) 1 27 := ⟨by decide +kernel, rfl⟩
theorem d_L_marks_0 : gAl M_L_marks 0 2 1 := Or.inr ⟨2, by decide +kernel, rfl, rfl⟩
theorem d_L_marks_1 : gN M_L_marks 1 0 2 := Or.inl ⟨0, by decide +kernel, by decide, rfl⟩
theorem d_L_marks_2 : gAl M_L_marks 2 0 3 := Or.inr ⟨0, by decide +kernel, rfl, rfl⟩
theorem d_L_marks_3 : gIl M_L_marks 3 1 4 := Or.inr ⟨1, by decide +kernel, rfl, rfl⟩
theorem d_L_marks_4 : gD M_L_marks 4 (.invokevirtual 53) 3 7 := ⟨by decide +kernel, rfl⟩
theorem cs_L_marks_4 : gClV M_L_marks 53 5 y_F_marks M_F_marks 1 := ⟨⟨gW_c4 179 rfl rfl, gW_c1 1 rfl rfl, cd_F_marks, by decide +kernel, by decide +kernel⟩, rfl, gW_c4 180 rfl rfl, gW_c4 181 rfl rfl, TX4, 4, rfl⟩
theorem d_L_marks_7 : gD M_L_marks 7 (.i2l) 1 8 := ⟨by decide +kernel, rfl⟩
theorem d_L_marks_8 : gD M_L_marks 8 (.lastore) 1 9 := ⟨by decide +kernel, rfl⟩
theorem d_L_marks_9 : gB M_L_marks 9 (.goto 6) 6 12 15 := ⟨by decide +kernel, rfl, by decide⟩
theorem d_L_marks_12 : gAst M_L_marks 12 3 13 := Or.inr ⟨3, by decide +kernel, rfl, rfl⟩
theorem d_L_marks_13 : gN M_L_marks 13 1 14 := Or.inl ⟨1, by decide +kernel, by decide, rfl⟩
theorem d_L_marks_14 : gD M_L_marks 14 (.ireturn) 1 15 := ⟨by decide +kernel, rfl⟩
theorem d_L_marks_15 : gN M_L_marks 15 0 16 := Or.inl ⟨0, by decide +kernel, by decide, rfl⟩
theorem d_L_marks_16 : gD M_L_marks 16 (.ireturn) 1 17 := ⟨by decide +kernel, rfl⟩
theorem d_L_bytes_0 : gAl M_L_bytes 0 2 1 := Or.inr ⟨2, by decide +kernel, rfl, rfl⟩
theorem d_L_bytes_1 : gN M_L_bytes 1 0 2 := Or.inl ⟨0, by decide +kernel, by decide, rfl⟩
theorem d_L_bytes_2 : gAl M_L_bytes 2 0 3 := Or.inr ⟨0, by decide +kernel, rfl, rfl⟩
theorem d_L_bytes_3 : gIl M_L_bytes 3 1 4 := Or.inr ⟨1, by decide +kernel, rfl, rfl⟩
theorem d_L_bytes_4 : gD M_L_bytes 4 (.invokevirtual 56) 3 7 := ⟨by decide +kernel, rfl⟩
theorem cs_L_bytes_4 : gClV M_L_bytes 56 5 y_F_bytes M_F_bytes 1 := ⟨⟨gW_c4 190 rfl rfl, gW_c1 1 rfl rfl, cd_F_bytes, by decide +kernel, by decide +kernel⟩, rfl, gW_c4 191 rfl rfl, gW_c4 192 rfl rfl, TX4, 4, rfl⟩
theorem d_L_bytes_7 : gD M_L_bytes 7 (.i2l) 1 8 := ⟨by decide +kernel, rfl⟩
theorem d_L_bytes_8 : gD M_L_bytes 8 (.lastore) 1 9 := ⟨by decide +kernel, rfl⟩
theorem d_L_bytes_9 : gB M_L_bytes 9 (.goto 6) 6 12 15 := ⟨by decide +kernel, rfl, by decide⟩
theorem d_L_bytes_12 : gAst M_L_bytes 12 3 13 := Or.inr ⟨3, by decide +kernel, rfl, rfl⟩
theorem d_L_bytes_13 : gN M_L_bytes 13 1 14 := Or.inl ⟨1, by decide +kernel, by decide, rfl⟩
theorem d_L_bytes_14 : gD M_L_bytes 14 (.ireturn) 1 15 := ⟨by decide +kernel, rfl⟩
theorem d_L_bytes_15 : gN M_L_bytes 15 0 16 := Or.inl ⟨0, by decide +kernel, by decide, rfl⟩
theorem d_L_bytes_16 : gD M_L_bytes 16 (.ireturn) 1 17 := ⟨by decide +kernel, rfl⟩
theorem d_L_same_0 : gAl M_L_same 0 3 1 := Or.inr ⟨3, by decide +kernel, rfl, rfl⟩
theorem d_L_same_1 : gN M_L_same 1 0 2 := Or.inl ⟨0, by decide +kernel, by decide, rfl⟩
theorem d_L_same_2 : gAl M_L_same 2 0 3 := Or.inr ⟨0, by decide +kernel, rfl, rfl⟩
theorem d_L_same_3 : gIl M_L_same 3 1 4 := Or.inr ⟨1, by decide +kernel, rfl, rfl⟩
theorem d_L_same_4 : gIl M_L_same 4 2 5 := Or.inr ⟨2, by decide +kernel, rfl, rfl⟩
theorem d_L_same_5 : gD M_L_same 5 (.invokevirtual 59) 3 8 := ⟨by decide +kernel, rfl⟩
theorem cs_L_same_5 : gClV M_L_same 59 5 y_F_same M_F_same 2 := ⟨⟨gW_c4 201 rfl rfl, gW_c1 1 rfl rfl, cd_F_same, by decide +kernel, by decide +kernel⟩, rfl, gW_c4 202 rfl rfl, gW_c4 203 rfl rfl, TX4, 4, rfl⟩
theorem d_L_same_8 : gB M_L_same 8 (.ifCond .eq 7) 7 11 15 := ⟨by decide +kernel, rfl, by decide⟩
theorem d_L_same_11 : gD M_L_same 11 (.lconst 1) 1 12 := ⟨by decide +kernel, rfl⟩
theorem d_L_same_12 : gB M_L_same 12 (.goto 4) 4 15 16 := ⟨by decide +kernel, rfl, by decide⟩
theorem d_L_same_15 : gD M_L_same 15 (.lconst 0) 1 16 := ⟨by decide +kernel, rfl⟩
theorem d_L_same_16 : gD M_L_same 16 (.lastore) 1 17 := ⟨by decide +kernel, rfl⟩
theorem d_L_same_17 : gB M_L_same 17 (.goto 7) 7 20 24 := ⟨by decide +kernel, rfl, by decide⟩
theorem d_L_same_20 : gAst M_L_same 20 4 22 := Or.inl ⟨by decide +kernel, rfl⟩
theorem d_L_same_22 : gN M_L_same 22 1 23 := Or.inl ⟨1, by decide +kernel, by decide, rfl⟩
theorem d_L_same_23 : gD M_L_same 23 (.ireturn) 1 24 := ⟨by decide +kernel, rfl⟩
theorem d_L_same_24 : gN M_L_same 24 0 25 := Or.inl ⟨0, by decide +kernel, by decide, rfl⟩
theorem d_L_same_25 : gD M_L_same 25 (.ireturn) 1 26 := ⟨by decide +kernel, rfl⟩
theorem d_L_room_0 : gAl M_L_room 0 2 1 := Or.inr ⟨2, by decide +kernel, rfl, rfl⟩
theorem d_L_room_1 : gN M_L_room 1 0 2 := Or.inl ⟨0, by decide +kernel, by decide, rfl⟩
theorem d_L_room_2 : gAl M_L_room 2 0 3 := Or.inr ⟨0, by decide +kernel, rfl, rfl⟩
theorem d_L_room_3 : gIl M_L_room 3 1 4 := Or.inr ⟨1, by decide +kernel, rfl, rfl⟩
theorem d_L_room_4 : gD M_L_room 4 (.invokevirtual 63) 3 7 := ⟨by decide +kernel, rfl⟩
theorem cs_L_room_4 : gClV M_L_room 63 5 y_F_room M_F_room 1 := ⟨⟨gW_c4 216 rfl rfl, gW_c1 1 rfl rfl, cd_F_room, by decide +kernel, by decide +kernel⟩, rfl, gW_c4 217 rfl rfl, gW_c4 218 rfl rfl, TX4, 4, rfl⟩
theorem d_L_room_7 : gD M_L_room 7 (.i2l) 1 8 := ⟨by decide +kernel, rfl⟩
theorem d_L_room_8 : gD M_L_room 8 (.lastore) 1 9 := ⟨by decide +kernel, rfl⟩
theorem d_L_room_9 : gB M_L_room 9 (.goto 6) 6 12 15 := ⟨by decide +kernel, rfl, by decide⟩
theorem d_L_room_12 : gAst M_L_room 12 3 13 := Or.inr ⟨3, by decide +kernel, rfl, rfl⟩
theorem d_L_room_13 : gN M_L_room 13 1 14 := Or.inl ⟨1, by decide +kernel, by decide, rfl⟩
theorem d_L_room_14 : gD M_L_room 14 (.ireturn) 1 15 := ⟨by decide +kernel, rfl⟩
theorem d_L_room_15 : gN M_L_room 15 0 16 := Or.inl ⟨0, by decide +kernel, by decide, rfl⟩
theorem d_L_room_16 : gD M_L_room 16 (.ireturn) 1 17 := ⟨by decide +kernel, rfl⟩
theorem d_L_item_0 : gAl M_L_item 0 4 2 := Or.inl ⟨by decide +kernel, rfl⟩
theorem d_L_item_2 : gN M_L_item 2 0 3 := Or.inl ⟨0, by decide +kernel, by decide, rfl⟩
theorem d_L_item_3 : gAl M_L_item 3 0 4 := Or.inr ⟨0, by decide +kernel, rfl, rfl⟩
theorem d_L_item_4 : gIl M_L_item 4 1 5 := Or.inr ⟨1, by decide +kernel, rfl, rfl⟩
theorem d_L_item_5 : gIl M_L_item 5 2 6 := Or.inr ⟨2, by decide +kernel, rfl, rfl⟩
theorem d_L_item_6 : gIl M_L_item 6 3 7 := Or.inr ⟨3, by decide +kernel, rfl, rfl⟩
theorem d_L_item_7 : gD M_L_item 7 (.invokevirtual 66) 3 10 := ⟨by decide +kernel, rfl⟩
theorem cs_L_item_7 : gClV M_L_item 66 5 y_F_item M_F_item 3 := ⟨⟨gW_c4 223 rfl rfl, gW_c1 1 rfl rfl, cd_F_item, by decide +kernel, by decide +kernel⟩, rfl, gW_c4 224 rfl rfl, gW_c4 225 rfl rfl, TX4, 4, rfl⟩
theorem d_L_item_10 : gD M_L_item 10 (.i2l) 1 11 := ⟨by decide +kernel, rfl⟩
theorem d_L_item_11 : gD M_L_item 11 (.lastore) 1 12 := ⟨by decide +kernel, rfl⟩
theorem d_L_item_12 : gB M_L_item 12 (.goto 11) 11 15 23 := ⟨by decide +kernel, rfl, by decide⟩
theorem d_L_item_15 : gAst M_L_item 15 5 17 := Or.inl ⟨by decide +kernel, rfl⟩
theorem d_L_item_17 : gN M_L_item 17 1 18 := Or.inl ⟨1, by decide +kernel, by decide, rfl⟩
theorem d_L_item_18 : gD M_L_item 18 (.ireturn) 1 19 := ⟨by decide +kernel, rfl⟩
theorem d_L_item_19 : gAst M_L_item 19 5 21 := Or.inl ⟨by decide +kernel, rfl⟩
theorem d_L_item_21 : gN M_L_item 21 2 22 := Or.inl ⟨2, by decide +kernel, by decide, rfl⟩
theorem d_L_item_22 : gD M_L_item 22 (.ireturn) 1 23 := ⟨by decide +kernel, rfl⟩
theorem d_L_item_23 : gN M_L_item 23 0 24 := Or.inl ⟨0, by decide +kernel, by decide, rfl⟩
theorem d_L_item_24 : gD M_L_item 24 (.ireturn) 1 25 := ⟨by decide +kernel, rfl⟩
theorem d_L_law_0 : gD M_L_law 0 (.new 8) 3 3 := ⟨by decide +kernel, rfl⟩
theorem nw_L_law_0 : gNew M_L_law 8 5 [.null, .null, .null, .int 0] := ⟨RX4, TX4, 4, tyX4, rfl, rfl, gW_c1 30 rfl rfl, gW_c1 31 rfl rfl, gW_c1 1 rfl rfl, gws_5, tyX4_ok, by decide⟩
theorem d_L_law_3 : gD M_L_law 3 (.dup) 1 4 := ⟨by decide +kernel, rfl⟩
theorem d_L_law_4 : gD M_L_law 4 (.invokespecial 69) 3 7 := ⟨by decide +kernel, rfl⟩
theorem cs_L_law_4 : gClI M_L_law 69 y_F_init M_F_init 0 := ⟨⟨gW_c1 32 rfl rfl, gW_c1 1 rfl rfl, cd_F_init, by decide +kernel, by decide +kernel⟩, rfl, gW_c1 33 rfl rfl, rfl, rfl⟩
theorem d_L_law_7 : gAst M_L_law 7 1 8 := Or.inr ⟨1, by decide +kernel, rfl, rfl⟩
theorem d_L_law_8 : gD M_L_law 8 (.new 70) 3 11 := ⟨by decide +kernel, rfl⟩
theorem nw_L_law_8 : gNew M_L_law 70 6 [.int 0, .int 0, .null, .null, .null, .null, .null, .null, .null, .null, .null, .int 0] := ⟨RX5, TX5, 12, tyX5, rfl, rfl, gW_c4 227 rfl rfl, gW_c4 228 rfl rfl, gW_c1 8 rfl rfl, gws_6, tyX5_ok, by decide⟩
theorem d_L_law_11 : gD M_L_law 11 (.dup) 1 12 := ⟨by decide +kernel, rfl⟩
theorem d_L_law_12 : gD M_L_law 12 (.invokespecial 72) 3 15 := ⟨by decide +kernel, rfl⟩
theorem cs_L_law_12 : gClI M_L_law 72 y_R_init M_R_init 0 := ⟨⟨gW_c4 229 rfl rfl, gW_c1 8 rfl rfl, cd_R_init, by decide +kernel, by decide +kernel⟩, rfl, gW_c4 230 rfl rfl, rfl, rfl⟩
theorem d_L_law_15 : gAst M_L_law 15 2 16 := Or.inr ⟨2, by decide +kernel, rfl, rfl⟩
theorem d_L_law_16 : gN M_L_law 16 1 17 := Or.inl ⟨1, by decide +kernel, by decide, rfl⟩
theorem d_L_law_17 : gD M_L_law 17 (.newarray .long) 2 19 := ⟨by decide +kernel, rfl⟩
theorem d_L_law_19 : gAst M_L_law 19 3 20 := Or.inr ⟨3, by decide +kernel, rfl, rfl⟩
theorem d_L_law_20 : gN M_L_law 20 0 21 := Or.inl ⟨0, by decide +kernel, by decide, rfl⟩
theorem d_L_law_21 : gIs M_L_law 21 4 23 := Or.inl ⟨by decide +kernel, rfl⟩
theorem d_L_law_23 : gIl M_L_law 23 4 25 := Or.inl ⟨by decide +kernel, rfl⟩
theorem d_L_law_25 : gAl M_L_law 25 0 26 := Or.inr ⟨0, by decide +kernel, rfl, rfl⟩
theorem d_L_law_26 : gD M_L_law 26 (.arraylength) 1 27 := ⟨by decide +kernel, rfl⟩
theorem d_L_law_27 : gN M_L_law 27 5 28 := Or.inl ⟨5, by decide +kernel, by decide, rfl⟩
theorem d_L_law_28 : gD M_L_law 28 (.isub) 1 29 := ⟨by decide +kernel, rfl⟩
theorem d_L_law_29 : gB M_L_law 29 (.if_icmp .gt 1169) 1169 32 1198 := ⟨by decide +kernel, rfl, by decide⟩
theorem d_L_law_32 : gAl M_L_law 32 0 33 := Or.inr ⟨0, by decide +kernel, rfl, rfl⟩
theorem d_L_law_33 : gIl M_L_law 33 4 35 := Or.inl ⟨by decide +kernel, rfl⟩
theorem d_L_law_35 : gD M_L_law 35 (.iaload) 1 36 := ⟨by decide +kernel, rfl⟩
theorem d_L_law_36 : gN M_L_law 36 15 38 := Or.inr (Or.inl ⟨15, by decide +kernel, by decide, rfl⟩)
theorem d_L_law_38 : gD M_L_law 38 (.iand) 1 39 := ⟨by decide +kernel, rfl⟩
theorem d_L_law_39 : gD M_L_law 39 (.tableswitch 1153 0 15 #[77, 149, 197, 265, 357, 449, 529, 621, 677, 725, 817, 873, 929, 1004, 1060, 1140]) 77 116 := ⟨by decide +kernel, rfl⟩
theorem d_L_law_116 : gAl M_L_law 116 1 117 := Or.inr ⟨1, by decide +kernel, rfl, rfl⟩
theorem d_L_law_117 : gAl M_L_law 117 0 118 := Or.inr ⟨0, by decide +kernel, rfl, rfl⟩
theorem d_L_law_118 : gIl M_L_law 118 4 120 := Or.inl ⟨by decide +kernel, rfl⟩
theorem d_L_law_120 : gN M_L_law 120 1 121 := Or.inl ⟨1, by decide +kernel, by decide, rfl⟩
theorem d_L_law_121 : gD M_L_law 121 (.iadd) 1 122 := ⟨by decide +kernel, rfl⟩
theorem d_L_law_122 : gD M_L_law 122 (.iaload) 1 123 := ⟨by decide +kernel, rfl⟩
theorem d_L_law_123 : gAl M_L_law 123 0 124 := Or.inr ⟨0, by decide +kernel, rfl, rfl⟩
theorem d_L_law_124 : gIl M_L_law 124 4 126 := Or.inl ⟨by decide +kernel, rfl⟩
theorem d_L_law_126 : gN M_L_law 126 2 127 := Or.inl ⟨2, by decide +kernel, by decide, rfl⟩
theorem d_L_law_127 : gD M_L_law 127 (.iadd) 1 128 := ⟨by decide +kernel, rfl⟩
theorem d_L_law_128 : gD M_L_law 128 (.iaload) 1 129 := ⟨by decide +kernel, rfl⟩
theorem d_L_law_129 : gAl M_L_law 129 0 130 := Or.inr ⟨0, by decide +kernel, rfl, rfl⟩
theorem d_L_law_130 : gIl M_L_law 130 4 132 := Or.inl ⟨by decide +kernel, rfl⟩
theorem d_L_law_132 : gN M_L_law 132 3 133 := Or.inl ⟨3, by decide +kernel, by decide, rfl⟩
theorem d_L_law_133 : gD M_L_law 133 (.iadd) 1 134 := ⟨by decide +kernel, rfl⟩
theorem d_L_law_134 : gD M_L_law 134 (.iaload) 1 135 := ⟨by decide +kernel, rfl⟩
theorem d_L_law_135 : gAl M_L_law 135 0 136 := Or.inr ⟨0, by decide +kernel, rfl, rfl⟩
theorem d_L_law_136 : gIl M_L_law 136 4 138 := Or.inl ⟨by decide +kernel, rfl⟩
theorem d_L_law_138 : gN M_L_law 138 4 139 := Or.inl ⟨4, by decide +kernel, by decide, rfl⟩
theorem d_L_law_139 : gD M_L_law 139 (.iadd) 1 140 := ⟨by decide +kernel, rfl⟩
theorem d_L_law_140 : gD M_L_law 140 (.iaload) 1 141 := ⟨by decide +kernel, rfl⟩
theorem d_L_law_141 : gD M_L_law 141 (.invokestatic 73) 3 144 := ⟨by decide +kernel, rfl⟩
theorem cs_L_law_141 : gClS M_L_law 73 y_L_edit M_L_edit 5 := ⟨⟨gW_c1 133 rfl rfl, gW_c1 0 rfl rfl, cd_L_edit, by decide +kernel, by decide +kernel⟩, gW_c1 134 rfl rfl⟩
theorem d_L_law_144 : gIs M_L_law 144 5 146 := Or.inl ⟨by decide +kernel, rfl⟩
theorem d_L_law_146 : gAl M_L_law 146 2 147 := Or.inr ⟨2, by decide +kernel, rfl, rfl⟩
theorem d_L_law_147 : gAl M_L_law 147 0 148 := Or.inr ⟨0, by decide +kernel, rfl, rfl⟩
theorem d_L_law_148 : gIl M_L_law 148 4 150 := Or.inl ⟨by decide +kernel, rfl⟩
theorem d_L_law_150 : gN M_L_law 150 1 151 := Or.inl ⟨1, by decide +kernel, by decide, rfl⟩
theorem d_L_law_151 : gD M_L_law 151 (.iadd) 1 152 := ⟨by decide +kernel, rfl⟩
theorem d_L_law_152 : gD M_L_law 152 (.iaload) 1 153 := ⟨by decide +kernel, rfl⟩
theorem d_L_law_153 : gAl M_L_law 153 0 154 := Or.inr ⟨0, by decide +kernel, rfl, rfl⟩
theorem d_L_law_154 : gIl M_L_law 154 4 156 := Or.inl ⟨by decide +kernel, rfl⟩
theorem d_L_law_156 : gN M_L_law 156 2 157 := Or.inl ⟨2, by decide +kernel, by decide, rfl⟩
theorem d_L_law_157 : gD M_L_law 157 (.iadd) 1 158 := ⟨by decide +kernel, rfl⟩
theorem d_L_law_158 : gD M_L_law 158 (.iaload) 1 159 := ⟨by decide +kernel, rfl⟩
theorem d_L_law_159 : gAl M_L_law 159 0 160 := Or.inr ⟨0, by decide +kernel, rfl, rfl⟩
theorem d_L_law_160 : gIl M_L_law 160 4 162 := Or.inl ⟨by decide +kernel, rfl⟩
theorem d_L_law_162 : gN M_L_law 162 3 163 := Or.inl ⟨3, by decide +kernel, by decide, rfl⟩
theorem d_L_law_163 : gD M_L_law 163 (.iadd) 1 164 := ⟨by decide +kernel, rfl⟩
theorem d_L_law_164 : gD M_L_law 164 (.iaload) 1 165 := ⟨by decide +kernel, rfl⟩
theorem d_L_law_165 : gAl M_L_law 165 0 166 := Or.inr ⟨0, by decide +kernel, rfl, rfl⟩
theorem d_L_law_166 : gIl M_L_law 166 4 168 := Or.inl ⟨by decide +kernel, rfl⟩
theorem d_L_law_168 : gN M_L_law 168 4 169 := Or.inl ⟨4, by decide +kernel, by decide, rfl⟩
theorem d_L_law_169 : gD M_L_law 169 (.iadd) 1 170 := ⟨by decide +kernel, rfl⟩
theorem d_L_law_170 : gD M_L_law 170 (.iaload) 1 171 := ⟨by decide +kernel, rfl⟩
theorem d_L_law_171 : gD M_L_law 171 (.invokevirtual 78) 3 174 := ⟨by decide +kernel, rfl⟩
theorem cs_L_law_171 : gClV M_L_law 78 6 y_R_edit M_R_edit 4 := ⟨⟨gW_c5 34 rfl rfl, gW_c1 8 rfl rfl, cd_R_edit, by decide +kernel, by decide +kernel⟩, rfl, gW_c5 35 rfl rfl, gW_c5 36 rfl rfl, TX5, 12, rfl⟩
theorem d_L_law_174 : gAl M_L_law 174 2 175 := Or.inr ⟨2, by decide +kernel, rfl, rfl⟩
theorem d_L_law_175 : gD M_L_law 175 (.invokevirtual 79) 3 178 := ⟨by decide +kernel, rfl⟩
theorem cs_L_law_175 : gClV M_L_law 79 6 y_R_thrown M_R_thrown 0 := ⟨⟨gW_c5 30 rfl rfl, gW_c1 8 rfl rfl, cd_R_thrown, by decide +kernel, by decide +kernel⟩, rfl, gW_c5 31 rfl rfl, gW_c5 32 rfl rfl, TX5, 12, rfl⟩
theorem d_L_law_178 : gIl M_L_law 178 5 180 := Or.inl ⟨by decide +kernel, rfl⟩
theorem d_L_law_180 : gB M_L_law 180 (.if_icmp .eq 5) 5 183 185 := ⟨by decide +kernel, rfl, by decide⟩
theorem d_L_law_183 : gN M_L_law 183 0 184 := Or.inl ⟨0, by decide +kernel, by decide, rfl⟩
theorem d_L_law_184 : gD M_L_law 184 (.ireturn) 1 185 := ⟨by decide +kernel, rfl⟩
theorem d_L_law_185 : gB M_L_law 185 (.goto 1007) 1007 188 1192 := ⟨by decide +kernel, rfl, by decide⟩
theorem d_L_law_188 : gAl M_L_law 188 1 189 := Or.inr ⟨1, by decide +kernel, rfl, rfl⟩
theorem d_L_law_189 : gAl M_L_law 189 0 190 := Or.inr ⟨0, by decide +kernel, rfl, rfl⟩
theorem d_L_law_190 : gIl M_L_law 190 4 192 := Or.inl ⟨by decide +kernel, rfl⟩
theorem d_L_law_192 : gN M_L_law 192 1 193 := Or.inl ⟨1, by decide +kernel, by decide, rfl⟩
theorem d_L_law_193 : gD M_L_law 193 (.iadd) 1 194 := ⟨by decide +kernel, rfl⟩
theorem d_L_law_194 : gD M_L_law 194 (.iaload) 1 195 := ⟨by decide +kernel, rfl⟩
theorem d_L_law_195 : gAl M_L_law 195 0 196 := Or.inr ⟨0, by decide +kernel, rfl, rfl⟩
theorem d_L_law_196 : gIl M_L_law 196 4 198 := Or.inl ⟨by decide +kernel, rfl⟩
theorem d_L_law_198 : gN M_L_law 198 2 199 := Or.inl ⟨2, by decide +kernel, by decide, rfl⟩
theorem d_L_law_199 : gD M_L_law 199 (.iadd) 1 200 := ⟨by decide +kernel, rfl⟩
theorem d_L_law_200 : gD M_L_law 200 (.iaload) 1 201 := ⟨by decide +kernel, rfl⟩
theorem d_L_law_201 : gD M_L_law 201 (.invokestatic 83) 3 204 := ⟨by decide +kernel, rfl⟩
theorem cs_L_law_201 : gClS M_L_law 83 y_L_erase M_L_erase 3 := ⟨⟨gW_c3 215 rfl rfl, gW_c1 0 rfl rfl, cd_L_erase, by decide +kernel, by decide +kernel⟩, gW_c3 216 rfl rfl⟩
theorem d_L_law_204 : gIs M_L_law 204 5 206 := Or.inl ⟨by decide +kernel, rfl⟩
theorem d_L_law_206 : gAl M_L_law 206 2 207 := Or.inr ⟨2, by decide +kernel, rfl, rfl⟩
theorem d_L_law_207 : gAl M_L_law 207 0 208 := Or.inr ⟨0, by decide +kernel, rfl, rfl⟩
theorem d_L_law_208 : gIl M_L_law 208 4 210 := Or.inl ⟨by decide +kernel, rfl⟩
theorem d_L_law_210 : gN M_L_law 210 1 211 := Or.inl ⟨1, by decide +kernel, by decide, rfl⟩
theorem d_L_law_211 : gD M_L_law 211 (.iadd) 1 212 := ⟨by decide +kernel, rfl⟩
theorem d_L_law_212 : gD M_L_law 212 (.iaload) 1 213 := ⟨by decide +kernel, rfl⟩
theorem d_L_law_213 : gAl M_L_law 213 0 214 := Or.inr ⟨0, by decide +kernel, rfl, rfl⟩
theorem d_L_law_214 : gIl M_L_law 214 4 216 := Or.inl ⟨by decide +kernel, rfl⟩
theorem d_L_law_216 : gN M_L_law 216 2 217 := Or.inl ⟨2, by decide +kernel, by decide, rfl⟩
theorem d_L_law_217 : gD M_L_law 217 (.iadd) 1 218 := ⟨by decide +kernel, rfl⟩
theorem d_L_law_218 : gD M_L_law 218 (.iaload) 1 219 := ⟨by decide +kernel, rfl⟩
theorem d_L_law_219 : gD M_L_law 219 (.invokevirtual 86) 3 222 := ⟨by decide +kernel, rfl⟩
theorem cs_L_law_219 : gClV M_L_law 86 6 y_R_erase M_R_erase 2 := ⟨⟨gW_c5 79 rfl rfl, gW_c1 8 rfl rfl, cd_R_erase, by decide +kernel, by decide +kernel⟩, rfl, gW_c5 80 rfl rfl, gW_c5 81 rfl rfl, TX5, 12, rfl⟩
theorem d_L_law_222 : gAl M_L_law 222 2 223 := Or.inr ⟨2, by decide +kernel, rfl, rfl⟩
theorem d_L_law_223 : gD M_L_law 223 (.invokevirtual 79) 3 226 := ⟨by decide +kernel, rfl⟩
theorem cs_L_law_223 : gClV M_L_law 79 6 y_R_thrown M_R_thrown 0 := ⟨⟨gW_c5 30 rfl rfl, gW_c1 8 rfl rfl, cd_R_thrown, by decide +kernel, by decide +kernel⟩, rfl, gW_c5 31 rfl rfl, gW_c5 32 rfl rfl, TX5, 12, rfl⟩
theorem d_L_law_226 : gIl M_L_law 226 5 228 := Or.inl ⟨by decide +kernel, rfl⟩
theorem d_L_law_228 : gB M_L_law 228 (.if_icmp .eq 5) 5 231 233 := ⟨by decide +kernel, rfl, by decide⟩
theorem d_L_law_231 : gN M_L_law 231 0 232 := Or.inl ⟨0, by decide +kernel, by decide, rfl⟩
theorem d_L_law_232 : gD M_L_law 232 (.ireturn) 1 233 := ⟨by decide +kernel, rfl⟩
theorem d_L_law_233 : gB M_L_law 233 (.goto 959) 959 236 1192 := ⟨by decide +kernel, rfl, by decide⟩
theorem d_L_law_236 : gAl M_L_law 236 1 237 := Or.inr ⟨1, by decide +kernel, rfl, rfl⟩
theorem d_L_law_237 : gAl M_L_law 237 0 238 := Or.inr ⟨0, by decide +kernel, rfl, rfl⟩
theorem d_L_law_238 : gIl M_L_law 238 4 240 := Or.inl ⟨by decide +kernel, rfl⟩
theorem d_L_law_240 : gN M_L_law 240 1 241 := Or.inl ⟨1, by decide +kernel, by decide, rfl⟩
theorem d_L_law_241 : gD M_L_law 241 (.iadd) 1 242 := ⟨by decide +kernel, rfl⟩
theorem d_L_law_242 : gD M_L_law 242 (.iaload) 1 243 := ⟨by decide +kernel, rfl⟩
theorem d_L_law_243 : gAl M_L_law 243 0 244 := Or.inr ⟨0, by decide +kernel, rfl, rfl⟩
theorem d_L_law_244 : gIl M_L_law 244 4 246 := Or.inl ⟨by decide +kernel, rfl⟩
theorem d_L_law_246 : gN M_L_law 246 2 247 := Or.inl ⟨2, by decide +kernel, by decide, rfl⟩
theorem d_L_law_247 : gD M_L_law 247 (.iadd) 1 248 := ⟨by decide +kernel, rfl⟩
theorem d_L_law_248 : gD M_L_law 248 (.iaload) 1 249 := ⟨by decide +kernel, rfl⟩
theorem d_L_law_249 : gAl M_L_law 249 3 250 := Or.inr ⟨3, by decide +kernel, rfl, rfl⟩
theorem d_L_law_250 : gD M_L_law 250 (.invokestatic 87) 3 253 := ⟨by decide +kernel, rfl⟩
theorem cs_L_law_250 : gClS M_L_law 87 y_L_siblings M_L_siblings 4 := ⟨⟨gW_c3 222 rfl rfl, gW_c1 0 rfl rfl, cd_L_siblings, by decide +kernel, by decide +kernel⟩, gW_c3 223 rfl rfl⟩
theorem d_L_law_253 : gIs M_L_law 253 5 255 := Or.inl ⟨by decide +kernel, rfl⟩
theorem d_L_law_255 : gAl M_L_law 255 2 256 := Or.inr ⟨2, by decide +kernel, rfl, rfl⟩
theorem d_L_law_256 : gAl M_L_law 256 0 257 := Or.inr ⟨0, by decide +kernel, rfl, rfl⟩
theorem d_L_law_257 : gIl M_L_law 257 4 259 := Or.inl ⟨by decide +kernel, rfl⟩
theorem d_L_law_259 : gN M_L_law 259 1 260 := Or.inl ⟨1, by decide +kernel, by decide, rfl⟩
theorem d_L_law_260 : gD M_L_law 260 (.iadd) 1 261 := ⟨by decide +kernel, rfl⟩
theorem d_L_law_261 : gD M_L_law 261 (.iaload) 1 262 := ⟨by decide +kernel, rfl⟩
theorem d_L_law_262 : gAl M_L_law 262 0 263 := Or.inr ⟨0, by decide +kernel, rfl, rfl⟩
theorem d_L_law_263 : gIl M_L_law 263 4 265 := Or.inl ⟨by decide +kernel, rfl⟩
theorem d_L_law_265 : gN M_L_law 265 2 266 := Or.inl ⟨2, by decide +kernel, by decide, rfl⟩
theorem d_L_law_266 : gD M_L_law 266 (.iadd) 1 267 := ⟨by decide +kernel, rfl⟩
theorem d_L_law_267 : gD M_L_law 267 (.iaload) 1 268 := ⟨by decide +kernel, rfl⟩
theorem d_L_law_268 : gD M_L_law 268 (.invokevirtual 90) 3 271 := ⟨by decide +kernel, rfl⟩
theorem cs_L_law_268 : gClV M_L_law 90 6 y_R_siblings M_R_siblings 2 := ⟨⟨gW_c5 83 rfl rfl, gW_c1 8 rfl rfl, cd_R_siblings, by decide +kernel, by decide +kernel⟩, rfl, gW_c5 84 rfl rfl, gW_c5 85 rfl rfl, TX5, 12, rfl⟩
theorem d_L_law_271 : gIs M_L_law 271 6 273 := Or.inl ⟨by decide +kernel, rfl⟩
theorem d_L_law_273 : gAl M_L_law 273 2 274 := Or.inr ⟨2, by decide +kernel, rfl, rfl⟩
theorem d_L_law_274 : gD M_L_law 274 (.invokevirtual 79) 3 277 := ⟨by decide +kernel, rfl⟩
theorem cs_L_law_274 : gClV M_L_law 79 6 y_R_thrown M_R_thrown 0 := ⟨⟨gW_c5 30 rfl rfl, gW_c1 8 rfl rfl, cd_R_thrown, by decide +kernel, by decide +kernel⟩, rfl, gW_c5 31 rfl rfl, gW_c5 32 rfl rfl, TX5, 12, rfl⟩
theorem d_L_law_277 : gIl M_L_law 277 5 279 := Or.inl ⟨by decide +kernel, rfl⟩
theorem d_L_law_279 : gB M_L_law 279 (.if_icmp .eq 5) 5 282 284 := ⟨by decide +kernel, rfl, by decide⟩
theorem d_L_law_282 : gN M_L_law 282 0 283 := Or.inl ⟨0, by decide +kernel, by decide, rfl⟩
theorem d_L_law_283 : gD M_L_law 283 (.ireturn) 1 284 := ⟨by decide +kernel, rfl⟩
theorem d_L_law_284 : gIl M_L_law 284 5 286 := Or.inl ⟨by decide +kernel, rfl⟩
theorem d_L_law_286 : gB M_L_law 286 (.ifCond .ne 15) 15 289 301 := ⟨by decide +kernel, rfl, by decide⟩
theorem d_L_law_289 : gAl M_L_law 289 3 290 := Or.inr ⟨3, by decide +kernel, rfl, rfl⟩
theorem d_L_law_290 : gN M_L_law 290 0 291 := Or.inl ⟨0, by decide +kernel, by decide, rfl⟩
theorem d_L_law_291 : gD M_L_law 291 (.laload) 1 292 := ⟨by decide +kernel, rfl⟩
theorem d_L_law_292 : gIl M_L_law 292 6 294 := Or.inl ⟨by decide +kernel, rfl⟩
theorem d_L_law_294 : gD M_L_law 294 (.i2l) 1 295 := ⟨by decide +kernel, rfl⟩
theorem d_L_law_295 : gD M_L_law 295 (.lcmp) 1 296 := ⟨by decide +kernel, rfl⟩
theorem d_L_law_296 : gB M_L_law 296 (.ifCond .eq 5) 5 299 301 := ⟨by decide +kernel, rfl, by decide⟩
theorem d_L_law_299 : gN M_L_law 299 0 300 := Or.inl ⟨0, by decide +kernel, by decide, rfl⟩
theorem d_L_law_300 : gD M_L_law 300 (.ireturn) 1 301 := ⟨by decide +kernel, rfl⟩
theorem d_L_law_301 : gB M_L_law 301 (.goto 891) 891 304 1192 := ⟨by decide +kernel, rfl, by decide⟩
theorem d_L_law_304 : gAl M_L_law 304 1 305 := Or.inr ⟨1, by decide +kernel, rfl, rfl⟩
theorem d_L_law_305 : gAl M_L_law 305 0 306 := Or.inr ⟨0, by decide +kernel, rfl, rfl⟩
theorem d_L_law_306 : gIl M_L_law 306 4 308 := Or.inl ⟨by decide +kernel, rfl⟩
theorem d_L_law_308 : gN M_L_law 308 1 309 := Or.inl ⟨1, by decide +kernel, by decide, rfl⟩
theorem d_L_law_309 : gD M_L_law 309 (.iadd) 1 310 := ⟨by decide +kernel, rfl⟩
theorem d_L_law_310 : gD M_L_law 310 (.iaload) 1 311 := ⟨by decide +kernel, rfl⟩
theorem d_L_law_311 : gAl M_L_law 311 0 312 := Or.inr ⟨0, by decide +kernel, rfl, rfl⟩
theorem d_L_law_312 : gIl M_L_law 312 4 314 := Or.inl ⟨by decide +kernel, rfl⟩
theorem d_L_law_314 : gN M_L_law 314 2 315 := Or.inl ⟨2, by decide +kernel, by decide, rfl⟩
theorem d_L_law_315 : gD M_L_law 315 (.iadd) 1 316 := ⟨by decide +kernel, rfl⟩
theorem d_L_law_316 : gD M_L_law 316 (.iaload) 1 317 := ⟨by decide +kernel, rfl⟩
theorem d_L_law_317 : gAl M_L_law 317 0 318 := Or.inr ⟨0, by decide +kernel, rfl, rfl⟩
theorem d_L_law_318 : gIl M_L_law 318 4 320 := Or.inl ⟨by decide +kernel, rfl⟩
theorem d_L_law_320 : gN M_L_law 320 3 321 := Or.inl ⟨3, by decide +kernel, by decide, rfl⟩
theorem d_L_law_321 : gD M_L_law 321 (.iadd) 1 322 := ⟨by decide +kernel, rfl⟩
theorem d_L_law_322 : gD M_L_law 322 (.iaload) 1 323 := ⟨by decide +kernel, rfl⟩
theorem d_L_law_323 : gAl M_L_law 323 0 324 := Or.inr ⟨0, by decide +kernel, rfl, rfl⟩
theorem d_L_law_324 : gIl M_L_law 324 4 326 := Or.inl ⟨by decide +kernel, rfl⟩
theorem d_L_law_326 : gN M_L_law 326 4 327 := Or.inl ⟨4, by decide +kernel, by decide, rfl⟩
theorem d_L_law_327 : gD M_L_law 327 (.iadd) 1 328 := ⟨by decide +kernel, rfl⟩
theorem d_L_law_328 : gD M_L_law 328 (.iaload) 1 329 := ⟨by decide +kernel, rfl⟩
theorem d_L_law_329 : gAl M_L_law 329 3 330 := Or.inr ⟨3, by decide +kernel, rfl, rfl⟩
theorem d_L_law_330 : gD M_L_law 330 (.invokestatic 91) 3 333 := ⟨by decide +kernel, rfl⟩
theorem cs_L_law_330 : gClS M_L_law 91 y_L_counter M_L_counter 6 := ⟨⟨gW_c3 237 rfl rfl, gW_c1 0 rfl rfl, cd_L_counter, by decide +kernel, by decide +kernel⟩, gW_c3 238 rfl rfl⟩
theorem d_L_law_333 : gIs M_L_law 333 5 335 := Or.inl ⟨by decide +kernel, rfl⟩
theorem d_L_law_335 : gAl M_L_law 335 2 336 := Or.inr ⟨2, by decide +kernel, rfl, rfl⟩
theorem d_L_law_336 : gAl M_L_law 336 0 337 := Or.inr ⟨0, by decide +kernel, rfl, rfl⟩
theorem d_L_law_337 : gIl M_L_law 337 4 339 := Or.inl ⟨by decide +kernel, rfl⟩
theorem d_L_law_339 : gN M_L_law 339 1 340 := Or.inl ⟨1, by decide +kernel, by decide, rfl⟩
theorem d_L_law_340 : gD M_L_law 340 (.iadd) 1 341 := ⟨by decide +kernel, rfl⟩
theorem d_L_law_341 : gD M_L_law 341 (.iaload) 1 342 := ⟨by decide +kernel, rfl⟩
theorem d_L_law_342 : gAl M_L_law 342 0 343 := Or.inr ⟨0, by decide +kernel, rfl, rfl⟩
theorem d_L_law_343 : gIl M_L_law 343 4 345 := Or.inl ⟨by decide +kernel, rfl⟩
theorem d_L_law_345 : gN M_L_law 345 2 346 := Or.inl ⟨2, by decide +kernel, by decide, rfl⟩
theorem d_L_law_346 : gD M_L_law 346 (.iadd) 1 347 := ⟨by decide +kernel, rfl⟩
theorem d_L_law_347 : gD M_L_law 347 (.iaload) 1 348 := ⟨by decide +kernel, rfl⟩
theorem d_L_law_348 : gAl M_L_law 348 0 349 := Or.inr ⟨0, by decide +kernel, rfl, rfl⟩
theorem d_L_law_349 : gIl M_L_law 349 4 351 := Or.inl ⟨by decide +kernel, rfl⟩
theorem d_L_law_351 : gN M_L_law 351 3 352 := Or.inl ⟨3, by decide +kernel, by decide, rfl⟩
theorem d_L_law_352 : gD M_L_law 352 (.iadd) 1 353 := ⟨by decide +kernel, rfl⟩
theorem d_L_law_353 : gD M_L_law 353 (.iaload) 1 354 := ⟨by decide +kernel, rfl⟩
theorem d_L_law_354 : gAl M_L_law 354 0 355 := Or.inr ⟨0, by decide +kernel, rfl, rfl⟩
theorem d_L_law_355 : gIl M_L_law 355 4 357 := Or.inl ⟨by decide +kernel, rfl⟩
theorem d_L_law_357 : gN M_L_law 357 4 358 := Or.inl ⟨4, by decide +kernel, by decide, rfl⟩
theorem d_L_law_358 : gD M_L_law 358 (.iadd) 1 359 := ⟨by decide +kernel, rfl⟩
theorem d_L_law_359 : gD M_L_law 359 (.iaload) 1 360 := ⟨by decide +kernel, rfl⟩
theorem d_L_law_360 : gD M_L_law 360 (.invokevirtual 94) 3 363 := ⟨by decide +kernel, rfl⟩
theorem cs_L_law_360 : gClV M_L_law 94 6 y_R_counter M_R_counter 4 := ⟨⟨gW_c5 91 rfl rfl, gW_c1 8 rfl rfl, cd_R_counter, by decide +kernel, by decide +kernel⟩, rfl, gW_c5 92 rfl rfl, gW_c5 93 rfl rfl, TX5, 12, rfl⟩
theorem d_L_law_363 : gIs M_L_law 363 6 365 := Or.inl ⟨by decide +kernel, rfl⟩
theorem d_L_law_365 : gAl M_L_law 365 2 366 := Or.inr ⟨2, by decide +kernel, rfl, rfl⟩
theorem d_L_law_366 : gD M_L_law 366 (.invokevirtual 79) 3 369 := ⟨by decide +kernel, rfl⟩
theorem cs_L_law_366 : gClV M_L_law 79 6 y_R_thrown M_R_thrown 0 := ⟨⟨gW_c5 30 rfl rfl, gW_c1 8 rfl rfl, cd_R_thrown, by decide +kernel, by decide +kernel⟩, rfl, gW_c5 31 rfl rfl, gW_c5 32 rfl rfl, TX5, 12, rfl⟩
theorem d_L_law_369 : gIl M_L_law 369 5 371 := Or.inl ⟨by decide +kernel, rfl⟩
theorem d_L_law_371 : gB M_L_law 371 (.if_icmp .eq 5) 5 374 376 := ⟨by decide +kernel, rfl, by decide⟩
theorem d_L_law_374 : gN M_L_law 374 0 375 := Or.inl ⟨0, by decide +kernel, by decide, rfl⟩
theorem d_L_law_375 : gD M_L_law 375 (.ireturn) 1 376 := ⟨by decide +kernel, rfl⟩
theorem d_L_law_376 : gIl M_L_law 376 5 378 := Or.inl ⟨by decide +kernel, rfl⟩
theorem d_L_law_378 : gB M_L_law 378 (.ifCond .ne 15) 15 381 393 := ⟨by decide +kernel, rfl, by decide⟩
theorem d_L_law_381 : gAl M_L_law 381 3 382 := Or.inr ⟨3, by decide +kernel, rfl, rfl⟩
theorem d_L_law_382 : gN M_L_law 382 0 383 := Or.inl ⟨0, by decide +kernel, by decide, rfl⟩
theorem d_L_law_383 : gD M_L_law 383 (.laload) 1 384 := ⟨by decide +kernel, rfl⟩
theorem d_L_law_384 : gIl M_L_law 384 6 386 := Or.inl ⟨by decide +kernel, rfl⟩
theorem d_L_law_386 : gD M_L_law 386 (.i2l) 1 387 := ⟨by decide +kernel, rfl⟩
theorem d_L_law_387 : gD M_L_law 387 (.lcmp) 1 388 := ⟨by decide +kernel, rfl⟩
theorem d_L_law_388 : gB M_L_law 388 (.ifCond .eq 5) 5 391 393 := ⟨by decide +kernel, rfl, by decide⟩
theorem d_L_law_391 : gN M_L_law 391 0 392 := Or.inl ⟨0, by decide +kernel, by decide, rfl⟩
theorem d_L_law_392 : gD M_L_law 392 (.ireturn) 1 393 := ⟨by decide +kernel, rfl⟩
theorem d_L_law_393 : gB M_L_law 393 (.goto 799) 799 396 1192 := ⟨by decide +kernel, rfl, by decide⟩
theorem d_L_law_396 : gAl M_L_law 396 1 397 := Or.inr ⟨1, by decide +kernel, rfl, rfl⟩
theorem d_L_law_397 : gAl M_L_law 397 0 398 := Or.inr ⟨0, by decide +kernel, rfl, rfl⟩
theorem d_L_law_398 : gIl M_L_law 398 4 400 := Or.inl ⟨by decide +kernel, rfl⟩
theorem d_L_law_400 : gN M_L_law 400 1 401 := Or.inl ⟨1, by decide +kernel, by decide, rfl⟩
theorem d_L_law_401 : gD M_L_law 401 (.iadd) 1 402 := ⟨by decide +kernel, rfl⟩
theorem d_L_law_402 : gD M_L_law 402 (.iaload) 1 403 := ⟨by decide +kernel, rfl⟩
theorem d_L_law_403 : gAl M_L_law 403 0 404 := Or.inr ⟨0, by decide +kernel, rfl, rfl⟩
theorem d_L_law_404 : gIl M_L_law 404 4 406 := Or.inl ⟨by decide +kernel, rfl⟩
theorem d_L_law_406 : gN M_L_law 406 2 407 := Or.inl ⟨2, by decide +kernel, by decide, rfl⟩
theorem d_L_law_407 : gD M_L_law 407 (.iadd) 1 408 := ⟨by decide +kernel, rfl⟩
theorem d_L_law_408 : gD M_L_law 408 (.iaload) 1 409 := ⟨by decide +kernel, rfl⟩
theorem d_L_law_409 : gAl M_L_law 409 0 410 := Or.inr ⟨0, by decide +kernel, rfl, rfl⟩
theorem d_L_law_410 : gIl M_L_law 410 4 412 := Or.inl ⟨by decide +kernel, rfl⟩
theorem d_L_law_412 : gN M_L_law 412 3 413 := Or.inl ⟨3, by decide +kernel, by decide, rfl⟩
theorem d_L_law_413 : gD M_L_law 413 (.iadd) 1 414 := ⟨by decide +kernel, rfl⟩
theorem d_L_law_414 : gD M_L_law 414 (.iaload) 1 415 := ⟨by decide +kernel, rfl⟩
theorem d_L_law_415 : gAl M_L_law 415 0 416 := Or.inr ⟨0, by decide +kernel, rfl, rfl⟩
theorem d_L_law_416 : gIl M_L_law 416 4 418 := Or.inl ⟨by decide +kernel, rfl⟩
theorem d_L_law_418 : gN M_L_law 418 4 419 := Or.inl ⟨4, by decide +kernel, by decide, rfl⟩
theorem d_L_law_419 : gD M_L_law 419 (.iadd) 1 420 := ⟨by decide +kernel, rfl⟩
theorem d_L_law_420 : gD M_L_law 420 (.iaload) 1 421 := ⟨by decide +kernel, rfl⟩
theorem d_L_law_421 : gAl M_L_law 421 3 422 := Or.inr ⟨3, by decide +kernel, rfl, rfl⟩
theorem d_L_law_422 : gD M_L_law 422 (.invokestatic 95) 3 425 := ⟨by decide +kernel, rfl⟩
theorem cs_L_law_422 : gClS M_L_law 95 y_L_byteOf M_L_byteOf 6 := ⟨⟨gW_c4 21 rfl rfl, gW_c1 0 rfl rfl, cd_L_byteOf, by decide +kernel, by decide +kernel⟩, gW_c4 22 rfl rfl⟩
theorem d_L_law_425 : gIs M_L_law 425 5 427 := Or.inl ⟨by decide +kernel, rfl⟩
theorem d_L_law_427 : gAl M_L_law 427 2 428 := Or.inr ⟨2, by decide +kernel, rfl, rfl⟩
theorem d_L_law_428 : gAl M_L_law 428 0 429 := Or.inr ⟨0, by decide +kernel, rfl, rfl⟩
theorem d_L_law_429 : gIl M_L_law 429 4 431 := Or.inl ⟨by decide +kernel, rfl⟩
theorem d_L_law_431 : gN M_L_law 431 1 432 := Or.inl ⟨1, by decide +kernel, by decide, rfl⟩
theorem d_L_law_432 : gD M_L_law 432 (.iadd) 1 433 := ⟨by decide +kernel, rfl⟩
theorem d_L_law_433 : gD M_L_law 433 (.iaload) 1 434 := ⟨by decide +kernel, rfl⟩
theorem d_L_law_434 : gAl M_L_law 434 0 435 := Or.inr ⟨0, by decide +kernel, rfl, rfl⟩
theorem d_L_law_435 : gIl M_L_law 435 4 437 := Or.inl ⟨by decide +kernel, rfl⟩
theorem d_L_law_437 : gN M_L_law 437 2 438 := Or.inl ⟨2, by decide +kernel, by decide, rfl⟩
theorem d_L_law_438 : gD M_L_law 438 (.iadd) 1 439 := ⟨by decide +kernel, rfl⟩
theorem d_L_law_439 : gD M_L_law 439 (.iaload) 1 440 := ⟨by decide +kernel, rfl⟩
theorem d_L_law_440 : gAl M_L_law 440 0 441 := Or.inr ⟨0, by decide +kernel, rfl, rfl⟩
theorem d_L_law_441 : gIl M_L_law 441 4 443 := Or.inl ⟨by decide +kernel, rfl⟩
theorem d_L_law_443 : gN M_L_law 443 3 444 := Or.inl ⟨3, by decide +kernel, by decide, rfl⟩
theorem d_L_law_444 : gD M_L_law 444 (.iadd) 1 445 := ⟨by decide +kernel, rfl⟩
theorem d_L_law_445 : gD M_L_law 445 (.iaload) 1 446 := ⟨by decide +kernel, rfl⟩
theorem d_L_law_446 : gAl M_L_law 446 0 447 := Or.inr ⟨0, by decide +kernel, rfl, rfl⟩
theorem d_L_law_447 : gIl M_L_law 447 4 449 := Or.inl ⟨by decide +kernel, rfl⟩
theorem d_L_law_449 : gN M_L_law 449 4 450 := Or.inl ⟨4, by decide +kernel, by decide, rfl⟩
theorem d_L_law_450 : gD M_L_law 450 (.iadd) 1 451 := ⟨by decide +kernel, rfl⟩
theorem d_L_law_451 : gD M_L_law 451 (.iaload) 1 452 := ⟨by decide +kernel, rfl⟩
theorem d_L_law_452 : gD M_L_law 452 (.invokevirtual 97) 3 455 := ⟨by decide +kernel, rfl⟩
theorem cs_L_law_452 : gClV M_L_law 97 6 y_R_byteOf M_R_byteOf 4 := ⟨⟨gW_c5 103 rfl rfl, gW_c1 8 rfl rfl, cd_R_byteOf, by decide +kernel, by decide +kernel⟩, rfl, gW_c5 104 rfl rfl, gW_c5 105 rfl rfl, TX5, 12, rfl⟩
theorem d_L_law_455 : gIs M_L_law 455 6 457 := Or.inl ⟨by decide +kernel, rfl⟩
theorem d_L_law_457 : gAl M_L_law 457 2 458 := Or.inr ⟨2, by decide +kernel, rfl, rfl⟩
theorem d_L_law_458 : gD M_L_law 458 (.invokevirtual 79) 3 461 := ⟨by decide +kernel, rfl⟩
theorem cs_L_law_458 : gClV M_L_law 79 6 y_R_thrown M_R_thrown 0 := ⟨⟨gW_c5 30 rfl rfl, gW_c1 8 rfl rfl, cd_R_thrown, by decide +kernel, by decide +kernel⟩, rfl, gW_c5 31 rfl rfl, gW_c5 32 rfl rfl, TX5, 12, rfl⟩
theorem d_L_law_461 : gIl M_L_law 461 5 463 := Or.inl ⟨by decide +kernel, rfl⟩
theorem d_L_law_463 : gB M_L_law 463 (.if_icmp .eq 5) 5 466 468 := ⟨by decide +kernel, rfl, by decide⟩
theorem d_L_law_466 : gN M_L_law 466 0 467 := Or.inl ⟨0, by decide +kernel, by decide, rfl⟩
theorem d_L_law_467 : gD M_L_law 467 (.ireturn) 1 468 := ⟨by decide +kernel, rfl⟩
theorem d_L_law_468 : gIl M_L_law 468 5 470 := Or.inl ⟨by decide +kernel, rfl⟩
theorem d_L_law_470 : gB M_L_law 470 (.ifCond .ne 15) 15 473 485 := ⟨by decide +kernel, rfl, by decide⟩
theorem d_L_law_473 : gAl M_L_law 473 3 474 := Or.inr ⟨3, by decide +kernel, rfl, rfl⟩
theorem d_L_law_474 : gN M_L_law 474 0 475 := Or.inl ⟨0, by decide +kernel, by decide, rfl⟩
theorem d_L_law_475 : gD M_L_law 475 (.laload) 1 476 := ⟨by decide +kernel, rfl⟩
theorem d_L_law_476 : gIl M_L_law 476 6 478 := Or.inl ⟨by decide +kernel, rfl⟩
theorem d_L_law_478 : gD M_L_law 478 (.i2l) 1 479 := ⟨by decide +kernel, rfl⟩
theorem d_L_law_479 : gD M_L_law 479 (.lcmp) 1 480 := ⟨by decide +kernel, rfl⟩
theorem d_L_law_480 : gB M_L_law 480 (.ifCond .eq 5) 5 483 485 := ⟨by decide +kernel, rfl, by decide⟩
theorem d_L_law_483 : gN M_L_law 483 0 484 := Or.inl ⟨0, by decide +kernel, by decide, rfl⟩
theorem d_L_law_484 : gD M_L_law 484 (.ireturn) 1 485 := ⟨by decide +kernel, rfl⟩
theorem d_L_law_485 : gB M_L_law 485 (.goto 707) 707 488 1192 := ⟨by decide +kernel, rfl, by decide⟩
theorem d_L_law_488 : gAl M_L_law 488 1 489 := Or.inr ⟨1, by decide +kernel, rfl, rfl⟩
theorem d_L_law_489 : gAl M_L_law 489 0 490 := Or.inr ⟨0, by decide +kernel, rfl, rfl⟩
theorem d_L_law_490 : gIl M_L_law 490 4 492 := Or.inl ⟨by decide +kernel, rfl⟩
theorem d_L_law_492 : gN M_L_law 492 1 493 := Or.inl ⟨1, by decide +kernel, by decide, rfl⟩
theorem d_L_law_493 : gD M_L_law 493 (.iadd) 1 494 := ⟨by decide +kernel, rfl⟩
theorem d_L_law_494 : gD M_L_law 494 (.iaload) 1 495 := ⟨by decide +kernel, rfl⟩
theorem d_L_law_495 : gAl M_L_law 495 0 496 := Or.inr ⟨0, by decide +kernel, rfl, rfl⟩
theorem d_L_law_496 : gIl M_L_law 496 4 498 := Or.inl ⟨by decide +kernel, rfl⟩
theorem d_L_law_498 : gN M_L_law 498 2 499 := Or.inl ⟨2, by decide +kernel, by decide, rfl⟩
theorem d_L_law_499 : gD M_L_law 499 (.iadd) 1 500 := ⟨by decide +kernel, rfl⟩
theorem d_L_law_500 : gD M_L_law 500 (.iaload) 1 501 := ⟨by decide +kernel, rfl⟩
theorem d_L_law_501 : gAl M_L_law 501 0 502 := Or.inr ⟨0, by decide +kernel, rfl, rfl⟩
theorem d_L_law_502 : gIl M_L_law 502 4 504 := Or.inl ⟨by decide +kernel, rfl⟩
theorem d_L_law_504 : gN M_L_law 504 3 505 := Or.inl ⟨3, by decide +kernel, by decide, rfl⟩
theorem d_L_law_505 : gD M_L_law 505 (.iadd) 1 506 := ⟨by decide +kernel, rfl⟩
theorem d_L_law_506 : gD M_L_law 506 (.iaload) 1 507 := ⟨by decide +kernel, rfl⟩
theorem d_L_law_507 : gAl M_L_law 507 3 508 := Or.inr ⟨3, by decide +kernel, rfl, rfl⟩
theorem d_L_law_508 : gD M_L_law 508 (.invokestatic 98) 3 511 := ⟨by decide +kernel, rfl⟩
theorem cs_L_law_508 : gClS M_L_law 98 y_L_visit M_L_visit 5 := ⟨⟨gW_c4 28 rfl rfl, gW_c1 0 rfl rfl, cd_L_visit, by decide +kernel, by decide +kernel⟩, gW_c4 29 rfl rfl⟩
theorem d_L_law_511 : gIs M_L_law 511 5 513 := Or.inl ⟨by decide +kernel, rfl⟩
theorem d_L_law_513 : gAl M_L_law 513 2 514 := Or.inr ⟨2, by decide +kernel, rfl, rfl⟩
theorem d_L_law_514 : gAl M_L_law 514 0 515 := Or.inr ⟨0, by decide +kernel, rfl, rfl⟩
theorem d_L_law_515 : gIl M_L_law 515 4 517 := Or.inl ⟨by decide +kernel, rfl⟩
theorem d_L_law_517 : gN M_L_law 517 1 518 := Or.inl ⟨1, by decide +kernel, by decide, rfl⟩
theorem d_L_law_518 : gD M_L_law 518 (.iadd) 1 519 := ⟨by decide +kernel, rfl⟩
theorem d_L_law_519 : gD M_L_law 519 (.iaload) 1 520 := ⟨by decide +kernel, rfl⟩
theorem d_L_law_520 : gAl M_L_law 520 0 521 := Or.inr ⟨0, by decide +kernel, rfl, rfl⟩
theorem d_L_law_521 : gIl M_L_law 521 4 523 := Or.inl ⟨by decide +kernel, rfl⟩
theorem d_L_law_523 : gN M_L_law 523 2 524 := Or.inl ⟨2, by decide +kernel, by decide, rfl⟩
theorem d_L_law_524 : gD M_L_law 524 (.iadd) 1 525 := ⟨by decide +kernel, rfl⟩
theorem d_L_law_525 : gD M_L_law 525 (.iaload) 1 526 := ⟨by decide +kernel, rfl⟩
theorem d_L_law_526 : gAl M_L_law 526 0 527 := Or.inr ⟨0, by decide +kernel, rfl, rfl⟩
theorem d_L_law_527 : gIl M_L_law 527 4 529 := Or.inl ⟨by decide +kernel, rfl⟩
theorem d_L_law_529 : gN M_L_law 529 3 530 := Or.inl ⟨3, by decide +kernel, by decide, rfl⟩
theorem d_L_law_530 : gD M_L_law 530 (.iadd) 1 531 := ⟨by decide +kernel, rfl⟩
theorem d_L_law_531 : gD M_L_law 531 (.iaload) 1 532 := ⟨by decide +kernel, rfl⟩
theorem d_L_law_532 : gD M_L_law 532 (.invokevirtual 101) 3 535 := ⟨by decide +kernel, rfl⟩
theorem cs_L_law_532 : gClV M_L_law 101 6 y_R_visit M_R_visit 3 := ⟨⟨gW_c5 107 rfl rfl, gW_c1 8 rfl rfl, cd_R_visit, by decide +kernel, by decide +kernel⟩, rfl, gW_c5 108 rfl rfl, gW_c5 109 rfl rfl, TX5, 12, rfl⟩
theorem d_L_law_535 : gIs M_L_law 535 6 537 := Or.inl ⟨by decide +kernel, rfl⟩
theorem d_L_law_537 : gAl M_L_law 537 2 538 := Or.inr ⟨2, by decide +kernel, rfl, rfl⟩
theorem d_L_law_538 : gD M_L_law 538 (.invokevirtual 79) 3 541 := ⟨by decide +kernel, rfl⟩
theorem cs_L_law_538 : gClV M_L_law 79 6 y_R_thrown M_R_thrown 0 := ⟨⟨gW_c5 30 rfl rfl, gW_c1 8 rfl rfl, cd_R_thrown, by decide +kernel, by decide +kernel⟩, rfl, gW_c5 31 rfl rfl, gW_c5 32 rfl rfl, TX5, 12, rfl⟩
theorem d_L_law_541 : gIl M_L_law 541 5 543 := Or.inl ⟨by decide +kernel, rfl⟩
theorem d_L_law_543 : gB M_L_law 543 (.if_icmp .eq 5) 5 546 548 := ⟨by decide +kernel, rfl, by decide⟩
theorem d_L_law_546 : gN M_L_law 546 0 547 := Or.inl ⟨0, by decide +kernel, by decide, rfl⟩
theorem d_L_law_547 : gD M_L_law 547 (.ireturn) 1 548 := ⟨by decide +kernel, rfl⟩
theorem d_L_law_548 : gIl M_L_law 548 5 550 := Or.inl ⟨by decide +kernel, rfl⟩
theorem d_L_law_550 : gB M_L_law 550 (.ifCond .ne 15) 15 553 565 := ⟨by decide +kernel, rfl, by decide⟩
theorem d_L_law_553 : gAl M_L_law 553 3 554 := Or.inr ⟨3, by decide +kernel, rfl, rfl⟩
theorem d_L_law_554 : gN M_L_law 554 0 555 := Or.inl ⟨0, by decide +kernel, by decide, rfl⟩
theorem d_L_law_555 : gD M_L_law 555 (.laload) 1 556 := ⟨by decide +kernel, rfl⟩
theorem d_L_law_556 : gIl M_L_law 556 6 558 := Or.inl ⟨by decide +kernel, rfl⟩
theorem d_L_law_558 : gD M_L_law 558 (.i2l) 1 559 := ⟨by decide +kernel, rfl⟩
theorem d_L_law_559 : gD M_L_law 559 (.lcmp) 1 560 := ⟨by decide +kernel, rfl⟩
theorem d_L_law_560 : gB M_L_law 560 (.ifCond .eq 5) 5 563 565 := ⟨by decide +kernel, rfl, by decide⟩
theorem d_L_law_563 : gN M_L_law 563 0 564 := Or.inl ⟨0, by decide +kernel, by decide, rfl⟩
theorem d_L_law_564 : gD M_L_law 564 (.ireturn) 1 565 := ⟨by decide +kernel, rfl⟩
theorem d_L_law_565 : gB M_L_law 565 (.goto 627) 627 568 1192 := ⟨by decide +kernel, rfl, by decide⟩
theorem d_L_law_568 : gAl M_L_law 568 1 569 := Or.inr ⟨1, by decide +kernel, rfl, rfl⟩
theorem d_L_law_569 : gAl M_L_law 569 0 570 := Or.inr ⟨0, by decide +kernel, rfl, rfl⟩
theorem d_L_law_570 : gIl M_L_law 570 4 572 := Or.inl ⟨by decide +kernel, rfl⟩
theorem d_L_law_572 : gN M_L_law 572 1 573 := Or.inl ⟨1, by decide +kernel, by decide, rfl⟩
theorem d_L_law_573 : gD M_L_law 573 (.iadd) 1 574 := ⟨by decide +kernel, rfl⟩
theorem d_L_law_574 : gD M_L_law 574 (.iaload) 1 575 := ⟨by decide +kernel, rfl⟩
theorem d_L_law_575 : gAl M_L_law 575 0 576 := Or.inr ⟨0, by decide +kernel, rfl, rfl⟩
theorem d_L_law_576 : gIl M_L_law 576 4 578 := Or.inl ⟨by decide +kernel, rfl⟩
theorem d_L_law_578 : gN M_L_law 578 2 579 := Or.inl ⟨2, by decide +kernel, by decide, rfl⟩
theorem d_L_law_579 : gD M_L_law 579 (.iadd) 1 580 := ⟨by decide +kernel, rfl⟩
theorem d_L_law_580 : gD M_L_law 580 (.iaload) 1 581 := ⟨by decide +kernel, rfl⟩
theorem d_L_law_581 : gAl M_L_law 581 0 582 := Or.inr ⟨0, by decide +kernel, rfl, rfl⟩
theorem d_L_law_582 : gIl M_L_law 582 4 584 := Or.inl ⟨by decide +kernel, rfl⟩
theorem d_L_law_584 : gN M_L_law 584 3 585 := Or.inl ⟨3, by decide +kernel, by decide, rfl⟩
theorem d_L_law_585 : gD M_L_law 585 (.iadd) 1 586 := ⟨by decide +kernel, rfl⟩
theorem d_L_law_586 : gD M_L_law 586 (.iaload) 1 587 := ⟨by decide +kernel, rfl⟩
theorem d_L_law_587 : gAl M_L_law 587 0 588 := Or.inr ⟨0, by decide +kernel, rfl, rfl⟩
theorem d_L_law_588 : gIl M_L_law 588 4 590 := Or.inl ⟨by decide +kernel, rfl⟩
theorem d_L_law_590 : gN M_L_law 590 4 591 := Or.inl ⟨4, by decide +kernel, by decide, rfl⟩
theorem d_L_law_591 : gD M_L_law 591 (.iadd) 1 592 := ⟨by decide +kernel, rfl⟩
theorem d_L_law_592 : gD M_L_law 592 (.iaload) 1 593 := ⟨by decide +kernel, rfl⟩
theorem d_L_law_593 : gAl M_L_law 593 3 594 := Or.inr ⟨3, by decide +kernel, rfl, rfl⟩
theorem d_L_law_594 : gD M_L_law 594 (.invokestatic 102) 3 597 := ⟨by decide +kernel, rfl⟩
theorem cs_L_law_594 : gClS M_L_law 102 y_L_cut M_L_cut 6 := ⟨⟨gW_c4 133 rfl rfl, gW_c1 0 rfl rfl, cd_L_cut, by decide +kernel, by decide +kernel⟩, gW_c4 134 rfl rfl⟩
theorem d_L_law_597 : gIs M_L_law 597 5 599 := Or.inl ⟨by decide +kernel, rfl⟩
theorem d_L_law_599 : gAl M_L_law 599 2 600 := Or.inr ⟨2, by decide +kernel, rfl, rfl⟩
theorem d_L_law_600 : gAl M_L_law 600 0 601 := Or.inr ⟨0, by decide +kernel, rfl, rfl⟩
theorem d_L_law_601 : gIl M_L_law 601 4 603 := Or.inl ⟨by decide +kernel, rfl⟩
theorem d_L_law_603 : gN M_L_law 603 1 604 := Or.inl ⟨1, by decide +kernel, by decide, rfl⟩
theorem d_L_law_604 : gD M_L_law 604 (.iadd) 1 605 := ⟨by decide +kernel, rfl⟩
theorem d_L_law_605 : gD M_L_law 605 (.iaload) 1 606 := ⟨by decide +kernel, rfl⟩
theorem d_L_law_606 : gAl M_L_law 606 0 607 := Or.inr ⟨0, by decide +kernel, rfl, rfl⟩
theorem d_L_law_607 : gIl M_L_law 607 4 609 := Or.inl ⟨by decide +kernel, rfl⟩
theorem d_L_law_609 : gN M_L_law 609 2 610 := Or.inl ⟨2, by decide +kernel, by decide, rfl⟩
theorem d_L_law_610 : gD M_L_law 610 (.iadd) 1 611 := ⟨by decide +kernel, rfl⟩
theorem d_L_law_611 : gD M_L_law 611 (.iaload) 1 612 := ⟨by decide +kernel, rfl⟩
theorem d_L_law_612 : gAl M_L_law 612 0 613 := Or.inr ⟨0, by decide +kernel, rfl, rfl⟩
theorem d_L_law_613 : gIl M_L_law 613 4 615 := Or.inl ⟨by decide +kernel, rfl⟩
theorem d_L_law_615 : gN M_L_law 615 3 616 := Or.inl ⟨3, by decide +kernel, by decide, rfl⟩
theorem d_L_law_616 : gD M_L_law 616 (.iadd) 1 617 := ⟨by decide +kernel, rfl⟩
theorem d_L_law_617 : gD M_L_law 617 (.iaload) 1 618 := ⟨by decide +kernel, rfl⟩
theorem d_L_law_618 : gAl M_L_law 618 0 619 := Or.inr ⟨0, by decide +kernel, rfl, rfl⟩
theorem d_L_law_619 : gIl M_L_law 619 4 621 := Or.inl ⟨by decide +kernel, rfl⟩
theorem d_L_law_621 : gN M_L_law 621 4 622 := Or.inl ⟨4, by decide +kernel, by decide, rfl⟩
theorem d_L_law_622 : gD M_L_law 622 (.iadd) 1 623 := ⟨by decide +kernel, rfl⟩
theorem d_L_law_623 : gD M_L_law 623 (.iaload) 1 624 := ⟨by decide +kernel, rfl⟩
theorem d_L_law_624 : gD M_L_law 624 (.invokevirtual 104) 3 627 := ⟨by decide +kernel, rfl⟩
theorem cs_L_law_624 : gClV M_L_law 104 6 y_R_cut M_R_cut 4 := ⟨⟨gW_c5 152 rfl rfl, gW_c1 8 rfl rfl, cd_R_cut, by decide +kernel, by decide +kernel⟩, rfl, gW_c5 153 rfl rfl, gW_c5 154 rfl rfl, TX5, 12, rfl⟩
theorem d_L_law_627 : gIs M_L_law 627 6 629 := Or.inl ⟨by decide +kernel, rfl⟩
theorem d_L_law_629 : gAl M_L_law 629 2 630 := Or.inr ⟨2, by decide +kernel, rfl, rfl⟩
theorem d_L_law_630 : gD M_L_law 630 (.invokevirtual 79) 3 633 := ⟨by decide +kernel, rfl⟩
theorem cs_L_law_630 : gClV M_L_law 79 6 y_R_thrown M_R_thrown 0 := ⟨⟨gW_c5 30 rfl rfl, gW_c1 8 rfl rfl, cd_R_thrown, by decide +kernel, by decide +kernel⟩, rfl, gW_c5 31 rfl rfl, gW_c5 32 rfl rfl, TX5, 12, rfl⟩
theorem d_L_law_633 : gIl M_L_law 633 5 635 := Or.inl ⟨by decide +kernel, rfl⟩
theorem d_L_law_635 : gB M_L_law 635 (.if_icmp .eq 5) 5 638 640 := ⟨by decide +kernel, rfl, by decide⟩
theorem d_L_law_638 : gN M_L_law 638 0 639 := Or.inl ⟨0, by decide +kernel, by decide, rfl⟩
theorem d_L_law_639 : gD M_L_law 639 (.ireturn) 1 640 := ⟨by decide +kernel, rfl⟩
theorem d_L_law_640 : gIl M_L_law 640 5 642 := Or.inl ⟨by decide +kernel, rfl⟩
theorem d_L_law_642 : gB M_L_law 642 (.ifCond .ne 15) 15 645 657 := ⟨by decide +kernel, rfl, by decide⟩
theorem d_L_law_645 : gAl M_L_law 645 3 646 := Or.inr ⟨3, by decide +kernel, rfl, rfl⟩
theorem d_L_law_646 : gN M_L_law 646 0 647 := Or.inl ⟨0, by decide +kernel, by decide, rfl⟩
theorem d_L_law_647 : gD M_L_law 647 (.laload) 1 648 := ⟨by decide +kernel, rfl⟩
theorem d_L_law_648 : gIl M_L_law 648 6 650 := Or.inl ⟨by decide +kernel, rfl⟩
theorem d_L_law_650 : gD M_L_law 650 (.i2l) 1 651 := ⟨by decide +kernel, rfl⟩
theorem d_L_law_651 : gD M_L_law 651 (.lcmp) 1 652 := ⟨by decide +kernel, rfl⟩
theorem d_L_law_652 : gB M_L_law 652 (.ifCond .eq 5) 5 655 657 := ⟨by decide +kernel, rfl, by decide⟩
theorem d_L_law_655 : gN M_L_law 655 0 656 := Or.inl ⟨0, by decide +kernel, by decide, rfl⟩
theorem d_L_law_656 : gD M_L_law 656 (.ireturn) 1 657 := ⟨by decide +kernel, rfl⟩
theorem d_L_law_657 : gB M_L_law 657 (.goto 535) 535 660 1192 := ⟨by decide +kernel, rfl, by decide⟩
theorem d_L_law_660 : gAl M_L_law 660 1 661 := Or.inr ⟨1, by decide +kernel, rfl, rfl⟩
theorem d_L_law_661 : gAl M_L_law 661 0 662 := Or.inr ⟨0, by decide +kernel, rfl, rfl⟩
theorem d_L_law_662 : gIl M_L_law 662 4 664 := Or.inl ⟨by decide +kernel, rfl⟩
theorem d_L_law_664 : gN M_L_law 664 1 665 := Or.inl ⟨1, by decide +kernel, by decide, rfl⟩
theorem d_L_law_665 : gD M_L_law 665 (.iadd) 1 666 := ⟨by decide +kernel, rfl⟩
theorem d_L_law_666 : gD M_L_law 666 (.iaload) 1 667 := ⟨by decide +kernel, rfl⟩
theorem d_L_law_667 : gAl M_L_law 667 3 668 := Or.inr ⟨3, by decide +kernel, rfl, rfl⟩
theorem d_L_law_668 : gD M_L_law 668 (.invokestatic 105) 3 671 := ⟨by decide +kernel, rfl⟩
theorem cs_L_law_668 : gClS M_L_law 105 y_L_lose M_L_lose 3 := ⟨⟨gW_c4 140 rfl rfl, gW_c1 0 rfl rfl, cd_L_lose, by decide +kernel, by decide +kernel⟩, gW_c4 141 rfl rfl⟩
theorem d_L_law_671 : gIs M_L_law 671 5 673 := Or.inl ⟨by decide +kernel, rfl⟩
theorem d_L_law_673 : gAl M_L_law 673 2 674 := Or.inr ⟨2, by decide +kernel, rfl, rfl⟩
theorem d_L_law_674 : gAl M_L_law 674 0 675 := Or.inr ⟨0, by decide +kernel, rfl, rfl⟩
theorem d_L_law_675 : gIl M_L_law 675 4 677 := Or.inl ⟨by decide +kernel, rfl⟩
theorem d_L_law_677 : gN M_L_law 677 1 678 := Or.inl ⟨1, by decide +kernel, by decide, rfl⟩
theorem d_L_law_678 : gD M_L_law 678 (.iadd) 1 679 := ⟨by decide +kernel, rfl⟩
theorem d_L_law_679 : gD M_L_law 679 (.iaload) 1 680 := ⟨by decide +kernel, rfl⟩
theorem d_L_law_680 : gD M_L_law 680 (.invokevirtual 108) 3 683 := ⟨by decide +kernel, rfl⟩
theorem cs_L_law_680 : gClV M_L_law 108 6 y_R_lose M_R_lose 1 := ⟨⟨gW_c5 156 rfl rfl, gW_c1 8 rfl rfl, cd_R_lose, by decide +kernel, by decide +kernel⟩, rfl, gW_c5 157 rfl rfl, gW_c5 158 rfl rfl, TX5, 12, rfl⟩
theorem d_L_law_683 : gIs M_L_law 683 6 685 := Or.inl ⟨by decide +kernel, rfl⟩
theorem d_L_law_685 : gAl M_L_law 685 2 686 := Or.inr ⟨2, by decide +kernel, rfl, rfl⟩
theorem d_L_law_686 : gD M_L_law 686 (.invokevirtual 79) 3 689 := ⟨by decide +kernel, rfl⟩
theorem cs_L_law_686 : gClV M_L_law 79 6 y_R_thrown M_R_thrown 0 := ⟨⟨gW_c5 30 rfl rfl, gW_c1 8 rfl rfl, cd_R_thrown, by decide +kernel, by decide +kernel⟩, rfl, gW_c5 31 rfl rfl, gW_c5 32 rfl rfl, TX5, 12, rfl⟩
theorem d_L_law_689 : gIl M_L_law 689 5 691 := Or.inl ⟨by decide +kernel, rfl⟩
theorem d_L_law_691 : gB M_L_law 691 (.if_icmp .eq 5) 5 694 696 := ⟨by decide +kernel, rfl, by decide⟩
theorem d_L_law_694 : gN M_L_law 694 0 695 := Or.inl ⟨0, by decide +kernel, by decide, rfl⟩
theorem d_L_law_695 : gD M_L_law 695 (.ireturn) 1 696 := ⟨by decide +kernel, rfl⟩
theorem d_L_law_696 : gIl M_L_law 696 5 698 := Or.inl ⟨by decide +kernel, rfl⟩
theorem d_L_law_698 : gB M_L_law 698 (.ifCond .ne 15) 15 701 713 := ⟨by decide +kernel, rfl, by decide⟩
theorem d_L_law_701 : gAl M_L_law 701 3 702 := Or.inr ⟨3, by decide +kernel, rfl, rfl⟩
theorem d_L_law_702 : gN M_L_law 702 0 703 := Or.inl ⟨0, by decide +kernel, by decide, rfl⟩
theorem d_L_law_703 : gD M_L_law 703 (.laload) 1 704 := ⟨by decide +kernel, rfl⟩
theorem d_L_law_704 : gIl M_L_law 704 6 706 := Or.inl ⟨by decide +kernel, rfl⟩
theorem d_L_law_706 : gD M_L_law 706 (.i2l) 1 707 := ⟨by decide +kernel, rfl⟩
theorem d_L_law_707 : gD M_L_law 707 (.lcmp) 1 708 := ⟨by decide +kernel, rfl⟩
theorem d_L_law_708 : gB M_L_law 708 (.ifCond .eq 5) 5 711 713 := ⟨by decide +kernel, rfl, by decide⟩
theorem d_L_law_711 : gN M_L_law 711 0 712 := Or.inl ⟨0, by decide +kernel, by decide, rfl⟩
theorem d_L_law_712 : gD M_L_law 712 (.ireturn) 1 713 := ⟨by decide +kernel, rfl⟩
theorem d_L_law_713 : gB M_L_law 713 (.goto 479) 479 716 1192 := ⟨by decide +kernel, rfl, by decide⟩
theorem d_L_law_716 : gAl M_L_law 716 1 717 := Or.inr ⟨1, by decide +kernel, rfl, rfl⟩
theorem d_L_law_717 : gAl M_L_law 717 0 718 := Or.inr ⟨0, by decide +kernel, rfl, rfl⟩
theorem d_L_law_718 : gIl M_L_law 718 4 720 := Or.inl ⟨by decide +kernel, rfl⟩
theorem d_L_law_720 : gN M_L_law 720 1 721 := Or.inl ⟨1, by decide +kernel, by decide, rfl⟩
theorem d_L_law_721 : gD M_L_law 721 (.iadd) 1 722 := ⟨by decide +kernel, rfl⟩
theorem d_L_law_722 : gD M_L_law 722 (.iaload) 1 723 := ⟨by decide +kernel, rfl⟩
theorem d_L_law_723 : gAl M_L_law 723 0 724 := Or.inr ⟨0, by decide +kernel, rfl, rfl⟩
theorem d_L_law_724 : gIl M_L_law 724 4 726 := Or.inl ⟨by decide +kernel, rfl⟩
theorem d_L_law_726 : gN M_L_law 726 2 727 := Or.inl ⟨2, by decide +kernel, by decide, rfl⟩
theorem d_L_law_727 : gD M_L_law 727 (.iadd) 1 728 := ⟨by decide +kernel, rfl⟩
theorem d_L_law_728 : gD M_L_law 728 (.iaload) 1 729 := ⟨by decide +kernel, rfl⟩
theorem d_L_law_729 : gD M_L_law 729 (.invokestatic 109) 3 732 := ⟨by decide +kernel, rfl⟩
theorem cs_L_law_729 : gClS M_L_law 109 y_L_copy M_L_copy 3 := ⟨⟨gW_c4 154 rfl rfl, gW_c1 0 rfl rfl, cd_L_copy, by decide +kernel, by decide +kernel⟩, gW_c4 155 rfl rfl⟩
theorem d_L_law_732 : gIs M_L_law 732 5 734 := Or.inl ⟨by decide +kernel, rfl⟩
theorem d_L_law_734 : gAl M_L_law 734 2 735 := Or.inr ⟨2, by decide +kernel, rfl, rfl⟩
theorem d_L_law_735 : gAl M_L_law 735 0 736 := Or.inr ⟨0, by decide +kernel, rfl, rfl⟩
theorem d_L_law_736 : gIl M_L_law 736 4 738 := Or.inl ⟨by decide +kernel, rfl⟩
theorem d_L_law_738 : gN M_L_law 738 1 739 := Or.inl ⟨1, by decide +kernel, by decide, rfl⟩
theorem d_L_law_739 : gD M_L_law 739 (.iadd) 1 740 := ⟨by decide +kernel, rfl⟩
theorem d_L_law_740 : gD M_L_law 740 (.iaload) 1 741 := ⟨by decide +kernel, rfl⟩
theorem d_L_law_741 : gAl M_L_law 741 0 742 := Or.inr ⟨0, by decide +kernel, rfl, rfl⟩
theorem d_L_law_742 : gIl M_L_law 742 4 744 := Or.inl ⟨by decide +kernel, rfl⟩
theorem d_L_law_744 : gN M_L_law 744 2 745 := Or.inl ⟨2, by decide +kernel, by decide, rfl⟩
theorem d_L_law_745 : gD M_L_law 745 (.iadd) 1 746 := ⟨by decide +kernel, rfl⟩
theorem d_L_law_746 : gD M_L_law 746 (.iaload) 1 747 := ⟨by decide +kernel, rfl⟩
theorem d_L_law_747 : gD M_L_law 747 (.invokevirtual 111) 3 750 := ⟨by decide +kernel, rfl⟩
theorem cs_L_law_747 : gClV M_L_law 111 6 y_R_copy M_R_copy 2 := ⟨⟨gW_c5 160 rfl rfl, gW_c1 8 rfl rfl, cd_R_copy, by decide +kernel, by decide +kernel⟩, rfl, gW_c5 161 rfl rfl, gW_c5 162 rfl rfl, TX5, 12, rfl⟩
theorem d_L_law_750 : gAl M_L_law 750 2 751 := Or.inr ⟨2, by decide +kernel, rfl, rfl⟩
theorem d_L_law_751 : gD M_L_law 751 (.invokevirtual 79) 3 754 := ⟨by decide +kernel, rfl⟩
theorem cs_L_law_751 : gClV M_L_law 79 6 y_R_thrown M_R_thrown 0 := ⟨⟨gW_c5 30 rfl rfl, gW_c1 8 rfl rfl, cd_R_thrown, by decide +kernel, by decide +kernel⟩, rfl, gW_c5 31 rfl rfl, gW_c5 32 rfl rfl, TX5, 12, rfl⟩
theorem d_L_law_754 : gIl M_L_law 754 5 756 := Or.inl ⟨by decide +kernel, rfl⟩
theorem d_L_law_756 : gB M_L_law 756 (.if_icmp .eq 5) 5 759 761 := ⟨by decide +kernel, rfl, by decide⟩
theorem d_L_law_759 : gN M_L_law 759 0 760 := Or.inl ⟨0, by decide +kernel, by decide, rfl⟩
theorem d_L_law_760 : gD M_L_law 760 (.ireturn) 1 761 := ⟨by decide +kernel, rfl⟩
theorem d_L_law_761 : gB M_L_law 761 (.goto 431) 431 764 1192 := ⟨by decide +kernel, rfl, by decide⟩
theorem d_L_law_764 : gAl M_L_law 764 1 765 := Or.inr ⟨1, by decide +kernel, rfl, rfl⟩
theorem d_L_law_765 : gAl M_L_law 765 0 766 := Or.inr ⟨0, by decide +kernel, rfl, rfl⟩
theorem d_L_law_766 : gIl M_L_law 766 4 768 := Or.inl ⟨by decide +kernel, rfl⟩
theorem d_L_law_768 : gN M_L_law 768 1 769 := Or.inl ⟨1, by decide +kernel, by decide, rfl⟩
theorem d_L_law_769 : gD M_L_law 769 (.iadd) 1 770 := ⟨by decide +kernel, rfl⟩
theorem d_L_law_770 : gD M_L_law 770 (.iaload) 1 771 := ⟨by decide +kernel, rfl⟩
theorem d_L_law_771 : gAl M_L_law 771 0 772 := Or.inr ⟨0, by decide +kernel, rfl, rfl⟩
theorem d_L_law_772 : gIl M_L_law 772 4 774 := Or.inl ⟨by decide +kernel, rfl⟩
theorem d_L_law_774 : gN M_L_law 774 2 775 := Or.inl ⟨2, by decide +kernel, by decide, rfl⟩
theorem d_L_law_775 : gD M_L_law 775 (.iadd) 1 776 := ⟨by decide +kernel, rfl⟩
theorem d_L_law_776 : gD M_L_law 776 (.iaload) 1 777 := ⟨by decide +kernel, rfl⟩
theorem d_L_law_777 : gAl M_L_law 777 0 778 := Or.inr ⟨0, by decide +kernel, rfl, rfl⟩
theorem d_L_law_778 : gIl M_L_law 778 4 780 := Or.inl ⟨by decide +kernel, rfl⟩
theorem d_L_law_780 : gN M_L_law 780 3 781 := Or.inl ⟨3, by decide +kernel, by decide, rfl⟩
theorem d_L_law_781 : gD M_L_law 781 (.iadd) 1 782 := ⟨by decide +kernel, rfl⟩
theorem d_L_law_782 : gD M_L_law 782 (.iaload) 1 783 := ⟨by decide +kernel, rfl⟩
theorem d_L_law_783 : gAl M_L_law 783 0 784 := Or.inr ⟨0, by decide +kernel, rfl, rfl⟩
theorem d_L_law_784 : gIl M_L_law 784 4 786 := Or.inl ⟨by decide +kernel, rfl⟩
theorem d_L_law_786 : gN M_L_law 786 4 787 := Or.inl ⟨4, by decide +kernel, by decide, rfl⟩
theorem d_L_law_787 : gD M_L_law 787 (.iadd) 1 788 := ⟨by decide +kernel, rfl⟩
theorem d_L_law_788 : gD M_L_law 788 (.iaload) 1 789 := ⟨by decide +kernel, rfl⟩
theorem d_L_law_789 : gAl M_L_law 789 3 790 := Or.inr ⟨3, by decide +kernel, rfl, rfl⟩
theorem d_L_law_790 : gD M_L_law 790 (.invokestatic 112) 3 793 := ⟨by decide +kernel, rfl⟩
theorem cs_L_law_790 : gClS M_L_law 112 y_L_known M_L_known 6 := ⟨⟨gW_c4 168 rfl rfl, gW_c1 0 rfl rfl, cd_L_known, by decide +kernel, by decide +kernel⟩, gW_c4 169 rfl rfl⟩
theorem d_L_law_793 : gIs M_L_law 793 5 795 := Or.inl ⟨by decide +kernel, rfl⟩
theorem d_L_law_795 : gAl M_L_law 795 2 796 := Or.inr ⟨2, by decide +kernel, rfl, rfl⟩
theorem d_L_law_796 : gAl M_L_law 796 0 797 := Or.inr ⟨0, by decide +kernel, rfl, rfl⟩
theorem d_L_law_797 : gIl M_L_law 797 4 799 := Or.inl ⟨by decide +kernel, rfl⟩
theorem d_L_law_799 : gN M_L_law 799 1 800 := Or.inl ⟨1, by decide +kernel, by decide, rfl⟩
theorem d_L_law_800 : gD M_L_law 800 (.iadd) 1 801 := ⟨by decide +kernel, rfl⟩
theorem d_L_law_801 : gD M_L_law 801 (.iaload) 1 802 := ⟨by decide +kernel, rfl⟩
theorem d_L_law_802 : gAl M_L_law 802 0 803 := Or.inr ⟨0, by decide +kernel, rfl, rfl⟩
theorem d_L_law_803 : gIl M_L_law 803 4 805 := Or.inl ⟨by decide +kernel, rfl⟩
theorem d_L_law_805 : gN M_L_law 805 2 806 := Or.inl ⟨2, by decide +kernel, by decide, rfl⟩
theorem d_L_law_806 : gD M_L_law 806 (.iadd) 1 807 := ⟨by decide +kernel, rfl⟩
theorem d_L_law_807 : gD M_L_law 807 (.iaload) 1 808 := ⟨by decide +kernel, rfl⟩
theorem d_L_law_808 : gAl M_L_law 808 0 809 := Or.inr ⟨0, by decide +kernel, rfl, rfl⟩
theorem d_L_law_809 : gIl M_L_law 809 4 811 := Or.inl ⟨by decide +kernel, rfl⟩
theorem d_L_law_811 : gN M_L_law 811 3 812 := Or.inl ⟨3, by decide +kernel, by decide, rfl⟩
theorem d_L_law_812 : gD M_L_law 812 (.iadd) 1 813 := ⟨by decide +kernel, rfl⟩
theorem d_L_law_813 : gD M_L_law 813 (.iaload) 1 814 := ⟨by decide +kernel, rfl⟩
theorem d_L_law_814 : gAl M_L_law 814 0 815 := Or.inr ⟨0, by decide +kernel, rfl, rfl⟩
theorem d_L_law_815 : gIl M_L_law 815 4 817 := Or.inl ⟨by decide +kernel, rfl⟩
theorem d_L_law_817 : gN M_L_law 817 4 818 := Or.inl ⟨4, by decide +kernel, by decide, rfl⟩
theorem d_L_law_818 : gD M_L_law 818 (.iadd) 1 819 := ⟨by decide +kernel, rfl⟩
theorem d_L_law_819 : gD M_L_law 819 (.iaload) 1 820 := ⟨by decide +kernel, rfl⟩
theorem d_L_law_820 : gD M_L_law 820 (.invokevirtual 114) 3 823 := ⟨by decide +kernel, rfl⟩
theorem cs_L_law_820 : gClV M_L_law 114 6 y_R_known M_R_known 4 := ⟨⟨gW_c5 164 rfl rfl, gW_c1 8 rfl rfl, cd_R_known, by decide +kernel, by decide +kernel⟩, rfl, gW_c5 165 rfl rfl, gW_c5 166 rfl rfl, TX5, 12, rfl⟩
theorem d_L_law_823 : gIs M_L_law 823 6 825 := Or.inl ⟨by decide +kernel, rfl⟩
theorem d_L_law_825 : gAl M_L_law 825 2 826 := Or.inr ⟨2, by decide +kernel, rfl, rfl⟩
theorem d_L_law_826 : gD M_L_law 826 (.invokevirtual 79) 3 829 := ⟨by decide +kernel, rfl⟩
theorem cs_L_law_826 : gClV M_L_law 79 6 y_R_thrown M_R_thrown 0 := ⟨⟨gW_c5 30 rfl rfl, gW_c1 8 rfl rfl, cd_R_thrown, by decide +kernel, by decide +kernel⟩, rfl, gW_c5 31 rfl rfl, gW_c5 32 rfl rfl, TX5, 12, rfl⟩
theorem d_L_law_829 : gIl M_L_law 829 5 831 := Or.inl ⟨by decide +kernel, rfl⟩
theorem d_L_law_831 : gB M_L_law 831 (.if_icmp .eq 5) 5 834 836 := ⟨by decide +kernel, rfl, by decide⟩
theorem d_L_law_834 : gN M_L_law 834 0 835 := Or.inl ⟨0, by decide +kernel, by decide, rfl⟩
theorem d_L_law_835 : gD M_L_law 835 (.ireturn) 1 836 := ⟨by decide +kernel, rfl⟩
theorem d_L_law_836 : gIl M_L_law 836 5 838 := Or.inl ⟨by decide +kernel, rfl⟩
theorem d_L_law_838 : gB M_L_law 838 (.ifCond .ne 15) 15 841 853 := ⟨by decide +kernel, rfl, by decide⟩
theorem d_L_law_841 : gAl M_L_law 841 3 842 := Or.inr ⟨3, by decide +kernel, rfl, rfl⟩
theorem d_L_law_842 : gN M_L_law 842 0 843 := Or.inl ⟨0, by decide +kernel, by decide, rfl⟩
theorem d_L_law_843 : gD M_L_law 843 (.laload) 1 844 := ⟨by decide +kernel, rfl⟩
theorem d_L_law_844 : gIl M_L_law 844 6 846 := Or.inl ⟨by decide +kernel, rfl⟩
theorem d_L_law_846 : gD M_L_law 846 (.i2l) 1 847 := ⟨by decide +kernel, rfl⟩
theorem d_L_law_847 : gD M_L_law 847 (.lcmp) 1 848 := ⟨by decide +kernel, rfl⟩
theorem d_L_law_848 : gB M_L_law 848 (.ifCond .eq 5) 5 851 853 := ⟨by decide +kernel, rfl, by decide⟩
theorem d_L_law_851 : gN M_L_law 851 0 852 := Or.inl ⟨0, by decide +kernel, by decide, rfl⟩
theorem d_L_law_852 : gD M_L_law 852 (.ireturn) 1 853 := ⟨by decide +kernel, rfl⟩
theorem d_L_law_853 : gB M_L_law 853 (.goto 339) 339 856 1192 := ⟨by decide +kernel, rfl, by decide⟩
theorem d_L_law_856 : gAl M_L_law 856 1 857 := Or.inr ⟨1, by decide +kernel, rfl, rfl⟩
theorem d_L_law_857 : gAl M_L_law 857 0 858 := Or.inr ⟨0, by decide +kernel, rfl, rfl⟩
theorem d_L_law_858 : gIl M_L_law 858 4 860 := Or.inl ⟨by decide +kernel, rfl⟩
theorem d_L_law_860 : gN M_L_law 860 1 861 := Or.inl ⟨1, by decide +kernel, by decide, rfl⟩
theorem d_L_law_861 : gD M_L_law 861 (.iadd) 1 862 := ⟨by decide +kernel, rfl⟩
theorem d_L_law_862 : gD M_L_law 862 (.iaload) 1 863 := ⟨by decide +kernel, rfl⟩
theorem d_L_law_863 : gAl M_L_law 863 3 864 := Or.inr ⟨3, by decide +kernel, rfl, rfl⟩
theorem d_L_law_864 : gD M_L_law 864 (.invokestatic 115) 3 867 := ⟨by decide +kernel, rfl⟩
theorem cs_L_law_864 : gClS M_L_law 115 y_L_marks M_L_marks 3 := ⟨⟨gW_c4 176 rfl rfl, gW_c1 0 rfl rfl, cd_L_marks, by decide +kernel, by decide +kernel⟩, gW_c4 177 rfl rfl⟩
theorem d_L_law_867 : gIs M_L_law 867 5 869 := Or.inl ⟨by decide +kernel, rfl⟩
theorem d_L_law_869 : gAl M_L_law 869 2 870 := Or.inr ⟨2, by decide +kernel, rfl, rfl⟩
theorem d_L_law_870 : gAl M_L_law 870 0 871 := Or.inr ⟨0, by decide +kernel, rfl, rfl⟩
theorem d_L_law_871 : gIl M_L_law 871 4 873 := Or.inl ⟨by decide +kernel, rfl⟩
theorem d_L_law_873 : gN M_L_law 873 1 874 := Or.inl ⟨1, by decide +kernel, by decide, rfl⟩
theorem d_L_law_874 : gD M_L_law 874 (.iadd) 1 875 := ⟨by decide +kernel, rfl⟩
theorem d_L_law_875 : gD M_L_law 875 (.iaload) 1 876 := ⟨by decide +kernel, rfl⟩
theorem d_L_law_876 : gD M_L_law 876 (.invokevirtual 117) 3 879 := ⟨by decide +kernel, rfl⟩
theorem cs_L_law_876 : gClV M_L_law 117 6 y_R_marks M_R_marks 1 := ⟨⟨gW_c5 168 rfl rfl, gW_c1 8 rfl rfl, cd_R_marks, by decide +kernel, by decide +kernel⟩, rfl, gW_c5 169 rfl rfl, gW_c5 170 rfl rfl, TX5, 12, rfl⟩
theorem d_L_law_879 : gIs M_L_law 879 6 881 := Or.inl ⟨by decide +kernel, rfl⟩
theorem d_L_law_881 : gAl M_L_law 881 2 882 := Or.inr ⟨2, by decide +kernel, rfl, rfl⟩
theorem d_L_law_882 : gD M_L_law 882 (.invokevirtual 79) 3 885 := ⟨by decide +kernel, rfl⟩
theorem cs_L_law_882 : gClV M_L_law 79 6 y_R_thrown M_R_thrown 0 := ⟨⟨gW_c5 30 rfl rfl, gW_c1 8 rfl rfl, cd_R_thrown, by decide +kernel, by decide +kernel⟩, rfl, gW_c5 31 rfl rfl, gW_c5 32 rfl rfl, TX5, 12, rfl⟩
theorem d_L_law_885 : gIl M_L_law 885 5 887 := Or.inl ⟨by decide +kernel, rfl⟩
theorem d_L_law_887 : gB M_L_law 887 (.if_icmp .eq 5) 5 890 892 := ⟨by decide +kernel, rfl, by decide⟩
theorem d_L_law_890 : gN M_L_law 890 0 891 := Or.inl ⟨0, by decide +kernel, by decide, rfl⟩
theorem d_L_law_891 : gD M_L_law 891 (.ireturn) 1 892 := ⟨by decide +kernel, rfl⟩
theorem d_L_law_892 : gIl M_L_law 892 5 894 := Or.inl ⟨by decide +kernel, rfl⟩
theorem d_L_law_894 : gB M_L_law 894 (.ifCond .ne 15) 15 897 909 := ⟨by decide +kernel, rfl, by decide⟩
theorem d_L_law_897 : gAl M_L_law 897 3 898 := Or.inr ⟨3, by decide +kernel, rfl, rfl⟩
theorem d_L_law_898 : gN M_L_law 898 0 899 := Or.inl ⟨0, by decide +kernel, by decide, rfl⟩
theorem d_L_law_899 : gD M_L_law 899 (.laload) 1 900 := ⟨by decide +kernel, rfl⟩
theorem d_L_law_900 : gIl M_L_law 900 6 902 := Or.inl ⟨by decide +kernel, rfl⟩
theorem d_L_law_902 : gD M_L_law 902 (.i2l) 1 903 := ⟨by decide +kernel, rfl⟩
theorem d_L_law_903 : gD M_L_law 903 (.lcmp) 1 904 := ⟨by decide +kernel, rfl⟩
theorem d_L_law_904 : gB M_L_law 904 (.ifCond .eq 5) 5 907 909 := ⟨by decide +kernel, rfl, by decide⟩
theorem d_L_law_907 : gN M_L_law 907 0 908 := Or.inl ⟨0, by decide +kernel, by decide, rfl⟩
theorem d_L_law_908 : gD M_L_law 908 (.ireturn) 1 909 := ⟨by decide +kernel, rfl⟩
theorem d_L_law_909 : gB M_L_law 909 (.goto 283) 283 912 1192 := ⟨by decide +kernel, rfl, by decide⟩
theorem d_L_law_912 : gAl M_L_law 912 1 913 := Or.inr ⟨1, by decide +kernel, rfl, rfl⟩
theorem d_L_law_913 : gAl M_L_law 913 0 914 := Or.inr ⟨0, by decide +kernel, rfl, rfl⟩
theorem d_L_law_914 : gIl M_L_law 914 4 916 := Or.inl ⟨by decide +kernel, rfl⟩
theorem d_L_law_916 : gN M_L_law 916 1 917 := Or.inl ⟨1, by decide +kernel, by decide, rfl⟩
theorem d_L_law_917 : gD M_L_law 917 (.iadd) 1 918 := ⟨by decide +kernel, rfl⟩
theorem d_L_law_918 : gD M_L_law 918 (.iaload) 1 919 := ⟨by decide +kernel, rfl⟩
theorem d_L_law_919 : gAl M_L_law 919 3 920 := Or.inr ⟨3, by decide +kernel, rfl, rfl⟩
theorem d_L_law_920 : gD M_L_law 920 (.invokestatic 118) 3 923 := ⟨by decide +kernel, rfl⟩
theorem cs_L_law_920 : gClS M_L_law 118 y_L_bytes M_L_bytes 3 := ⟨⟨gW_c4 187 rfl rfl, gW_c1 0 rfl rfl, cd_L_bytes, by decide +kernel, by decide +kernel⟩, gW_c4 188 rfl rfl⟩
theorem d_L_law_923 : gIs M_L_law 923 5 925 := Or.inl ⟨by decide +kernel, rfl⟩
theorem d_L_law_925 : gAl M_L_law 925 2 926 := Or.inr ⟨2, by decide +kernel, rfl, rfl⟩
theorem d_L_law_926 : gAl M_L_law 926 0 927 := Or.inr ⟨0, by decide +kernel, rfl, rfl⟩
theorem d_L_law_927 : gIl M_L_law 927 4 929 := Or.inl ⟨by decide +kernel, rfl⟩
theorem d_L_law_929 : gN M_L_law 929 1 930 := Or.inl ⟨1, by decide +kernel, by decide, rfl⟩
theorem d_L_law_930 : gD M_L_law 930 (.iadd) 1 931 := ⟨by decide +kernel, rfl⟩
theorem d_L_law_931 : gD M_L_law 931 (.iaload) 1 932 := ⟨by decide +kernel, rfl⟩
theorem d_L_law_932 : gD M_L_law 932 (.invokevirtual 120) 3 935 := ⟨by decide +kernel, rfl⟩
theorem cs_L_law_932 : gClV M_L_law 120 6 y_R_bytes M_R_bytes 1 := ⟨⟨gW_c5 172 rfl rfl, gW_c1 8 rfl rfl, cd_R_bytes, by decide +kernel, by decide +kernel⟩, rfl, gW_c5 173 rfl rfl, gW_c5 174 rfl rfl, TX5, 12, rfl⟩
theorem d_L_law_935 : gIs M_L_law 935 6 937 := Or.inl ⟨by decide +kernel, rfl⟩
theorem d_L_law_937 : gAl M_L_law 937 2 938 := Or.inr ⟨2, by decide +kernel, rfl, rfl⟩
theorem d_L_law_938 : gD M_L_law 938 (.invokevirtual 79) 3 941 := ⟨by decide +kernel, rfl⟩
theorem cs_L_law_938 : gClV M_L_law 79 6 y_R_thrown M_R_thrown 0 := ⟨⟨gW_c5 30 rfl rfl, gW_c1 8 rfl rfl, cd_R_thrown, by decide +kernel, by decide +kernel⟩, rfl, gW_c5 31 rfl rfl, gW_c5 32 rfl rfl, TX5, 12, rfl⟩
theorem d_L_law_941 : gIl M_L_law 941 5 943 := Or.inl ⟨by decide +kernel, rfl⟩
theorem d_L_law_943 : gB M_L_law 943 (.if_icmp .eq 5) 5 946 948 := ⟨by decide +kernel, rfl, by decide⟩
theorem d_L_law_946 : gN M_L_law 946 0 947 := Or.inl ⟨0, by decide +kernel, by decide, rfl⟩
theorem d_L_law_947 : gD M_L_law 947 (.ireturn) 1 948 := ⟨by decide +kernel, rfl⟩
theorem d_L_law_948 : gIl M_L_law 948 5 950 := Or.inl ⟨by decide +kernel, rfl⟩
theorem d_L_law_950 : gB M_L_law 950 (.ifCond .ne 15) 15 953 965 := ⟨by decide +kernel, rfl, by decide⟩
theorem d_L_law_953 : gAl M_L_law 953 3 954 := Or.inr ⟨3, by decide +kernel, rfl, rfl⟩
theorem d_L_law_954 : gN M_L_law 954 0 955 := Or.inl ⟨0, by decide +kernel, by decide, rfl⟩
theorem d_L_law_955 : gD M_L_law 955 (.laload) 1 956 := ⟨by decide +kernel, rfl⟩
theorem d_L_law_956 : gIl M_L_law 956 6 958 := Or.inl ⟨by decide +kernel, rfl⟩
theorem d_L_law_958 : gD M_L_law 958 (.i2l) 1 959 := ⟨by decide +kernel, rfl⟩
theorem d_L_law_959 : gD M_L_law 959 (.lcmp) 1 960 := ⟨by decide +kernel, rfl⟩
theorem d_L_law_960 : gB M_L_law 960 (.ifCond .eq 5) 5 963 965 := ⟨by decide +kernel, rfl, by decide⟩
theorem d_L_law_963 : gN M_L_law 963 0 964 := Or.inl ⟨0, by decide +kernel, by decide, rfl⟩
theorem d_L_law_964 : gD M_L_law 964 (.ireturn) 1 965 := ⟨by decide +kernel, rfl⟩
theorem d_L_law_965 : gB M_L_law 965 (.goto 227) 227 968 1192 := ⟨by decide +kernel, rfl, by decide⟩
theorem d_L_law_968 : gAl M_L_law 968 1 969 := Or.inr ⟨1, by decide +kernel, rfl, rfl⟩
theorem d_L_law_969 : gAl M_L_law 969 0 970 := Or.inr ⟨0, by decide +kernel, rfl, rfl⟩
theorem d_L_law_970 : gIl M_L_law 970 4 972 := Or.inl ⟨by decide +kernel, rfl⟩
theorem d_L_law_972 : gN M_L_law 972 1 973 := Or.inl ⟨1, by decide +kernel, by decide, rfl⟩
theorem d_L_law_973 : gD M_L_law 973 (.iadd) 1 974 := ⟨by decide +kernel, rfl⟩
theorem d_L_law_974 : gD M_L_law 974 (.iaload) 1 975 := ⟨by decide +kernel, rfl⟩
theorem d_L_law_975 : gAl M_L_law 975 0 976 := Or.inr ⟨0, by decide +kernel, rfl, rfl⟩
theorem d_L_law_976 : gIl M_L_law 976 4 978 := Or.inl ⟨by decide +kernel, rfl⟩
theorem d_L_law_978 : gN M_L_law 978 2 979 := Or.inl ⟨2, by decide +kernel, by decide, rfl⟩
theorem d_L_law_979 : gD M_L_law 979 (.iadd) 1 980 := ⟨by decide +kernel, rfl⟩
theorem d_L_law_980 : gD M_L_law 980 (.iaload) 1 981 := ⟨by decide +kernel, rfl⟩
theorem d_L_law_981 : gAl M_L_law 981 3 982 := Or.inr ⟨3, by decide +kernel, rfl, rfl⟩
theorem d_L_law_982 : gD M_L_law 982 (.invokestatic 121) 3 985 := ⟨by decide +kernel, rfl⟩
theorem cs_L_law_982 : gClS M_L_law 121 y_L_same M_L_same 4 := ⟨⟨gW_c4 198 rfl rfl, gW_c1 0 rfl rfl, cd_L_same, by decide +kernel, by decide +kernel⟩, gW_c4 199 rfl rfl⟩
theorem d_L_law_985 : gIs M_L_law 985 5 987 := Or.inl ⟨by decide +kernel, rfl⟩
theorem d_L_law_987 : gAl M_L_law 987 2 988 := Or.inr ⟨2, by decide +kernel, rfl, rfl⟩
theorem d_L_law_988 : gAl M_L_law 988 0 989 := Or.inr ⟨0, by decide +kernel, rfl, rfl⟩
theorem d_L_law_989 : gIl M_L_law 989 4 991 := Or.inl ⟨by decide +kernel, rfl⟩
theorem d_L_law_991 : gN M_L_law 991 1 992 := Or.inl ⟨1, by decide +kernel, by decide, rfl⟩
theorem d_L_law_992 : gD M_L_law 992 (.iadd) 1 993 := ⟨by decide +kernel, rfl⟩
theorem d_L_law_993 : gD M_L_law 993 (.iaload) 1 994 := ⟨by decide +kernel, rfl⟩
theorem d_L_law_994 : gAl M_L_law 994 0 995 := Or.inr ⟨0, by decide +kernel, rfl, rfl⟩
theorem d_L_law_995 : gIl M_L_law 995 4 997 := Or.inl ⟨by decide +kernel, rfl⟩
theorem d_L_law_997 : gN M_L_law 997 2 998 := Or.inl ⟨2, by decide +kernel, by decide, rfl⟩
theorem d_L_law_998 : gD M_L_law 998 (.iadd) 1 999 := ⟨by decide +kernel, rfl⟩
theorem d_L_law_999 : gD M_L_law 999 (.iaload) 1 1000 := ⟨by decide +kernel, rfl⟩
theorem d_L_law_1000 : gD M_L_law 1000 (.invokevirtual 123) 3 1003 := ⟨by decide +kernel, rfl⟩
theorem cs_L_law_1000 : gClV M_L_law 123 6 y_R_same M_R_same 2 := ⟨⟨gW_c5 176 rfl rfl, gW_c1 8 rfl rfl, cd_R_same, by decide +kernel, by decide +kernel⟩, rfl, gW_c5 177 rfl rfl, gW_c5 178 rfl rfl, TX5, 12, rfl⟩
theorem d_L_law_1003 : gIs M_L_law 1003 6 1005 := Or.inl ⟨by decide +kernel, rfl⟩
theorem d_L_law_1005 : gAl M_L_law 1005 2 1006 := Or.inr ⟨2, by decide +kernel, rfl, rfl⟩
theorem d_L_law_1006 : gD M_L_law 1006 (.invokevirtual 79) 3 1009 := ⟨by decide +kernel, rfl⟩
theorem cs_L_law_1006 : gClV M_L_law 79 6 y_R_thrown M_R_thrown 0 := ⟨⟨gW_c5 30 rfl rfl, gW_c1 8 rfl rfl, cd_R_thrown, by decide +kernel, by decide +kernel⟩, rfl, gW_c5 31 rfl rfl, gW_c5 32 rfl rfl, TX5, 12, rfl⟩
theorem d_L_law_1009 : gIl M_L_law 1009 5 1011 := Or.inl ⟨by decide +kernel, rfl⟩
theorem d_L_law_1011 : gB M_L_law 1011 (.if_icmp .eq 5) 5 1014 1016 := ⟨by decide +kernel, rfl, by decide⟩
theorem d_L_law_1014 : gN M_L_law 1014 0 1015 := Or.inl ⟨0, by decide +kernel, by decide, rfl⟩
theorem d_L_law_1015 : gD M_L_law 1015 (.ireturn) 1 1016 := ⟨by decide +kernel, rfl⟩
theorem d_L_law_1016 : gIl M_L_law 1016 5 1018 := Or.inl ⟨by decide +kernel, rfl⟩
theorem d_L_law_1018 : gB M_L_law 1018 (.ifCond .ne 22) 22 1021 1040 := ⟨by decide +kernel, rfl, by decide⟩
theorem d_L_law_1021 : gAl M_L_law 1021 3 1022 := Or.inr ⟨3, by decide +kernel, rfl, rfl⟩
theorem d_L_law_1022 : gN M_L_law 1022 0 1023 := Or.inl ⟨0, by decide +kernel, by decide, rfl⟩
theorem d_L_law_1023 : gD M_L_law 1023 (.laload) 1 1024 := ⟨by decide +kernel, rfl⟩
theorem d_L_law_1024 : gIl M_L_law 1024 6 1026 := Or.inl ⟨by decide +kernel, rfl⟩
theorem d_L_law_1026 : gB M_L_law 1026 (.ifCond .eq 7) 7 1029 1033 := ⟨by decide +kernel, rfl, by decide⟩
theorem d_L_law_1029 : gD M_L_law 1029 (.lconst 1) 1 1030 := ⟨by decide +kernel, rfl⟩
theorem d_L_law_1030 : gB M_L_law 1030 (.goto 4) 4 1033 1034 := ⟨by decide +kernel, rfl, by decide⟩
theorem d_L_law_1033 : gD M_L_law 1033 (.lconst 0) 1 1034 := ⟨by decide +kernel, rfl⟩
theorem d_L_law_1034 : gD M_L_law 1034 (.lcmp) 1 1035 := ⟨by decide +kernel, rfl⟩
theorem d_L_law_1035 : gB M_L_law 1035 (.ifCond .eq 5) 5 1038 1040 := ⟨by decide +kernel, rfl, by decide⟩
theorem d_L_law_1038 : gN M_L_law 1038 0 1039 := Or.inl ⟨0, by decide +kernel, by decide, rfl⟩
theorem d_L_law_1039 : gD M_L_law 1039 (.ireturn) 1 1040 := ⟨by decide +kernel, rfl⟩
theorem d_L_law_1040 : gB M_L_law 1040 (.goto 152) 152 1043 1192 := ⟨by decide +kernel, rfl, by decide⟩
theorem d_L_law_1043 : gAl M_L_law 1043 1 1044 := Or.inr ⟨1, by decide +kernel, rfl, rfl⟩
theorem d_L_law_1044 : gAl M_L_law 1044 0 1045 := Or.inr ⟨0, by decide +kernel, rfl, rfl⟩
theorem d_L_law_1045 : gIl M_L_law 1045 4 1047 := Or.inl ⟨by decide +kernel, rfl⟩
theorem d_L_law_1047 : gN M_L_law 1047 1 1048 := Or.inl ⟨1, by decide +kernel, by decide, rfl⟩
theorem d_L_law_1048 : gD M_L_law 1048 (.iadd) 1 1049 := ⟨by decide +kernel, rfl⟩
theorem d_L_law_1049 : gD M_L_law 1049 (.iaload) 1 1050 := ⟨by decide +kernel, rfl⟩
theorem d_L_law_1050 : gAl M_L_law 1050 3 1051 := Or.inr ⟨3, by decide +kernel, rfl, rfl⟩
theorem d_L_law_1051 : gD M_L_law 1051 (.invokestatic 124) 3 1054 := ⟨by decide +kernel, rfl⟩
theorem cs_L_law_1051 : gClS M_L_law 124 y_L_room M_L_room 3 := ⟨⟨gW_c4 213 rfl rfl, gW_c1 0 rfl rfl, cd_L_room, by decide +kernel, by decide +kernel⟩, gW_c4 214 rfl rfl⟩
theorem d_L_law_1054 : gIs M_L_law 1054 5 1056 := Or.inl ⟨by decide +kernel, rfl⟩
theorem d_L_law_1056 : gAl M_L_law 1056 2 1057 := Or.inr ⟨2, by decide +kernel, rfl, rfl⟩
theorem d_L_law_1057 : gAl M_L_law 1057 0 1058 := Or.inr ⟨0, by decide +kernel, rfl, rfl⟩
theorem d_L_law_1058 : gIl M_L_law 1058 4 1060 := Or.inl ⟨by decide +kernel, rfl⟩
theorem d_L_law_1060 : gN M_L_law 1060 1 1061 := Or.inl ⟨1, by decide +kernel, by decide, rfl⟩
theorem d_L_law_1061 : gD M_L_law 1061 (.iadd) 1 1062 := ⟨by decide +kernel, rfl⟩
theorem d_L_law_1062 : gD M_L_law 1062 (.iaload) 1 1063 := ⟨by decide +kernel, rfl⟩
theorem d_L_law_1063 : gD M_L_law 1063 (.invokevirtual 126) 3 1066 := ⟨by decide +kernel, rfl⟩
theorem cs_L_law_1063 : gClV M_L_law 126 6 y_R_room M_R_room 1 := ⟨⟨gW_c5 180 rfl rfl, gW_c1 8 rfl rfl, cd_R_room, by decide +kernel, by decide +kernel⟩, rfl, gW_c5 181 rfl rfl, gW_c5 182 rfl rfl, TX5, 12, rfl⟩
theorem d_L_law_1066 : gIs M_L_law 1066 6 1068 := Or.inl ⟨by decide +kernel, rfl⟩
theorem d_L_law_1068 : gAl M_L_law 1068 2 1069 := Or.inr ⟨2, by decide +kernel, rfl, rfl⟩
theorem d_L_law_1069 : gD M_L_law 1069 (.invokevirtual 79) 3 1072 := ⟨by decide +kernel, rfl⟩
theorem cs_L_law_1069 : gClV M_L_law 79 6 y_R_thrown M_R_thrown 0 := ⟨⟨gW_c5 30 rfl rfl, gW_c1 8 rfl rfl, cd_R_thrown, by decide +kernel, by decide +kernel⟩, rfl, gW_c5 31 rfl rfl, gW_c5 32 rfl rfl, TX5, 12, rfl⟩
theorem d_L_law_1072 : gIl M_L_law 1072 5 1074 := Or.inl ⟨by decide +kernel, rfl⟩
theorem d_L_law_1074 : gB M_L_law 1074 (.if_icmp .eq 5) 5 1077 1079 := ⟨by decide +kernel, rfl, by decide⟩
theorem d_L_law_1077 : gN M_L_law 1077 0 1078 := Or.inl ⟨0, by decide +kernel, by decide, rfl⟩
theorem d_L_law_1078 : gD M_L_law 1078 (.ireturn) 1 1079 := ⟨by decide +kernel, rfl⟩
theorem d_L_law_1079 : gIl M_L_law 1079 5 1081 := Or.inl ⟨by decide +kernel, rfl⟩
theorem d_L_law_1081 : gB M_L_law 1081 (.ifCond .ne 15) 15 1084 1096 := ⟨by decide +kernel, rfl, by decide⟩
theorem d_L_law_1084 : gAl M_L_law 1084 3 1085 := Or.inr ⟨3, by decide +kernel, rfl, rfl⟩
theorem d_L_law_1085 : gN M_L_law 1085 0 1086 := Or.inl ⟨0, by decide +kernel, by decide, rfl⟩
theorem d_L_law_1086 : gD M_L_law 1086 (.laload) 1 1087 := ⟨by decide +kernel, rfl⟩
theorem d_L_law_1087 : gIl M_L_law 1087 6 1089 := Or.inl ⟨by decide +kernel, rfl⟩
theorem d_L_law_1089 : gD M_L_law 1089 (.i2l) 1 1090 := ⟨by decide +kernel, rfl⟩
theorem d_L_law_1090 : gD M_L_law 1090 (.lcmp) 1 1091 := ⟨by decide +kernel, rfl⟩
theorem d_L_law_1091 : gB M_L_law 1091 (.ifCond .eq 5) 5 1094 1096 := ⟨by decide +kernel, rfl, by decide⟩
theorem d_L_law_1094 : gN M_L_law 1094 0 1095 := Or.inl ⟨0, by decide +kernel, by decide, rfl⟩
theorem d_L_law_1095 : gD M_L_law 1095 (.ireturn) 1 1096 := ⟨by decide +kernel, rfl⟩
theorem d_L_law_1096 : gB M_L_law 1096 (.goto 96) 96 1099 1192 := ⟨by decide +kernel, rfl, by decide⟩
theorem d_L_law_1099 : gAl M_L_law 1099 1 1100 := Or.inr ⟨1, by decide +kernel, rfl, rfl⟩
theorem d_L_law_1100 : gAl M_L_law 1100 0 1101 := Or.inr ⟨0, by decide +kernel, rfl, rfl⟩
theorem d_L_law_1101 : gIl M_L_law 1101 4 1103 := Or.inl ⟨by decide +kernel, rfl⟩
theorem d_L_law_1103 : gN M_L_law 1103 1 1104 := Or.inl ⟨1, by decide +kernel, by decide, rfl⟩
theorem d_L_law_1104 : gD M_L_law 1104 (.iadd) 1 1105 := ⟨by decide +kernel, rfl⟩
theorem d_L_law_1105 : gD M_L_law 1105 (.iaload) 1 1106 := ⟨by decide +kernel, rfl⟩
theorem d_L_law_1106 : gAl M_L_law 1106 0 1107 := Or.inr ⟨0, by decide +kernel, rfl, rfl⟩
theorem d_L_law_1107 : gIl M_L_law 1107 4 1109 := Or.inl ⟨by decide +kernel, rfl⟩
theorem d_L_law_1109 : gN M_L_law 1109 2 1110 := Or.inl ⟨2, by decide +kernel, by decide, rfl⟩
theorem d_L_law_1110 : gD M_L_law 1110 (.iadd) 1 1111 := ⟨by decide +kernel, rfl⟩
theorem d_L_law_1111 : gD M_L_law 1111 (.iaload) 1 1112 := ⟨by decide +kernel, rfl⟩
theorem d_L_law_1112 : gAl M_L_law 1112 0 1113 := Or.inr ⟨0, by decide +kernel, rfl, rfl⟩
theorem d_L_law_1113 : gIl M_L_law 1113 4 1115 := Or.inl ⟨by decide +kernel, rfl⟩
theorem d_L_law_1115 : gN M_L_law 1115 3 1116 := Or.inl ⟨3, by decide +kernel, by decide, rfl⟩
theorem d_L_law_1116 : gD M_L_law 1116 (.iadd) 1 1117 := ⟨by decide +kernel, rfl⟩
theorem d_L_law_1117 : gD M_L_law 1117 (.iaload) 1 1118 := ⟨by decide +kernel, rfl⟩
theorem d_L_law_1118 : gAl M_L_law 1118 3 1119 := Or.inr ⟨3, by decide +kernel, rfl, rfl⟩
theorem d_L_law_1119 : gD M_L_law 1119 (.invokestatic 127) 3 1122 := ⟨by decide +kernel, rfl⟩
theorem cs_L_law_1119 : gClS M_L_law 127 y_L_item M_L_item 5 := ⟨⟨gW_c4 220 rfl rfl, gW_c1 0 rfl rfl, cd_L_item, by decide +kernel, by decide +kernel⟩, gW_c4 221 rfl rfl⟩
theorem d_L_law_1122 : gIs M_L_law 1122 5 1124 := Or.inl ⟨by decide +kernel, rfl⟩
theorem d_L_law_1124 : gAl M_L_law 1124 2 1125 := Or.inr ⟨2, by decide +kernel, rfl, rfl⟩
theorem d_L_law_1125 : gAl M_L_law 1125 0 1126 := Or.inr ⟨0, by decide +kernel, rfl, rfl⟩
theorem d_L_law_1126 : gIl M_L_law 1126 4 1128 := Or.inl ⟨by decide +kernel, rfl⟩
theorem d_L_law_1128 : gN M_L_law 1128 1 1129 := Or.inl ⟨1, by decide +kernel, by decide, rfl⟩
theorem d_L_law_1129 : gD M_L_law 1129 (.iadd) 1 1130 := ⟨by decide +kernel, rfl⟩
theorem d_L_law_1130 : gD M_L_law 1130 (.iaload) 1 1131 := ⟨by decide +kernel, rfl⟩
theorem d_L_law_1131 : gAl M_L_law 1131 0 1132 := Or.inr ⟨0, by decide +kernel, rfl, rfl⟩
theorem d_L_law_1132 : gIl M_L_law 1132 4 1134 := Or.inl ⟨by decide +kernel, rfl⟩
theorem d_L_law_1134 : gN M_L_law 1134 2 1135 := Or.inl ⟨2, by decide +kernel, by decide, rfl⟩
theorem d_L_law_1135 : gD M_L_law 1135 (.iadd) 1 1136 := ⟨by decide +kernel, rfl⟩
theorem d_L_law_1136 : gD M_L_law 1136 (.iaload) 1 1137 := ⟨by decide +kernel, rfl⟩
theorem d_L_law_1137 : gAl M_L_law 1137 0 1138 := Or.inr ⟨0, by decide +kernel, rfl, rfl⟩
theorem d_L_law_1138 : gIl M_L_law 1138 4 1140 := Or.inl ⟨by decide +kernel, rfl⟩
theorem d_L_law_1140 : gN M_L_law 1140 3 1141 := Or.inl ⟨3, by decide +kernel, by decide, rfl⟩
theorem d_L_law_1141 : gD M_L_law 1141 (.iadd) 1 1142 := ⟨by decide +kernel, rfl⟩
theorem d_L_law_1142 : gD M_L_law 1142 (.iaload) 1 1143 := ⟨by decide +kernel, rfl⟩
theorem d_L_law_1143 : gD M_L_law 1143 (.invokevirtual 129) 3 1146 := ⟨by decide +kernel, rfl⟩
theorem cs_L_law_1143 : gClV M_L_law 129 6 y_R_item M_R_item 3 := ⟨⟨gW_c5 184 rfl rfl, gW_c1 8 rfl rfl, cd_R_item, by decide +kernel, by decide +kernel⟩, rfl, gW_c5 185 rfl rfl, gW_c5 186 rfl rfl, TX5, 12, rfl⟩
theorem d_L_law_1146 : gIs M_L_law 1146 6 1148 := Or.inl ⟨by decide +kernel, rfl⟩
theorem d_L_law_1148 : gAl M_L_law 1148 2 1149 := Or.inr ⟨2, by decide +kernel, rfl, rfl⟩
theorem d_L_law_1149 : gD M_L_law 1149 (.invokevirtual 79) 3 1152 := ⟨by decide +kernel, rfl⟩
theorem cs_L_law_1149 : gClV M_L_law 79 6 y_R_thrown M_R_thrown 0 := ⟨⟨gW_c5 30 rfl rfl, gW_c1 8 rfl rfl, cd_R_thrown, by decide +kernel, by decide +kernel⟩, rfl, gW_c5 31 rfl rfl, gW_c5 32 rfl rfl, TX5, 12, rfl⟩
theorem d_L_law_1152 : gIl M_L_law 1152 5 1154 := Or.inl ⟨by decide +kernel, rfl⟩
theorem d_L_law_1154 : gB M_L_law 1154 (.if_icmp .eq 5) 5 1157 1159 := ⟨by decide +kernel, rfl, by decide⟩
theorem d_L_law_1157 : gN M_L_law 1157 0 1158 := Or.inl ⟨0, by decide +kernel, by decide, rfl⟩
theorem d_L_law_1158 : gD M_L_law 1158 (.ireturn) 1 1159 := ⟨by decide +kernel, rfl⟩
theorem d_L_law_1159 : gIl M_L_law 1159 5 1161 := Or.inl ⟨by decide +kernel, rfl⟩
theorem d_L_law_1161 : gB M_L_law 1161 (.ifCond .ne 15) 15 1164 1176 := ⟨by decide +kernel, rfl, by decide⟩
theorem d_L_law_1164 : gAl M_L_law 1164 3 1165 := Or.inr ⟨3, by decide +kernel, rfl, rfl⟩
theorem d_L_law_1165 : gN M_L_law 1165 0 1166 := Or.inl ⟨0, by decide +kernel, by decide, rfl⟩
theorem d_L_law_1166 : gD M_L_law 1166 (.laload) 1 1167 := ⟨by decide +kernel, rfl⟩
theorem d_L_law_1167 : gIl M_L_law 1167 6 1169 := Or.inl ⟨by decide +kernel, rfl⟩
theorem d_L_law_1169 : gD M_L_law 1169 (.i2l) 1 1170 := ⟨by decide +kernel, rfl⟩
theorem d_L_law_1170 : gD M_L_law 1170 (.lcmp) 1 1171 := ⟨by decide +kernel, rfl⟩
theorem d_L_law_1171 : gB M_L_law 1171 (.ifCond .eq 5) 5 1174 1176 := ⟨by decide +kernel, rfl, by decide⟩
theorem d_L_law_1174 : gN M_L_law 1174 0 1175 := Or.inl ⟨0, by decide +kernel, by decide, rfl⟩
theorem d_L_law_1175 : gD M_L_law 1175 (.ireturn) 1 1176 := ⟨by decide +kernel, rfl⟩
theorem d_L_law_1176 : gB M_L_law 1176 (.goto 16) 16 1179 1192 := ⟨by decide +kernel, rfl, by decide⟩
theorem d_L_law_1179 : gAl M_L_law 1179 1 1180 := Or.inr ⟨1, by decide +kernel, rfl, rfl⟩
theorem d_L_law_1180 : gD M_L_law 1180 (.invokevirtual 130) 3 1183 := ⟨by decide +kernel, rfl⟩
theorem cs_L_law_1180 : gClV M_L_law 130 5 y_F_leftOut M_F_leftOut 0 := ⟨⟨gW_c1 129 rfl rfl, gW_c1 1 rfl rfl, cd_F_leftOut, by decide +kernel, by decide +kernel⟩, rfl, gW_c1 130 rfl rfl, gW_c1 131 rfl rfl, TX4, 4, rfl⟩
theorem d_L_law_1183 : gAl M_L_law 1183 2 1184 := Or.inr ⟨2, by decide +kernel, rfl, rfl⟩
theorem d_L_law_1184 : gD M_L_law 1184 (.invokevirtual 133) 3 1187 := ⟨by decide +kernel, rfl⟩
theorem cs_L_law_1184 : gClV M_L_law 133 6 y_R_leftOut M_R_leftOut 0 := ⟨⟨gW_c5 188 rfl rfl, gW_c1 8 rfl rfl, cd_R_leftOut, by decide +kernel, by decide +kernel⟩, rfl, gW_c5 189 rfl rfl, gW_c5 190 rfl rfl, TX5, 12, rfl⟩
theorem d_L_law_1187 : gB M_L_law 1187 (.if_icmp .eq 5) 5 1190 1192 := ⟨by decide +kernel, rfl, by decide⟩
theorem d_L_law_1190 : gN M_L_law 1190 0 1191 := Or.inl ⟨0, by decide +kernel, by decide, rfl⟩
theorem d_L_law_1191 : gD M_L_law 1191 (.ireturn) 1 1192 := ⟨by decide +kernel, rfl⟩
theorem d_L_law_1192 : gIc M_L_law 1192 4 5 1195 := ⟨5, by decide +kernel, by decide, rfl⟩
theorem d_L_law_1195 : gB M_L_law 1195 (.goto (-1172)) (-1172) 1198 23 := ⟨by decide +kernel, rfl, by decide⟩
theorem d_L_law_1198 : gN M_L_law 1198 1 1199 := Or.inl ⟨1, by decide +kernel, by decide, rfl⟩
theorem d_L_law_1199 : gD M_L_law 1199 (.ireturn) 1 1200 := ⟨by decide +kernel, rfl⟩
end
section
/-! ===== families of rows: by place, by number of arguments ===== -/
section Fam
variable {G : gG} {l : Launch} {Z : State → Array Value → List Frame → State → Prop} {R : Room} {M : gM} {pc pc' : Nat} {lv : List (Option Value)} {st : List Value} {h : gHp} {sz k w : Nat}
theorem gw_il0 {r : List (Option Value)} {x : Int32} (hd : gIl M pc 0 pc') (kk : GW G l Z R M pc' (some (.int x) :: r) (.int x :: st) h sz k w) : GW G l Z R M pc (some (.int x) :: r) st h sz k w := gw_iload hd rfl kk
theorem gw_al0 {r : List (Option Value)} {x : Nat} (hd : gAl M pc 0 pc') (kk : GW G l Z R M pc' (some (.ref x) :: r) (.ref x :: st) h sz k w) : GW G l Z R M pc (some (.ref x) :: r) st h sz k w := gw_aload hd rfl kk
theorem gw_is0 {q : Option Value} {r : List (Option Value)} {x : Int32} (hd : gIs M pc 0 pc') (kk : GW G l Z R M pc' (some (.int x) :: r) st h sz k w) : GW G l Z R M pc (q :: r) (.int x :: st) h sz k w := gw_istore hd (by simp) kk
theorem gw_as0 {q : Option Value} {r : List (Option Value)} {x : Nat} (hd : gAst M pc 0 pc') (kk : GW G l Z R M pc' (some (.ref x) :: r) st h sz k w) : GW G l Z R M pc (q :: r) (.ref x :: st) h sz k w := gw_astore hd (by simp) kk
theorem gw_ii0 {r : List (Option Value)} {x v : Int32} (hd : gIc M pc 0 v pc') (kk : GW G l Z R M pc' (some (.int (x + v)) :: r) st h sz k w) : GW G l Z R M pc (some (.int x) :: r) st h sz k w := gw_iinc hd rfl kk
theorem gw_il1 {a0 : Option Value} {r : List (Option Value)} {x : Int32} (hd : gIl M pc 1 pc') (kk : GW G l Z R M pc' (a0 :: some (.int x) :: r) (.int x :: st) h sz k w) : GW G l Z R M pc (a0 :: some (.int x) :: r) st h sz k w := gw_iload hd rfl kk
theorem gw_al1 {a0 : Option Value} {r : List (Option Value)} {x : Nat} (hd : gAl M pc 1 pc') (kk : GW G l Z R M pc' (a0 :: some (.ref x) :: r) (.ref x :: st) h sz k w) : GW G l Z R M pc (a0 :: some (.ref x) :: r) st h sz k w := gw_aload hd rfl kk
theorem gw_is1 {a0 : Option Value} {q : Option Value} {r : List (Option Value)} {x : Int32} (hd : gIs M pc 1 pc') (kk : GW G l Z R M pc' (a0 :: some (.int x) :: r) st h sz k w) : GW G l Z R M pc (a0 :: q :: r) (.int x :: st) h sz k w := gw_istore hd (by simp) kk
theorem gw_as1 {a0 : Option Value} {q : Option Value} {r : List (Option Value)} {x : Nat} (hd : gAst M pc 1 pc') (kk : GW G l Z R M pc' (a0 :: some (.ref x) :: r) st h sz k w) : GW G l Z R M pc (a0 :: q :: r) (.ref x :: st) h sz k w := gw_astore hd (by simp) kk
theorem gw_ii1 {a0 : Option Value} {r : List (Option Value)} {x v : Int32} (hd : gIc M pc 1 v pc') (kk : GW G l Z R M pc' (a0 :: some (.int (x + v)) :: r) st h sz k w) : GW G l Z R M pc (a0 :: some (.int x) :: r) st h sz k w := gw_iinc hd rfl kk
theorem gw_il2 {a0 a1 : Option Value} {r : List (Option Value)} {x : Int32} (hd : gIl M pc 2 pc') (kk : GW G l Z R M pc' (a0 :: a1 :: some (.int x) :: r) (.int x :: st) h sz k w) : GW G l Z R M pc (a0 :: a1 :: some (.int x) :: r) st h sz k w := gw_iload hd rfl kk
theorem gw_al2 {a0 a1 : Option Value} {r : List (Option Value)} {x : Nat} (hd : gAl M pc 2 pc') (kk : GW G l Z R M pc' (a0 :: a1 :: some (.ref x) :: r) (.ref x :: st) h sz k w) : GW G l Z R M pc (a0 :: a1 :: some (.ref x) :: r) st h sz k w := gw_aload hd rfl kk
theorem gw_is2 {a0 a1 : Option Value} {q : Option Value} {r : List (Option Value)} {x : Int32} (hd : gIs M pc 2 pc') (kk : GW G l Z R M pc' (a0 :: a1 :: some (.int x) :: r) st h sz k w) : GW G l Z R M pc (a0 :: a1 :: q :: r) (.int x :: st) h sz k w := gw_istore hd (by simp) kk
theorem gw_as2 {a0 a1 : Option Value} {q : Option Value} {r : List (Option Value)} {x : Nat} (hd : gAst M pc 2 pc') (kk : GW G l Z R M pc' (a0 :: a1 :: some (.ref x) :: r) st h sz k w) : GW G l Z R M pc (a0 :: a1 :: q :: r) (.ref x :: st) h sz k w := gw_astore hd (by simp) kk
theorem gw_ii2 {a0 a1 : Option Value} {r : List (Option Value)} {x v : Int32} (hd : gIc M pc 2 v pc') (kk : GW G l Z R M pc' (a0 :: a1 :: some (.int (x + v)) :: r) st h sz k w) : GW G l Z R M pc (a0 :: a1 :: some (.int x) :: r) st h sz k w := gw_iinc hd rfl kk
theorem gw_il3 {a0 a1 a2 : Option Value} {r : List (Option Value)} {x : Int32} (hd : gIl M pc 3 pc') (kk : GW G l Z R M pc' (a0 :: a1 :: a2 :: some (.int x) :: r) (.int x :: st) h sz k w) : GW G l Z R M pc (a0 :: a1 :: a2 :: some (.int x) :: r) st h sz k w := gw_iload hd rfl kk
theorem gw_al3 {a0 a1 a2 : Option Value} {r : List (Option Value)} {x : Nat} (hd : gAl M pc 3 pc') (kk : GW G l Z R M pc' (a0 :: a1 :: a2 :: some (.ref x) :: r) (.ref x :: st) h sz k w) : GW G l Z R M pc (a0 :: a1 :: a2 :: some (.ref x) :: r) st h sz k w := gw_aload hd rfl kk
theorem gw_is3 {a0 a1 a2 : Option Value} {q : Option Value} {r : List (Option Value)} {x : Int32} (hd : gIs M pc 3 pc') (kk : GW G l Z R M pc' (a0 :: a1 :: a2 :: some (.int x) :: r) st h sz k w) : GW G l Z R M pc (a0 :: a1 :: a2 :: q :: r) (.int x :: st) h sz k w := gw_istore hd (by simp) kk
theorem gw_as3 {a0 a1 a2 : Option Value} {q : Option Value} {r : List (Option Value)} {x : Nat} (hd : gAst M pc 3 pc') (kk : GW G l Z R M pc' (a0 :: a1 :: a2 :: some (.ref x) :: r) st h sz k w) : GW G l Z R M pc (a0 :: a1 :: a2 :: q :: r) (.ref x :: st) h sz k w := gw_astore hd (by simp) kk
theorem gw_ii3 {a0 a1 a2 : Option Value} {r : List (Option Value)} {x v : Int32} (hd : gIc M pc 3 v pc') (kk : GW G l Z R M pc' (a0 :: a1 :: a2 :: some (.int (x + v)) :: r) st h sz k w) : GW G l Z R M pc (a0 :: a1 :: a2 :: some (.int x) :: r) st h sz k w := gw_iinc hd rfl kk
theorem gw_il4 {a0 a1 a2 a3 : Option Value} {r : List (Option Value)} {x : Int32} (hd : gIl M pc 4 pc') (kk : GW G l Z R M pc' (a0 :: a1 :: a2 :: a3 :: some (.int x) :: r) (.int x :: st) h sz k w) : GW G l Z R M pc (a0 :: a1 :: a2 :: a3 :: some (.int x) :: r) st h sz k w := gw_iload hd rfl kk
theorem gw_al4 {a0 a1 a2 a3 : Option Value} {r : List (Option Value)} {x : Nat} (hd : gAl M pc 4 pc') (kk : GW G l Z R M pc' (a0 :: a1 :: a2 :: a3 :: some (.ref x) :: r) (.ref x :: st) h sz k w) : GW G l Z R M pc (a0 :: a1 :: a2 :: a3 :: some (.ref x) :: r) st h sz k w := gw_aload hd rfl kk
theorem gw_is4 {a0 a1 a2 a3 : Option Value} {q : Option Value} {r : List (Option Value)} {x : Int32} (hd : gIs M pc 4 pc') (kk : GW G l Z R M pc' (a0 :: a1 :: a2 :: a3 :: some (.int x) :: r) st h sz k w) : GW G l Z R M pc (a0 :: a1 :: a2 :: a3 :: q :: r) (.int x :: st) h sz k w := gw_istore hd (by simp) kk
theorem gw_as4 {a0 a1 a2 a3 : Option Value} {q : Option Value} {r : List (Option Value)} {x : Nat} (hd : gAst M pc 4 pc') (kk : GW G l Z R M pc' (a0 :: a1 :: a2 :: a3 :: some (.ref x) :: r) st h sz k w) : GW G l Z R M pc (a0 :: a1 :: a2 :: a3 :: q :: r) (.ref x :: st) h sz k w := gw_astore hd (by simp) kk
theorem gw_ii4 {a0 a1 a2 a3 : Option Value} {r : List (Option Value)} {x v : Int32} (hd : gIc M pc 4 v pc') (kk : GW G l Z R M pc' (a0 :: a1 :: a2 :: a3 :: some (.int (x + v)) :: r) st h sz k w) : GW G l Z R M pc (a0 :: a1 :: a2 :: a3 :: some (.int x) :: r) st h sz k w := gw_iinc hd rfl kk
theorem gw_il5 {a0 a1 a2 a3 a4 : Option Value} {r : List (Option Value)} {x : Int32} (hd : gIl M pc 5 pc') (kk : GW G l Z R M pc' (a0 :: a1 :: a2 :: a3 :: a4 :: some (.int x) :: r) (.int x :: st) h sz k w) : GW G l Z R M pc (a0 :: a1 :: a2 :: a3 :: a4 :: some (.int x) :: r) st h sz k w := gw_iload hd rfl kk
theorem gw_al5 {a0 a1 a2 a3 a4 : Option Value} {r : List (Option Value)} {x : Nat} (hd : gAl M pc 5 pc') (kk : GW G l Z R M pc' (a0 :: a1 :: a2 :: a3 :: a4 :: some (.ref x) :: r) (.ref x :: st) h sz k w) : GW G l Z R M pc (a0 :: a1 :: a2 :: a3 :: a4 :: some (.ref x) :: r) st h sz k w := gw_aload hd rfl kk
theorem gw_is5 {a0 a1 a2 a3 a4 : Option Value} {q : Option Value} {r : List (Option Value)} {x : Int32} (hd : gIs M pc 5 pc') (kk : GW G l Z R M pc' (a0 :: a1 :: a2 :: a3 :: a4 :: some (.int x) :: r) st h sz k w) : GW G l Z R M pc (a0 :: a1 :: a2 :: a3 :: a4 :: q :: r) (.int x :: st) h sz k w := gw_istore hd (by simp) kk
theorem gw_as5 {a0 a1 a2 a3 a4 : Option Value} {q : Option Value} {r : List (Option Value)} {x : Nat} (hd : gAst M pc 5 pc') (kk : GW G l Z R M pc' (a0 :: a1 :: a2 :: a3 :: a4 :: some (.ref x) :: r) st h sz k w) : GW G l Z R M pc (a0 :: a1 :: a2 :: a3 :: a4 :: q :: r) (.ref x :: st) h sz k w := gw_astore hd (by simp) kk
theorem gw_ii5 {a0 a1 a2 a3 a4 : Option Value} {r : List (Option Value)} {x v : Int32} (hd : gIc M pc 5 v pc') (kk : GW G l Z R M pc' (a0 :: a1 :: a2 :: a3 :: a4 :: some (.int (x + v)) :: r) st h sz k w) : GW G l Z R M pc (a0 :: a1 :: a2 :: a3 :: a4 :: some (.int x) :: r) st h sz k w := gw_iinc hd rfl kk
theorem gw_il6 {a0 a1 a2 a3 a4 a5 : Option Value} {r : List (Option Value)} {x : Int32} (hd : gIl M pc 6 pc') (kk : GW G l Z R M pc' (a0 :: a1 :: a2 :: a3 :: a4 :: a5 :: some (.int x) :: r) (.int x :: st) h sz k w) : GW G l Z R M pc (a0 :: a1 :: a2 :: a3 :: a4 :: a5 :: some (.int x) :: r) st h sz k w := gw_iload hd rfl kk
theorem gw_al6 {a0 a1 a2 a3 a4 a5 : Option Value} {r : List (Option Value)} {x : Nat} (hd : gAl M pc 6 pc') (kk : GW G l Z R M pc' (a0 :: a1 :: a2 :: a3 :: a4 :: a5 :: some (.ref x) :: r) (.ref x :: st) h sz k w) : GW G l Z R M pc (a0 :: a1 :: a2 :: a3 :: a4 :: a5 :: some (.ref x) :: r) st h sz k w := gw_aload hd rfl kk
theorem gw_is6 {a0 a1 a2 a3 a4 a5 : Option Value} {q : Option Value} {r : List (Option Value)} {x : Int32} (hd : gIs M pc 6 pc') (kk : GW G l Z R M pc' (a0 :: a1 :: a2 :: a3 :: a4 :: a5 :: some (.int x) :: r) st h sz k w) : GW G l Z R M pc (a0 :: a1 :: a2 :: a3 :: a4 :: a5 :: q :: r) (.int x :: st) h sz k w := gw_istore hd (by simp) kk
theorem gw_as6 {a0 a1 a2 a3 a4 a5 : Option Value} {q : Option Value} {r : List (Option Value)} {x : Nat} (hd : gAst M pc 6 pc') (kk : GW G l Z R M pc' (a0 :: a1 :: a2 :: a3 :: a4 :: a5 :: some (.ref x) :: r) st h sz k w) : GW G l Z R M pc (a0 :: a1 :: a2 :: a3 :: a4 :: a5 :: q :: r) (.ref x :: st) h sz k w := gw_astore hd (by simp) kk
theorem gw_ii6 {a0 a1 a2 a3 a4 a5 : Option Value} {r : List (Option Value)} {x v : Int32} (hd : gIc M pc 6 v pc') (kk : GW G l Z R M pc' (a0 :: a1 :: a2 :: a3 :: a4 :: a5 :: some (.int (x + v)) :: r) st h sz k w) : GW G l Z R M pc (a0 :: a1 :: a2 :: a3 :: a4 :: a5 :: some (.int x) :: r) st h sz k w := gw_iinc hd rfl kk
theorem gw_il7 {a0 a1 a2 a3 a4 a5 a6 : Option Value} {r : List (Option Value)} {x : Int32} (hd : gIl M pc 7 pc') (kk : GW G l Z R M pc' (a0 :: a1 :: a2 :: a3 :: a4 :: a5 :: a6 :: some (.int x) :: r) (.int x :: st) h sz k w) : GW G l Z R M pc (a0 :: a1 :: a2 :: a3 :: a4 :: a5 :: a6 :: some (.int x) :: r) st h sz k w := gw_iload hd rfl kk
theorem gw_al7 {a0 a1 a2 a3 a4 a5 a6 : Option Value} {r : List (Option Value)} {x : Nat} (hd : gAl M pc 7 pc') (kk : GW G l Z R M pc' (a0 :: a1 :: a2 :: a3 :: a4 :: a5 :: a6 :: some (.ref x) :: r) (.ref x :: st) h sz k w) : GW G l Z R M pc (a0 :: a1 :: a2 :: a3 :: a4 :: a5 :: a6 :: some (.ref x) :: r) st h sz k w := gw_aload hd rfl kk
theorem gw_is7 {a0 a1 a2 a3 a4 a5 a6 : Option Value} {q : Option Value} {r : List (Option Value)} {x : Int32} (hd : gIs M pc 7 pc') (kk : GW G l Z R M pc' (a0 :: a1 :: a2 :: a3 :: a4 :: a5 :: a6 :: some (.int x) :: r) st h sz k w) : GW G l Z R M pc (a0 :: a1 :: a2 :: a3 :: a4 :: a5 :: a6 :: q :: r) (.int x :: st) h sz k w := gw_istore hd (by simp) kk
theorem gw_as7 {a0 a1 a2 a3 a4 a5 a6 : Option Value} {q : Option Value} {r : List (Option Value)} {x : Nat} (hd : gAst M pc 7 pc') (kk : GW G l Z R M pc' (a0 :: a1 :: a2 :: a3 :: a4 :: a5 :: a6 :: some (.ref x) :: r) st h sz k w) : GW G l Z R M pc (a0 :: a1 :: a2 :: a3 :: a4 :: a5 :: a6 :: q :: r) (.ref x :: st) h sz k w := gw_astore hd (by simp) kk
theorem gw_ii7 {a0 a1 a2 a3 a4 a5 a6 : Option Value} {r : List (Option Value)} {x v : Int32} (hd : gIc M pc 7 v pc') (kk : GW G l Z R M pc' (a0 :: a1 :: a2 :: a3 :: a4 :: a5 :: a6 :: some (.int (x + v)) :: r) st h sz k w) : GW G l Z R M pc (a0 :: a1 :: a2 :: a3 :: a4 :: a5 :: a6 :: some (.int x) :: r) st h sz k w := gw_iinc hd rfl kk
theorem gw_il8 {a0 a1 a2 a3 a4 a5 a6 a7 : Option Value} {r : List (Option Value)} {x : Int32} (hd : gIl M pc 8 pc') (kk : GW G l Z R M pc' (a0 :: a1 :: a2 :: a3 :: a4 :: a5 :: a6 :: a7 :: some (.int x) :: r) (.int x :: st) h sz k w) : GW G l Z R M pc (a0 :: a1 :: a2 :: a3 :: a4 :: a5 :: a6 :: a7 :: some (.int x) :: r) st h sz k w := gw_iload hd rfl kk
theorem gw_al8 {a0 a1 a2 a3 a4 a5 a6 a7 : Option Value} {r : List (Option Value)} {x : Nat} (hd : gAl M pc 8 pc') (kk : GW G l Z R M pc' (a0 :: a1 :: a2 :: a3 :: a4 :: a5 :: a6 :: a7 :: some (.ref x) :: r) (.ref x :: st) h sz k w) : GW G l Z R M pc (a0 :: a1 :: a2 :: a3 :: a4 :: a5 :: a6 :: a7 :: some (.ref x) :: r) st h sz k w := gw_aload hd rfl kk
theorem gw_is8 {a0 a1 a2 a3 a4 a5 a6 a7 : Option Value} {q : Option Value} {r : List (Option Value)} {x : Int32} (hd : gIs M pc 8 pc') (kk : GW G l Z R M pc' (a0 :: a1 :: a2 :: a3 :: a4 :: a5 :: a6 :: a7 :: some (.int x) :: r) st h sz k w) : GW G l Z R M pc (a0 :: a1 :: a2 :: a3 :: a4 :: a5 :: a6 :: a7 :: q :: r) (.int x :: st) h sz k w := gw_istore hd (by simp) kk
theorem gw_as8 {a0 a1 a2 a3 a4 a5 a6 a7 : Option Value} {q : Option Value} {r : List (Option Value)} {x : Nat} (hd : gAst M pc 8 pc') (kk : GW G l Z R M pc' (a0 :: a1 :: a2 :: a3 :: a4 :: a5 :: a6 :: a7 :: some (.ref x) :: r) st h sz k w) : GW G l Z R M pc (a0 :: a1 :: a2 :: a3 :: a4 :: a5 :: a6 :: a7 :: q :: r) (.ref x :: st) h sz k w := gw_astore hd (by simp) kk
theorem gw_ii8 {a0 a1 a2 a3 a4 a5 a6 a7 : Option Value} {r : List (Option Value)} {x v : Int32} (hd : gIc M pc 8 v pc') (kk : GW G l Z R M pc' (a0 :: a1 :: a2 :: a3 :: a4 :: a5 :: a6 :: a7 :: some (.int (x + v)) :: r) st h sz k w) : GW G l Z R M pc (a0 :: a1 :: a2 :: a3 :: a4 :: a5 :: a6 :: a7 :: some (.int x) :: r) st h sz k w := gw_iinc hd rfl kk
theorem gw_il9 {a0 a1 a2 a3 a4 a5 a6 a7 a8 : Option Value} {r : List (Option Value)} {x : Int32} (hd : gIl M pc 9 pc') (kk : GW G l Z R M pc' (a0 :: a1 :: a2 :: a3 :: a4 :: a5 :: a6 :: a7 :: a8 :: some (.int x) :: r) (.int x :: st) h sz k w) : GW G l Z R M pc (a0 :: a1 :: a2 :: a3 :: a4 :: a5 :: a6 :: a7 :: a8 :: some (.int x) :: r) st h sz k w := gw_iload hd rfl kk
theorem gw_al9 {a0 a1 a2 a3 a4 a5 a6 a7 a8 : Option Value} {r : List (Option Value)} {x : Nat} (hd : gAl M pc 9 pc') (kk : GW G l Z R M pc' (a0 :: a1 :: a2 :: a3 :: a4 :: a5 :: a6 :: a7 :: a8 :: some (.ref x) :: r) (.ref x :: st) h sz k w) : GW G l Z R M pc (a0 :: a1 :: a2 :: a3 :: a4 :: a5 :: a6 :: a7 :: a8 :: some (.ref x) :: r) st h sz k w := gw_aload hd rfl kk
theorem gw_is9 {a0 a1 a2 a3 a4 a5 a6 a7 a8 : Option Value} {q : Option Value} {r : List (Option Value)} {x : Int32} (hd : gIs M pc 9 pc') (kk : GW G l Z R M pc' (a0 :: a1 :: a2 :: a3 :: a4 :: a5 :: a6 :: a7 :: a8 :: some (.int x) :: r) st h sz k w) : GW G l Z R M pc (a0 :: a1 :: a2 :: a3 :: a4 :: a5 :: a6 :: a7 :: a8 :: q :: r) (.int x :: st) h sz k w := gw_istore hd (by simp) kk
theorem gw_as9 {a0 a1 a2 a3 a4 a5 a6 a7 a8 : Option Value} {q : Option Value} {r : List (Option Value)} {x : Nat} (hd : gAst M pc 9 pc') (kk : GW G l Z R M pc' (a0 :: a1 :: a2 :: a3 :: a4 :: a5 :: a6 :: a7 :: a8 :: some (.ref x) :: r) st h sz k w) : GW G l Z R M pc (a0 :: a1 :: a2 :: a3 :: a4 :: a5 :: a6 :: a7 :: a8 :: q :: r) (.ref x :: st) h sz k w := gw_astore hd (by simp) kk
theorem gw_ii9 {a0 a1 a2 a3 a4 a5 a6 a7 a8 : Option Value} {r : List (Option Value)} {x v : Int32} (hd : gIc M pc 9 v pc') (kk : GW G l Z R M pc' (a0 :: a1 :: a2 :: a3 :: a4 :: a5 :: a6 :: a7 :: a8 :: some (.int (x + v)) :: r) st h sz k w) : GW G l Z R M pc (a0 :: a1 :: a2 :: a3 :: a4 :: a5 :: a6 :: a7 :: a8 :: some (.int x) :: r) st h sz k w := gw_iinc hd rfl kk
theorem gw_il10 {a0 a1 a2 a3 a4 a5 a6 a7 a8 a9 : Option Value} {r : List (Option Value)} {x : Int32} (hd : gIl M pc 10 pc') (kk : GW G l Z R M pc' (a0 :: a1 :: a2 :: a3 :: a4 :: a5 :: a6 :: a7 :: a8 :: a9 :: some (.int x) :: r) (.int x :: st) h sz k w) : GW G l Z R M pc (a0 :: a1 :: a2 :: a3 :: a4 :: a5 :: a6 :: a7 :: a8 :: a9 :: some (.int x) :: r) st h sz k w := gw_iload hd rfl kk
theorem gw_al10 {a0 a1 a2 a3 a4 a5 a6 a7 a8 a9 : Option Value} {r : List (Option Value)} {x : Nat} (hd : gAl M pc 10 pc') (kk : GW G l Z R M pc' (a0 :: a1 :: a2 :: a3 :: a4 :: a5 :: a6 :: a7 :: a8 :: a9 :: some (.ref x) :: r) (.ref x :: st) h sz k w) : GW G l Z R M pc (a0 :: a1 :: a2 :: a3 :: a4 :: a5 :: a6 :: a7 :: a8 :: a9 :: some (.ref x) :: r) st h sz k w := gw_aload hd rfl kk
theorem gw_is10 {a0 a1 a2 a3 a4 a5 a6 a7 a8 a9 : Option Value} {q : Option Value} {r : List (Option Value)} {x : Int32} (hd : gIs M pc 10 pc') (kk : GW G l Z R M pc' (a0 :: a1 :: a2 :: a3 :: a4 :: a5 :: a6 :: a7 :: a8 :: a9 :: some (.int x) :: r) st h sz k w) : GW G l Z R M pc (a0 :: a1 :: a2 :: a3 :: a4 :: a5 :: a6 :: a7 :: a8 :: a9 :: q :: r) (.int x :: st) h sz k w := gw_istore hd (by simp) kk
theorem gw_as10 {a0 a1 a2 a3 a4 a5 a6 a7 a8 a9 : Option Value} {q : Option Value} {r : List (Option Value)} {x : Nat} (hd : gAst M pc 10 pc') (kk : GW G l Z R M pc' (a0 :: a1 :: a2 :: a3 :: a4 :: a5 :: a6 :: a7 :: a8 :: a9 :: some (.ref x) :: r) st h sz k w) : GW G l Z R M pc (a0 :: a1 :: a2 :: a3 :: a4 :: a5 :: a6 :: a7 :: a8 :: a9 :: q :: r) (.ref x :: st) h sz k w := gw_astore hd (by simp) kk
theorem gw_ii10 {a0 a1 a2 a3 a4 a5 a6 a7 a8 a9 : Option Value} {r : List (Option Value)} {x v : Int32} (hd : gIc M pc 10 v pc') (kk : GW G l Z R M pc' (a0 :: a1 :: a2 :: a3 :: a4 :: a5 :: a6 :: a7 :: a8 :: a9 :: some (.int (x + v)) :: r) st h sz k w) : GW G l Z R M pc (a0 :: a1 :: a2 :: a3 :: a4 :: a5 :: a6 :: a7 :: a8 :: a9 :: some (.int x) :: r) st h sz k w := gw_iinc hd rfl kk
theorem gw_il11 {a0 a1 a2 a3 a4 a5 a6 a7 a8 a9 a10 : Option Value} {r : List (Option Value)} {x : Int32} (hd : gIl M pc 11 pc') (kk : GW G l Z R M pc' (a0 :: a1 :: a2 :: a3 :: a4 :: a5 :: a6 :: a7 :: a8 :: a9 :: a10 :: some (.int x) :: r) (.int x :: st) h sz k w) : GW G l Z R M pc (a0 :: a1 :: a2 :: a3 :: a4 :: a5 :: a6 :: a7 :: a8 :: a9 :: a10 :: some (.int x) :: r) st h sz k w := gw_iload hd rfl kk
theorem gw_al11 {a0 a1 a2 a3 a4 a5 a6 a7 a8 a9 a10 : Option Value} {r : List (Option Value)} {x : Nat} (hd : gAl M pc 11 pc') (kk : GW G l Z R M pc' (a0 :: a1 :: a2 :: a3 :: a4 :: a5 :: a6 :: a7 :: a8 :: a9 :: a10 :: some (.ref x) :: r) (.ref x :: st) h sz k w) : GW G l Z R M pc (a0 :: a1 :: a2 :: a3 :: a4 :: a5 :: a6 :: a7 :: a8 :: a9 :: a10 :: some (.ref x) :: r) st h sz k w := gw_aload hd rfl kk
theorem gw_is11 {a0 a1 a2 a3 a4 a5 a6 a7 a8 a9 a10 : Option Value} {q : Option Value} {r : List (Option Value)} {x : Int32} (hd : gIs M pc 11 pc') (kk : GW G l Z R M pc' (a0 :: a1 :: a2 :: a3 :: a4 :: a5 :: a6 :: a7 :: a8 :: a9 :: a10 :: some (.int x) :: r) st h sz k w) : GW G l Z R M pc (a0 :: a1 :: a2 :: a3 :: a4 :: a5 :: a6 :: a7 :: a8 :: a9 :: a10 :: q :: r) (.int x :: st) h sz k w := gw_istore hd (by simp) kk
theorem gw_as11 {a0 a1 a2 a3 a4 a5 a6 a7 a8 a9 a10 : Option Value} {q : Option Value} {r : List (Option Value)} {x : Nat} (hd : gAst M pc 11 pc') (kk : GW G l Z R M pc' (a0 :: a1 :: a2 :: a3 :: a4 :: a5 :: a6 :: a7 :: a8 :: a9 :: a10 :: some (.ref x) :: r) st h sz k w) : GW G l Z R M pc (a0 :: a1 :: a2 :: a3 :: a4 :: a5 :: a6 :: a7 :: a8 :: a9 :: a10 :: q :: r) (.ref x :: st) h sz k w := gw_astore hd (by simp) kk
theorem gw_ii11 {a0 a1 a2 a3 a4 a5 a6 a7 a8 a9 a10 : Option Value} {r : List (Option Value)} {x v : Int32} (hd : gIc M pc 11 v pc') (kk : GW G l Z R M pc' (a0 :: a1 :: a2 :: a3 :: a4 :: a5 :: a6 :: a7 :: a8 :: a9 :: a10 :: some (.int (x + v)) :: r) st h sz k w) : GW G l Z R M pc (a0 :: a1 :: a2 :: a3 :: a4 :: a5 :: a6 :: a7 :: a8 :: a9 :: a10 :: some (.int x) :: r) st h sz k w := gw_iinc hd rfl kk
theorem gw_il12 {a0 a1 a2 a3 a4 a5 a6 a7 a8 a9 a10 a11 : Option Value} {r : List (Option Value)} {x : Int32} (hd : gIl M pc 12 pc') (kk : GW G l Z R M pc' (a0 :: a1 :: a2 :: a3 :: a4 :: a5 :: a6 :: a7 :: a8 :: a9 :: a10 :: a11 :: some (.int x) :: r) (.int x :: st) h sz k w) : GW G l Z R M pc (a0 :: a1 :: a2 :: a3 :: a4 :: a5 :: a6 :: a7 :: a8 :: a9 :: a10 :: a11 :: some (.int x) :: r) st h sz k w := gw_iload hd rfl kk
theorem gw_al12 {a0 a1 a2 a3 a4 a5 a6 a7 a8 a9 a10 a11 : Option Value} {r : List (Option Value)} {x : Nat} (hd : gAl M pc 12 pc') (kk : GW G l Z R M pc' (a0 :: a1 :: a2 :: a3 :: a4 :: a5 :: a6 :: a7 :: a8 :: a9 :: a10 :: a11 :: some (.ref x) :: r) (.ref x :: st) h sz k w) : GW G l Z R M pc (a0 :: a1 :: a2 :: a3 :: a4 :: a5 :: a6 :: a7 :: a8 :: a9 :: a10 :: a11 :: some (.ref x) :: r) st h sz k w := gw_aload hd rfl kk
theorem gw_is12 {a0 a1 a2 a3 a4 a5 a6 a7 a8 a9 a10 a11 : Option Value} {q : Option Value} {r : List (Option Value)} {x : Int32} (hd : gIs M pc 12 pc') (kk : GW G l Z R M pc' (a0 :: a1 :: a2 :: a3 :: a4 :: a5 :: a6 :: a7 :: a8 :: a9 :: a10 :: a11 :: some (.int x) :: r) st h sz k w) : GW G l Z R M pc (a0 :: a1 :: a2 :: a3 :: a4 :: a5 :: a6 :: a7 :: a8 :: a9 :: a10 :: a11 :: q :: r) (.int x :: st) h sz k w := gw_istore hd (by simp) kk
theorem gw_as12 {a0 a1 a2 a3 a4 a5 a6 a7 a8 a9 a10 a11 : Option Value} {q : Option Value} {r : List (Option Value)} {x : Nat} (hd : gAst M pc 12 pc') (kk : GW G l Z R M pc' (a0 :: a1 :: a2 :: a3 :: a4 :: a5 :: a6 :: a7 :: a8 :: a9 :: a10 :: a11 :: some (.ref x) :: r) st h sz k w) : GW G l Z R M pc (a0 :: a1 :: a2 :: a3 :: a4 :: a5 :: a6 :: a7 :: a8 :: a9 :: a10 :: a11 :: q :: r) (.ref x :: st) h sz k w := gw_astore hd (by simp) kk
theorem gw_ii12 {a0 a1 a2 a3 a4 a5 a6 a7 a8 a9 a10 a11 : Option Value} {r : List (Option Value)} {x v : Int32} (hd : gIc M pc 12 v pc') (kk : GW G l Z R M pc' (a0 :: a1 :: a2 :: a3 :: a4 :: a5 :: a6 :: a7 :: a8 :: a9 :: a10 :: a11 :: some (.int (x + v)) :: r) st h sz k w) : GW G l Z R M pc (a0 :: a1 :: a2 :: a3 :: a4 :: a5 :: a6 :: a7 :: a8 :: a9 :: a10 :: a11 :: some (.int x) :: r) st h sz k w := gw_iinc hd rfl kk
theorem gw_pf0 {a ci : Nat} {q v : Value} {r : List Value} {ty : FieldType} (hd : gPf M pc ci 0 ty pc') (ha : h a = some (gO ci (q :: r))) (hn : narrow ty v = v) (hf : fits ty v = true) (kk : GW G l Z R M pc' lv st (gUp h a (gO ci (v :: r))) sz k w) : GW G l Z R M pc lv (v :: .ref a :: st) h sz k w := gw_put hd ha (by simp) hn hf kk
theorem gw_pf1 {a ci : Nat} {a0 : Value} {q v : Value} {r : List Value} {ty : FieldType} (hd : gPf M pc ci 1 ty pc') (ha : h a = some (gO ci (a0 :: q :: r))) (hn : narrow ty v = v) (hf : fits ty v = true) (kk : GW G l Z R M pc' lv st (gUp h a (gO ci (a0 :: v :: r))) sz k w) : GW G l Z R M pc lv (v :: .ref a :: st) h sz k w := gw_put hd ha (by simp) hn hf kk
theorem gw_pf2 {a ci : Nat} {a0 a1 : Value} {q v : Value} {r : List Value} {ty : FieldType} (hd : gPf M pc ci 2 ty pc') (ha : h a = some (gO ci (a0 :: a1 :: q :: r))) (hn : narrow ty v = v) (hf : fits ty v = true) (kk : GW G l Z R M pc' lv st (gUp h a (gO ci (a0 :: a1 :: v :: r))) sz k w) : GW G l Z R M pc lv (v :: .ref a :: st) h sz k w := gw_put hd ha (by simp) hn hf kk
theorem gw_pf3 {a ci : Nat} {a0 a1 a2 : Value} {q v : Value} {r : List Value} {ty : FieldType} (hd : gPf M pc ci 3 ty pc') (ha : h a = some (gO ci (a0 :: a1 :: a2 :: q :: r))) (hn : narrow ty v = v) (hf : fits ty v = true) (kk : GW G l Z R M pc' lv st (gUp h a (gO ci (a0 :: a1 :: a2 :: v :: r))) sz k w) : GW G l Z R M pc lv (v :: .ref a :: st) h sz k w := gw_put hd ha (by simp) hn hf kk
theorem gw_pf4 {a ci : Nat} {a0 a1 a2 a3 : Value} {q v : Value} {r : List Value} {ty : FieldType} (hd : gPf M pc ci 4 ty pc') (ha : h a = some (gO ci (a0 :: a1 :: a2 :: a3 :: q :: r))) (hn : narrow ty v = v) (hf : fits ty v = true) (kk : GW G l Z R M pc' lv st (gUp h a (gO ci (a0 :: a1 :: a2 :: a3 :: v :: r))) sz k w) : GW G l Z R M pc lv (v :: .ref a :: st) h sz k w := gw_put hd ha (by simp) hn hf kk
theorem gw_pf5 {a ci : Nat} {a0 a1 a2 a3 a4 : Value} {q v : Value} {r : List Value} {ty : FieldType} (hd : gPf M pc ci 5 ty pc') (ha : h a = some (gO ci (a0 :: a1 :: a2 :: a3 :: a4 :: q :: r))) (hn : narrow ty v = v) (hf : fits ty v = true) (kk : GW G l Z R M pc' lv st (gUp h a (gO ci (a0 :: a1 :: a2 :: a3 :: a4 :: v :: r))) sz k w) : GW G l Z R M pc lv (v :: .ref a :: st) h sz k w := gw_put hd ha (by simp) hn hf kk
theorem gw_pf6 {a ci : Nat} {a0 a1 a2 a3 a4 a5 : Value} {q v : Value} {r : List Value} {ty : FieldType} (hd : gPf M pc ci 6 ty pc') (ha : h a = some (gO ci (a0 :: a1 :: a2 :: a3 :: a4 :: a5 :: q :: r))) (hn : narrow ty v = v) (hf : fits ty v = true) (kk : GW G l Z R M pc' lv st (gUp h a (gO ci (a0 :: a1 :: a2 :: a3 :: a4 :: a5 :: v :: r))) sz k w) : GW G l Z R M pc lv (v :: .ref a :: st) h sz k w := gw_put hd ha (by simp) hn hf kk
theorem gw_pf7 {a ci : Nat} {a0 a1 a2 a3 a4 a5 a6 : Value} {q v : Value} {r : List Value} {ty : FieldType} (hd : gPf M pc ci 7 ty pc') (ha : h a = some (gO ci (a0 :: a1 :: a2 :: a3 :: a4 :: a5 :: a6 :: q :: r))) (hn : narrow ty v = v) (hf : fits ty v = true) (kk : GW G l Z R M pc' lv st (gUp h a (gO ci (a0 :: a1 :: a2 :: a3 :: a4 :: a5 :: a6 :: v :: r))) sz k w) : GW G l Z R M pc lv (v :: .ref a :: st) h sz k w := gw_put hd ha (by simp) hn hf kk
theorem gw_pf8 {a ci : Nat} {a0 a1 a2 a3 a4 a5 a6 a7 : Value} {q v : Value} {r : List Value} {ty : FieldType} (hd : gPf M pc ci 8 ty pc') (ha : h a = some (gO ci (a0 :: a1 :: a2 :: a3 :: a4 :: a5 :: a6 :: a7 :: q :: r))) (hn : narrow ty v = v) (hf : fits ty v = true) (kk : GW G l Z R M pc' lv st (gUp h a (gO ci (a0 :: a1 :: a2 :: a3 :: a4 :: a5 :: a6 :: a7 :: v :: r))) sz k w) : GW G l Z R M pc lv (v :: .ref a :: st) h sz k w := gw_put hd ha (by simp) hn hf kk
theorem gw_pf9 {a ci : Nat} {a0 a1 a2 a3 a4 a5 a6 a7 a8 : Value} {q v : Value} {r : List Value} {ty : FieldType} (hd : gPf M pc ci 9 ty pc') (ha : h a = some (gO ci (a0 :: a1 :: a2 :: a3 :: a4 :: a5 :: a6 :: a7 :: a8 :: q :: r))) (hn : narrow ty v = v) (hf : fits ty v = true) (kk : GW G l Z R M pc' lv st (gUp h a (gO ci (a0 :: a1 :: a2 :: a3 :: a4 :: a5 :: a6 :: a7 :: a8 :: v :: r))) sz k w) : GW G l Z R M pc lv (v :: .ref a :: st) h sz k w := gw_put hd ha (by simp) hn hf kk
theorem gw_pf10 {a ci : Nat} {a0 a1 a2 a3 a4 a5 a6 a7 a8 a9 : Value} {q v : Value} {r : List Value} {ty : FieldType} (hd : gPf M pc ci 10 ty pc') (ha : h a = some (gO ci (a0 :: a1 :: a2 :: a3 :: a4 :: a5 :: a6 :: a7 :: a8 :: a9 :: q :: r))) (hn : narrow ty v = v) (hf : fits ty v = true) (kk : GW G l Z R M pc' lv st (gUp h a (gO ci (a0 :: a1 :: a2 :: a3 :: a4 :: a5 :: a6 :: a7 :: a8 :: a9 :: v :: r))) sz k w) : GW G l Z R M pc lv (v :: .ref a :: st) h sz k w := gw_put hd ha (by simp) hn hf kk
theorem gw_pf11 {a ci : Nat} {a0 a1 a2 a3 a4 a5 a6 a7 a8 a9 a10 : Value} {q v : Value} {r : List Value} {ty : FieldType} (hd : gPf M pc ci 11 ty pc') (ha : h a = some (gO ci (a0 :: a1 :: a2 :: a3 :: a4 :: a5 :: a6 :: a7 :: a8 :: a9 :: a10 :: q :: r))) (hn : narrow ty v = v) (hf : fits ty v = true) (kk : GW G l Z R M pc' lv st (gUp h a (gO ci (a0 :: a1 :: a2 :: a3 :: a4 :: a5 :: a6 :: a7 :: a8 :: a9 :: a10 :: v :: r))) sz k w) : GW G l Z R M pc lv (v :: .ref a :: st) h sz k w := gw_put hd ha (by simp) hn hf kk
/-- the answer is v, nothing has changed -/
def qR (v : Value) (h : gHp) (sz : Nat) : gRs → gHp → Nat → Prop := fun r h' sz' => r = .inl (some v) ∧ h' = h ∧ sz' = sz
/-- no answer; what holds then -/
def qV (P : gHp → Nat → Prop) : gRs → gHp → Nat → Prop := fun r h' sz' => r = .inl none ∧ P h' sz'
theorem gw_cV0 {b ci idx d mc ms : Nat} {y : MethodName} {M' : gM} {fs : List Value} {Q : gRs → gHp → Nat → Prop} (hd : gD M pc (.invokevirtual idx) 3 pc') (hc : gClV M idx ci y M' 0) (hb : h b = some (gO ci fs)) (hM : SM G l d y M' (.ref b :: []) h sz mc ms Q) (kr : ∀ v h' sz', Q (.inl v) h' sz' → sz ≤ sz' → GW G l Z R M pc' lv (v.toList ++ st) h' sz' (k + mc) (w + ms)) (kx : ∀ E h' sz', Q (.inr E) h' sz' → sz ≤ sz' → GX G l Z R M pc lv st h' sz' (k + mc) (w + ms) E) (hsum : (st.map fun v => v.category).sum ≤ 8 := by exact Nat.le_of_ble_eq_true rfl) (hR : gRm R d M' := by exact ⟨by decide, by decide⟩) (hcs : k + mc ≤ R.cells := by exact Nat.le_of_ble_eq_true rfl) (hss : w + ms ≤ R.slots := by exact Nat.le_of_ble_eq_true rfl) : GW G l Z R M pc lv (.ref b :: st) h sz k w := gw_callV (As := []) hd hc hb rfl rfl hsum hR hcs hss hM kr kx
theorem gw_rV0 {b ci idx d : Nat} {y : MethodName} {M' : gM} {fs : List Value} {v : Value} (hd : gD M pc (.invokevirtual idx) 3 pc') (hc : gClV M idx ci y M' 0) (hb : h b = some (gO ci fs)) (hM : SM G l d y M' (.ref b :: []) h sz 0 0 (qR v h sz)) (kk : GW G l Z R M pc' lv (v :: st) h sz k w) (hsum : (st.map fun v => v.category).sum ≤ 8 := by exact Nat.le_of_ble_eq_true rfl) (hR : gRm R d M' := by exact ⟨by decide, by decide⟩) (hcs : k ≤ R.cells := by exact Nat.le_of_ble_eq_true rfl) (hss : w ≤ R.slots := by exact Nat.le_of_ble_eq_true rfl) : GW G l Z R M pc lv (.ref b :: st) h sz k w := gw_callV (As := []) hd hc hb rfl rfl hsum hR hcs hss hM (fun v9 h9 s9 q _ => by obtain ⟨q1, rfl, rfl⟩ := q; cases q1; exact kk) (fun E h9 s9 q _ => by cases q.1)
theorem gw_cI0 {b idx d mc ms : Nat} {y : MethodName} {M' : gM} {P : gHp → Nat → Prop} (hd : gD M pc (.invokespecial idx) 3 pc') (hc : gClI M idx y M' 0) (hM : SM G l d y M' (.ref b :: []) h sz mc ms (qV P)) (kr : ∀ h' sz', P h' sz' → sz ≤ sz' → GW G l Z R M pc' lv st h' sz' (k + mc) (w + ms)) (hsum : (st.map fun v => v.category).sum ≤ 8 := by exact Nat.le_of_ble_eq_true rfl) (hR : gRm R d M' := by exact ⟨by decide, by decide⟩) (hcs : k + mc ≤ R.cells := by exact Nat.le_of_ble_eq_true rfl) (hss : w + ms ≤ R.slots := by exact Nat.le_of_ble_eq_true rfl) : GW G l Z R M pc lv (.ref b :: st) h sz k w := gw_callI (As := []) hd hc rfl rfl hsum hR hcs hss hM (fun E h9 s9 q => by cases q.1) (fun v9 h9 s9 q hz => by obtain ⟨q1, q2⟩ := q; cases q1; exact kr h9 s9 q2 hz)
theorem gw_cS0 {idx d mc ms : Nat} {y : MethodName} {M' : gM} {Q : gRs → gHp → Nat → Prop} (hd : gD M pc (.invokestatic idx) 3 pc') (hc : gClS M idx y M' 0) (hM : SM G l d y M' [] h sz mc ms Q) (kr : ∀ v h' sz', Q (.inl v) h' sz' → sz ≤ sz' → GW G l Z R M pc' lv (v.toList ++ st) h' sz' (k + mc) (w + ms)) (kx : ∀ E h' sz', Q (.inr E) h' sz' → sz ≤ sz' → GX G l Z R M pc lv st h' sz' (k + mc) (w + ms) E) (hsum : (st.map fun v => v.category).sum ≤ 8 := by exact Nat.le_of_ble_eq_true rfl) (hR : gRm R d M' := by exact ⟨by decide, by decide⟩) (hcs : k + mc ≤ R.cells := by exact Nat.le_of_ble_eq_true rfl) (hss : w + ms ≤ R.slots := by exact Nat.le_of_ble_eq_true rfl) : GW G l Z R M pc lv (st) h sz k w := gw_callS (As := []) hd hc rfl rfl hsum hR hcs hss hM kr kx
theorem gw_rS0 {idx d : Nat} {y : MethodName} {M' : gM} {v : Value} (hd : gD M pc (.invokestatic idx) 3 pc') (hc : gClS M idx y M' 0) (hM : SM G l d y M' [] h sz 0 0 (qR v h sz)) (kk : GW G l Z R M pc' lv (v :: st) h sz k w) (hsum : (st.map fun v => v.category).sum ≤ 8 := by exact Nat.le_of_ble_eq_true rfl) (hR : gRm R d M' := by exact ⟨by decide, by decide⟩) (hcs : k ≤ R.cells := by exact Nat.le_of_ble_eq_true rfl) (hss : w ≤ R.slots := by exact Nat.le_of_ble_eq_true rfl) : GW G l Z R M pc lv (st) h sz k w := gw_callS (As := []) hd hc rfl rfl hsum hR hcs hss hM (fun v9 h9 s9 q _ => by obtain ⟨q1, rfl, rfl⟩ := q; cases q1; exact kk) (fun E h9 s9 q _ => by cases q.1)
theorem gw_cV1 {b ci idx d mc ms : Nat} {y : MethodName} {M' : gM} {fs : List Value} {v0 : Value} {Q : gRs → gHp → Nat → Prop} (hd : gD M pc (.invokevirtual idx) 3 pc') (hc : gClV M idx ci y M' 1) (hb : h b = some (gO ci fs)) (hM : SM G l d y M' (.ref b :: [v0]) h sz mc ms Q) (kr : ∀ v h' sz', Q (.inl v) h' sz' → sz ≤ sz' → GW G l Z R M pc' lv (v.toList ++ st) h' sz' (k + mc) (w + ms)) (kx : ∀ E h' sz', Q (.inr E) h' sz' → sz ≤ sz' → GX G l Z R M pc lv st h' sz' (k + mc) (w + ms) E) (hsum : (st.map fun v => v.category).sum ≤ 8 := by exact Nat.le_of_ble_eq_true rfl) (hR : gRm R d M' := by exact ⟨by decide, by decide⟩) (hcs : k + mc ≤ R.cells := by exact Nat.le_of_ble_eq_true rfl) (hss : w + ms ≤ R.slots := by exact Nat.le_of_ble_eq_true rfl) : GW G l Z R M pc lv (v0 :: .ref b :: st) h sz k w := gw_callV (As := [v0]) hd hc hb rfl rfl hsum hR hcs hss hM kr kx
theorem gw_rV1 {b ci idx d : Nat} {y : MethodName} {M' : gM} {fs : List Value} {v : Value} {v0 : Value} (hd : gD M pc (.invokevirtual idx) 3 pc') (hc : gClV M idx ci y M' 1) (hb : h b = some (gO ci fs)) (hM : SM G l d y M' (.ref b :: [v0]) h sz 0 0 (qR v h sz)) (kk : GW G l Z R M pc' lv (v :: st) h sz k w) (hsum : (st.map fun v => v.category).sum ≤ 8 := by exact Nat.le_of_ble_eq_true rfl) (hR : gRm R d M' := by exact ⟨by decide, by decide⟩) (hcs : k ≤ R.cells := by exact Nat.le_of_ble_eq_true rfl) (hss : w ≤ R.slots := by exact Nat.le_of_ble_eq_true rfl) : GW G l Z R M pc lv (v0 :: .ref b :: st) h sz k w := gw_callV (As := [v0]) hd hc hb rfl rfl hsum hR hcs hss hM (fun v9 h9 s9 q _ => by obtain ⟨q1, rfl, rfl⟩ := q; cases q1; exact kk) (fun E h9 s9 q _ => by cases q.1)
theorem gw_cI1 {b idx d mc ms : Nat} {y : MethodName} {M' : gM} {v0 : Value} {P : gHp → Nat → Prop} (hd : gD M pc (.invokespecial idx) 3 pc') (hc : gClI M idx y M' 1) (hM : SM G l d y M' (.ref b :: [v0]) h sz mc ms (qV P)) (kr : ∀ h' sz', P h' sz' → sz ≤ sz' → GW G l Z R M pc' lv st h' sz' (k + mc) (w + ms)) (hsum : (st.map fun v => v.category).sum ≤ 8 := by exact Nat.le_of_ble_eq_true rfl) (hR : gRm R d M' := by exact ⟨by decide, by decide⟩) (hcs : k + mc ≤ R.cells := by exact Nat.le_of_ble_eq_true rfl) (hss : w + ms ≤ R.slots := by exact Nat.le_of_ble_eq_true rfl) : GW G l Z R M pc lv (v0 :: .ref b :: st) h sz k w := gw_callI (As := [v0]) hd hc rfl rfl hsum hR hcs hss hM (fun E h9 s9 q => by cases q.1) (fun v9 h9 s9 q hz => by obtain ⟨q1, q2⟩ := q; cases q1; exact kr h9 s9 q2 hz)
theorem gw_cS1 {idx d mc ms : Nat} {y : MethodName} {M' : gM} {v0 : Value} {Q : gRs → gHp → Nat → Prop} (hd : gD M pc (.invokestatic idx) 3 pc') (hc : gClS M idx y M' 1) (hM : SM G l d y M' [v0] h sz mc ms Q) (kr : ∀ v h' sz', Q (.inl v) h' sz' → sz ≤ sz' → GW G l Z R M pc' lv (v.toList ++ st) h' sz' (k + mc) (w + ms)) (kx : ∀ E h' sz', Q (.inr E) h' sz' → sz ≤ sz' → GX G l Z R M pc lv st h' sz' (k + mc) (w + ms) E) (hsum : (st.map fun v => v.category).sum ≤ 8 := by exact Nat.le_of_ble_eq_true rfl) (hR : gRm R d M' := by exact ⟨by decide, by decide⟩) (hcs : k + mc ≤ R.cells := by exact Nat.le_of_ble_eq_true rfl) (hss : w + ms ≤ R.slots := by exact Nat.le_of_ble_eq_true rfl) : GW G l Z R M pc lv (v0 :: st) h sz k w := gw_callS (As := [v0]) hd hc rfl rfl hsum hR hcs hss hM kr kx
theorem gw_rS1 {idx d : Nat} {y : MethodName} {M' : gM} {v : Value} {v0 : Value} (hd : gD M pc (.invokestatic idx) 3 pc') (hc : gClS M idx y M' 1) (hM : SM G l d y M' [v0] h sz 0 0 (qR v h sz)) (kk : GW G l Z R M pc' lv (v :: st) h sz k w) (hsum : (st.map fun v => v.category).sum ≤ 8 := by exact Nat.le_of_ble_eq_true rfl) (hR : gRm R d M' := by exact ⟨by decide, by decide⟩) (hcs : k ≤ R.cells := by exact Nat.le_of_ble_eq_true rfl) (hss : w ≤ R.slots := by exact Nat.le_of_ble_eq_true rfl) : GW G l Z R M pc lv (v0 :: st) h sz k w := gw_callS (As := [v0]) hd hc rfl rfl hsum hR hcs hss hM (fun v9 h9 s9 q _ => by obtain ⟨q1, rfl, rfl⟩ := q; cases q1; exact kk) (fun E h9 s9 q _ => by cases q.1)
theorem gw_cV2 {b ci idx d mc ms : Nat} {y : MethodName} {M' : gM} {fs : List Value} {v0 v1 : Value} {Q : gRs → gHp → Nat → Prop} (hd : gD M pc (.invokevirtual idx) 3 pc') (hc : gClV M idx ci y M' 2) (hb : h b = some (gO ci fs)) (hM : SM G l d y M' (.ref b :: [v0, v1]) h sz mc ms Q) (kr : ∀ v h' sz', Q (.inl v) h' sz' → sz ≤ sz' → GW G l Z R M pc' lv (v.toList ++ st) h' sz' (k + mc) (w + ms)) (kx : ∀ E h' sz', Q (.inr E) h' sz' → sz ≤ sz' → GX G l Z R M pc lv st h' sz' (k + mc) (w + ms) E) (hsum : (st.map fun v => v.category).sum ≤ 8 := by exact Nat.le_of_ble_eq_true rfl) (hR : gRm R d M' := by exact ⟨by decide, by decide⟩) (hcs : k + mc ≤ R.cells := by exact Nat.le_of_ble_eq_true rfl) (hss : w + ms ≤ R.slots := by exact Nat.le_of_ble_eq_true rfl) : GW G l Z R M pc lv (v1 :: v0 :: .ref b :: st) h sz k w := gw_callV (As := [v0, v1]) hd hc hb rfl rfl hsum hR hcs hss hM kr kx
theorem gw_rV2 {b ci idx d : Nat} {y : MethodName} {M' : gM} {fs : List Value} {v : Value} {v0 v1 : Value} (hd : gD M pc (.invokevirtual idx) 3 pc') (hc : gClV M idx ci y M' 2) (hb : h b = some (gO ci fs)) (hM : SM G l d y M' (.ref b :: [v0, v1]) h sz 0 0 (qR v h sz)) (kk : GW G l Z R M pc' lv (v :: st) h sz k w) (hsum : (st.map fun v => v.category).sum ≤ 8 := by exact Nat.le_of_ble_eq_true rfl) (hR : gRm R d M' := by exact ⟨by decide, by decide⟩) (hcs : k ≤ R.cells := by exact Nat.le_of_ble_eq_true rfl) (hss : w ≤ R.slots := by exact Nat.le_of_ble_eq_true rfl) : GW G l Z R M pc lv (v1 :: v0 :: .ref b :: st) h sz k w := gw_callV (As := [v0, v1]) hd hc hb rfl rfl hsum hR hcs hss hM (fun v9 h9 s9 q _ => by obtain ⟨q1, rfl, rfl⟩ := q; cases q1; exact kk) (fun E h9 s9 q _ => by cases q.1)
theorem gw_cI2 {b idx d mc ms : Nat} {y : MethodName} {M' : gM} {v0 v1 : Value} {P : gHp → Nat → Prop} (hd : gD M pc (.invokespecial idx) 3 pc') (hc : gClI M idx y M' 2) (hM : SM G l d y M' (.ref b :: [v0, v1]) h sz mc ms (qV P)) (kr : ∀ h' sz', P h' sz' → sz ≤ sz' → GW G l Z R M pc' lv st h' sz' (k + mc) (w + ms)) (hsum : (st.map fun v => v.category).sum ≤ 8 := by exact Nat.le_of_ble_eq_true rfl) (hR : gRm R d M' := by exact ⟨by decide, by decide⟩) (hcs : k + mc ≤ R.cells := by exact Nat.le_of_ble_eq_true rfl) (hss : w + ms ≤ R.slots := by exact Nat.le_of_ble_eq_true rfl) : GW G l Z R M pc lv (v1 :: v0 :: .ref b :: st) h sz k w := gw_callI (As := [v0, v1]) hd hc rfl rfl hsum hR hcs hss hM (fun E h9 s9 q => by cases q.1) (fun v9 h9 s9 q hz => by obtain ⟨q1, q2⟩ := q; cases q1; exact kr h9 s9 q2 hz)
theorem gw_cS2 {idx d mc ms : Nat} {y : MethodName} {M' : gM} {v0 v1 : Value} {Q : gRs → gHp → Nat → Prop} (hd : gD M pc (.invokestatic idx) 3 pc') (hc : gClS M idx y M' 2) (hM : SM G l d y M' [v0, v1] h sz mc ms Q) (kr : ∀ v h' sz', Q (.inl v) h' sz' → sz ≤ sz' → GW G l Z R M pc' lv (v.toList ++ st) h' sz' (k + mc) (w + ms)) (kx : ∀ E h' sz', Q (.inr E) h' sz' → sz ≤ sz' → GX G l Z R M pc lv st h' sz' (k + mc) (w + ms) E) (hsum : (st.map fun v => v.category).sum ≤ 8 := by exact Nat.le_of_ble_eq_true rfl) (hR : gRm R d M' := by exact ⟨by decide, by decide⟩) (hcs : k + mc ≤ R.cells := by exact Nat.le_of_ble_eq_true rfl) (hss : w + ms ≤ R.slots := by exact Nat.le_of_ble_eq_true rfl) : GW G l Z R M pc lv (v1 :: v0 :: st) h sz k w := gw_callS (As := [v0, v1]) hd hc rfl rfl hsum hR hcs hss hM kr kx
theorem gw_rS2 {idx d : Nat} {y : MethodName} {M' : gM} {v : Value} {v0 v1 : Value} (hd : gD M pc (.invokestatic idx) 3 pc') (hc : gClS M idx y M' 2) (hM : SM G l d y M' [v0, v1] h sz 0 0 (qR v h sz)) (kk : GW G l Z R M pc' lv (v :: st) h sz k w) (hsum : (st.map fun v => v.category).sum ≤ 8 := by exact Nat.le_of_ble_eq_true rfl) (hR : gRm R d M' := by exact ⟨by decide, by decide⟩) (hcs : k ≤ R.cells := by exact Nat.le_of_ble_eq_true rfl) (hss : w ≤ R.slots := by exact Nat.le_of_ble_eq_true rfl) : GW G l Z R M pc lv (v1 :: v0 :: st) h sz k w := gw_callS (As := [v0, v1]) hd hc rfl rfl hsum hR hcs hss hM (fun v9 h9 s9 q _ => by obtain ⟨q1, rfl, rfl⟩ := q; cases q1; exact kk) (fun E h9 s9 q _ => by cases q.1)
theorem gw_cV3 {b ci idx d mc ms : Nat} {y : MethodName} {M' : gM} {fs : List Value} {v0 v1 v2 : Value} {Q : gRs → gHp → Nat → Prop} (hd : gD M pc (.invokevirtual idx) 3 pc') (hc : gClV M idx ci y M' 3) (hb : h b = some (gO ci fs)) (hM : SM G l d y M' (.ref b :: [v0, v1, v2]) h sz mc ms Q) (kr : ∀ v h' sz', Q (.inl v) h' sz' → sz ≤ sz' → GW G l Z R M pc' lv (v.toList ++ st) h' sz' (k + mc) (w + ms)) (kx : ∀ E h' sz', Q (.inr E) h' sz' → sz ≤ sz' → GX G l Z R M pc lv st h' sz' (k + mc) (w + ms) E) (hsum : (st.map fun v => v.category).sum ≤ 8 := by exact Nat.le_of_ble_eq_true rfl) (hR : gRm R d M' := by exact ⟨by decide, by decide⟩) (hcs : k + mc ≤ R.cells := by exact Nat.le_of_ble_eq_true rfl) (hss : w + ms ≤ R.slots := by exact Nat.le_of_ble_eq_true rfl) : GW G l Z R M pc lv (v2 :: v1 :: v0 :: .ref b :: st) h sz k w := gw_callV (As := [v0, v1, v2]) hd hc hb rfl rfl hsum hR hcs hss hM kr kx
theorem gw_rV3 {b ci idx d : Nat} {y : MethodName} {M' : gM} {fs : List Value} {v : Value} {v0 v1 v2 : Value} (hd : gD M pc (.invokevirtual idx) 3 pc') (hc : gClV M idx ci y M' 3) (hb : h b = some (gO ci fs)) (hM : SM G l d y M' (.ref b :: [v0, v1, v2]) h sz 0 0 (qR v h sz)) (kk : GW G l Z R M pc' lv (v :: st) h sz k w) (hsum : (st.map fun v => v.category).sum ≤ 8 := by exact Nat.le_of_ble_eq_true rfl) (hR : gRm R d M' := by exact ⟨by decide, by decide⟩) (hcs : k ≤ R.cells := by exact Nat.le_of_ble_eq_true rfl) (hss : w ≤ R.slots := by exact Nat.le_of_ble_eq_true rfl) : GW G l Z R M pc lv (v2 :: v1 :: v0 :: .ref b :: st) h sz k w := gw_callV (As := [v0, v1, v2]) hd hc hb rfl rfl hsum hR hcs hss hM (fun v9 h9 s9 q _ => by obtain ⟨q1, rfl, rfl⟩ := q; cases q1; exact kk) (fun E h9 s9 q _ => by cases q.1)
theorem gw_cI3 {b idx d mc ms : Nat} {y : MethodName} {M' : gM} {v0 v1 v2 : Value} {P : gHp → Nat → Prop} (hd : gD M pc (.invokespecial idx) 3 pc') (hc : gClI M idx y M' 3) (hM : SM G l d y M' (.ref b :: [v0, v1, v2]) h sz mc ms (qV P)) (kr : ∀ h' sz', P h' sz' → sz ≤ sz' → GW G l Z R M pc' lv st h' sz' (k + mc) (w + ms)) (hsum : (st.map fun v => v.category).sum ≤ 8 := by exact Nat.le_of_ble_eq_true rfl) (hR : gRm R d M' := by exact ⟨by decide, by decide⟩) (hcs : k + mc ≤ R.cells := by exact Nat.le_of_ble_eq_true rfl) (hss : w + ms ≤ R.slots := by exact Nat.le_of_ble_eq_true rfl) : GW G l Z R M pc lv (v2 :: v1 :: v0 :: .ref b :: st) h sz k w := gw_callI (As := [v0, v1, v2]) hd hc rfl rfl hsum hR hcs hss hM (fun E h9 s9 q => by cases q.1) (fun v9 h9 s9 q hz => by obtain ⟨q1, q2⟩ := q; cases q1; exact kr h9 s9 q2 hz)
theorem gw_cS3 {idx d mc ms : Nat} {y : MethodName} {M' : gM} {v0 v1 v2 : Value} {Q : gRs → gHp → Nat → Prop} (hd : gD M pc (.invokestatic idx) 3 pc') (hc : gClS M idx y M' 3) (hM : SM G l d y M' [v0, v1, v2] h sz mc ms Q) (kr : ∀ v h' sz', Q (.inl v) h' sz' → sz ≤ sz' → GW G l Z R M pc' lv (v.toList ++ st) h' sz' (k + mc) (w + ms)) (kx : ∀ E h' sz', Q (.inr E) h' sz' → sz ≤ sz' → GX G l Z R M pc lv st h' sz' (k + mc) (w + ms) E) (hsum : (st.map fun v => v.category).sum ≤ 8 := by exact Nat.le_of_ble_eq_true rfl) (hR : gRm R d M' := by exact ⟨by decide, by decide⟩) (hcs : k + mc ≤ R.cells := by exact Nat.le_of_ble_eq_true rfl) (hss : w + ms ≤ R.slots := by exact Nat.le_of_ble_eq_true rfl) : GW G l Z R M pc lv (v2 :: v1 :: v0 :: st) h sz k w := gw_callS (As := [v0, v1, v2]) hd hc rfl rfl hsum hR hcs hss hM kr kx
theorem gw_rS3 {idx d : Nat} {y : MethodName} {M' : gM} {v : Value} {v0 v1 v2 : Value} (hd : gD M pc (.invokestatic idx) 3 pc') (hc : gClS M idx y M' 3) (hM : SM G l d y M' [v0, v1, v2] h sz 0 0 (qR v h sz)) (kk : GW G l Z R M pc' lv (v :: st) h sz k w) (hsum : (st.map fun v => v.category).sum ≤ 8 := by exact Nat.le_of_ble_eq_true rfl) (hR : gRm R d M' := by exact ⟨by decide, by decide⟩) (hcs : k ≤ R.cells := by exact Nat.le_of_ble_eq_true rfl) (hss : w ≤ R.slots := by exact Nat.le_of_ble_eq_true rfl) : GW G l Z R M pc lv (v2 :: v1 :: v0 :: st) h sz k w := gw_callS (As := [v0, v1, v2]) hd hc rfl rfl hsum hR hcs hss hM (fun v9 h9 s9 q _ => by obtain ⟨q1, rfl, rfl⟩ := q; cases q1; exact kk) (fun E h9 s9 q _ => by cases q.1)
theorem gw_cV4 {b ci idx d mc ms : Nat} {y : MethodName} {M' : gM} {fs : List Value} {v0 v1 v2 v3 : Value} {Q : gRs → gHp → Nat → Prop} (hd : gD M pc (.invokevirtual idx) 3 pc') (hc : gClV M idx ci y M' 4) (hb : h b = some (gO ci fs)) (hM : SM G l d y M' (.ref b :: [v0, v1, v2, v3]) h sz mc ms Q) (kr : ∀ v h' sz', Q (.inl v) h' sz' → sz ≤ sz' → GW G l Z R M pc' lv (v.toList ++ st) h' sz' (k + mc) (w + ms)) (kx : ∀ E h' sz', Q (.inr E) h' sz' → sz ≤ sz' → GX G l Z R M pc lv st h' sz' (k + mc) (w + ms) E) (hsum : (st.map fun v => v.category).sum ≤ 8 := by exact Nat.le_of_ble_eq_true rfl) (hR : gRm R d M' := by exact ⟨by decide, by decide⟩) (hcs : k + mc ≤ R.cells := by exact Nat.le_of_ble_eq_true rfl) (hss : w + ms ≤ R.slots := by exact Nat.le_of_ble_eq_true rfl) : GW G l Z R M pc lv (v3 :: v2 :: v1 :: v0 :: .ref b :: st) h sz k w := gw_callV (As := [v0, v1, v2, v3]) hd hc hb rfl rfl hsum hR hcs hss hM kr kx
theorem gw_rV4 {b ci idx d : Nat} {y : MethodName} {M' : gM} {fs : List Value} {v : Value} {v0 v1 v2 v3 : Value} (hd : gD M pc (.invokevirtual idx) 3 pc') (hc : gClV M idx ci y M' 4) (hb : h b = some (gO ci fs)) (hM : SM G l d y M' (.ref b :: [v0, v1, v2, v3]) h sz 0 0 (qR v h sz)) (kk : GW G l Z R M pc' lv (v :: st) h sz k w) (hsum : (st.map fun v => v.category).sum ≤ 8 := by exact Nat.le_of_ble_eq_true rfl) (hR : gRm R d M' := by exact ⟨by decide, by decide⟩) (hcs : k ≤ R.cells := by exact Nat.le_of_ble_eq_true rfl) (hss : w ≤ R.slots := by exact Nat.le_of_ble_eq_true rfl) : GW G l Z R M pc lv (v3 :: v2 :: v1 :: v0 :: .ref b :: st) h sz k w := gw_callV (As := [v0, v1, v2, v3]) hd hc hb rfl rfl hsum hR hcs hss hM (fun v9 h9 s9 q _ => by obtain ⟨q1, rfl, rfl⟩ := q; cases q1; exact kk) (fun E h9 s9 q _ => by cases q.1)
theorem gw_cI4 {b idx d mc ms : Nat} {y : MethodName} {M' : gM} {v0 v1 v2 v3 : Value} {P : gHp → Nat → Prop} (hd : gD M pc (.invokespecial idx) 3 pc') (hc : gClI M idx y M' 4) (hM : SM G l d y M' (.ref b :: [v0, v1, v2, v3]) h sz mc ms (qV P)) (kr : ∀ h' sz', P h' sz' → sz ≤ sz' → GW G l Z R M pc' lv st h' sz' (k + mc) (w + ms)) (hsum : (st.map fun v => v.category).sum ≤ 8 := by exact Nat.le_of_ble_eq_true rfl) (hR : gRm R d M' := by exact ⟨by decide, by decide⟩) (hcs : k + mc ≤ R.cells := by exact Nat.le_of_ble_eq_true rfl) (hss : w + ms ≤ R.slots := by exact Nat.le_of_ble_eq_true rfl) : GW G l Z R M pc lv (v3 :: v2 :: v1 :: v0 :: .ref b :: st) h sz k w := gw_callI (As := [v0, v1, v2, v3]) hd hc rfl rfl hsum hR hcs hss hM (fun E h9 s9 q => by cases q.1) (fun v9 h9 s9 q hz => by obtain ⟨q1, q2⟩ := q; cases q1; exact kr h9 s9 q2 hz)
theorem gw_cS4 {idx d mc ms : Nat} {y : MethodName} {M' : gM} {v0 v1 v2 v3 : Value} {Q : gRs → gHp → Nat → Prop} (hd : gD M pc (.invokestatic idx) 3 pc') (hc : gClS M idx y M' 4) (hM : SM G l d y M' [v0, v1, v2, v3] h sz mc ms Q) (kr : ∀ v h' sz', Q (.inl v) h' sz' → sz ≤ sz' → GW G l Z R M pc' lv (v.toList ++ st) h' sz' (k + mc) (w + ms)) (kx : ∀ E h' sz', Q (.inr E) h' sz' → sz ≤ sz' → GX G l Z R M pc lv st h' sz' (k + mc) (w + ms) E) (hsum : (st.map fun v => v.category).sum ≤ 8 := by exact Nat.le_of_ble_eq_true rfl) (hR : gRm R d M' := by exact ⟨by decide, by decide⟩) (hcs : k + mc ≤ R.cells := by exact Nat.le_of_ble_eq_true rfl) (hss : w + ms ≤ R.slots := by exact Nat.le_of_ble_eq_true rfl) : GW G l Z R M pc lv (v3 :: v2 :: v1 :: v0 :: st) h sz k w := gw_callS (As := [v0, v1, v2, v3]) hd hc rfl rfl hsum hR hcs hss hM kr kx
theorem gw_rS4 {idx d : Nat} {y : MethodName} {M' : gM} {v : Value} {v0 v1 v2 v3 : Value} (hd : gD M pc (.invokestatic idx) 3 pc') (hc : gClS M idx y M' 4) (hM : SM G l d y M' [v0, v1, v2, v3] h sz 0 0 (qR v h sz)) (kk : GW G l Z R M pc' lv (v :: st) h sz k w) (hsum : (st.map fun v => v.category).sum ≤ 8 := by exact Nat.le_of_ble_eq_true rfl) (hR : gRm R d M' := by exact ⟨by decide, by decide⟩) (hcs : k ≤ R.cells := by exact Nat.le_of_ble_eq_true rfl) (hss : w ≤ R.slots := by exact Nat.le_of_ble_eq_true rfl) : GW G l Z R M pc lv (v3 :: v2 :: v1 :: v0 :: st) h sz k w := gw_callS (As := [v0, v1, v2, v3]) hd hc rfl rfl hsum hR hcs hss hM (fun v9 h9 s9 q _ => by obtain ⟨q1, rfl, rfl⟩ := q; cases q1; exact kk) (fun E h9 s9 q _ => by cases q.1)
theorem gw_cV5 {b ci idx d mc ms : Nat} {y : MethodName} {M' : gM} {fs : List Value} {v0 v1 v2 v3 v4 : Value} {Q : gRs → gHp → Nat → Prop} (hd : gD M pc (.invokevirtual idx) 3 pc') (hc : gClV M idx ci y M' 5) (hb : h b = some (gO ci fs)) (hM : SM G l d y M' (.ref b :: [v0, v1, v2, v3, v4]) h sz mc ms Q) (kr : ∀ v h' sz', Q (.inl v) h' sz' → sz ≤ sz' → GW G l Z R M pc' lv (v.toList ++ st) h' sz' (k + mc) (w + ms)) (kx : ∀ E h' sz', Q (.inr E) h' sz' → sz ≤ sz' → GX G l Z R M pc lv st h' sz' (k + mc) (w + ms) E) (hsum : (st.map fun v => v.category).sum ≤ 8 := by exact Nat.le_of_ble_eq_true rfl) (hR : gRm R d M' := by exact ⟨by decide, by decide⟩) (hcs : k + mc ≤ R.cells := by exact Nat.le_of_ble_eq_true rfl) (hss : w + ms ≤ R.slots := by exact Nat.le_of_ble_eq_true rfl) : GW G l Z R M pc lv (v4 :: v3 :: v2 :: v1 :: v0 :: .ref b :: st) h sz k w := gw_callV (As := [v0, v1, v2, v3, v4]) hd hc hb rfl rfl hsum hR hcs hss hM kr kx
theorem gw_rV5 {b ci idx d : Nat} {y : MethodName} {M' : gM} {fs : List Value} {v : Value} {v0 v1 v2 v3 v4 : Value} (hd : gD M pc (.invokevirtual idx) 3 pc') (hc : gClV M idx ci y M' 5) (hb : h b = some (gO ci fs)) (hM : SM G l d y M' (.ref b :: [v0, v1, v2, v3, v4]) h sz 0 0 (qR v h sz)) (kk : GW G l Z R M pc' lv (v :: st) h sz k w) (hsum : (st.map fun v => v.category).sum ≤ 8 := by exact Nat.le_of_ble_eq_true rfl) (hR : gRm R d M' := by exact ⟨by decide, by decide⟩) (hcs : k ≤ R.cells := by exact Nat.le_of_ble_eq_true rfl) (hss : w ≤ R.slots := by exact Nat.le_of_ble_eq_true rfl) : GW G l Z R M pc lv (v4 :: v3 :: v2 :: v1 :: v0 :: .ref b :: st) h sz k w := gw_callV (As := [v0, v1, v2, v3, v4]) hd hc hb rfl rfl hsum hR hcs hss hM (fun v9 h9 s9 q _ => by obtain ⟨q1, rfl, rfl⟩ := q; cases q1; exact kk) (fun E h9 s9 q _ => by cases q.1)
theorem gw_cI5 {b idx d mc ms : Nat} {y : MethodName} {M' : gM} {v0 v1 v2 v3 v4 : Value} {P : gHp → Nat → Prop} (hd : gD M pc (.invokespecial idx) 3 pc') (hc : gClI M idx y M' 5) (hM : SM G l d y M' (.ref b :: [v0, v1, v2, v3, v4]) h sz mc ms (qV P)) (kr : ∀ h' sz', P h' sz' → sz ≤ sz' → GW G l Z R M pc' lv st h' sz' (k + mc) (w + ms)) (hsum : (st.map fun v => v.category).sum ≤ 8 := by exact Nat.le_of_ble_eq_true rfl) (hR : gRm R d M' := by exact ⟨by decide, by decide⟩) (hcs : k + mc ≤ R.cells := by exact Nat.le_of_ble_eq_true rfl) (hss : w + ms ≤ R.slots := by exact Nat.le_of_ble_eq_true rfl) : GW G l Z R M pc lv (v4 :: v3 :: v2 :: v1 :: v0 :: .ref b :: st) h sz k w := gw_callI (As := [v0, v1, v2, v3, v4]) hd hc rfl rfl hsum hR hcs hss hM (fun E h9 s9 q => by cases q.1) (fun v9 h9 s9 q hz => by obtain ⟨q1, q2⟩ := q; cases q1; exact kr h9 s9 q2 hz)
theorem gw_cS5 {idx d mc ms : Nat} {y : MethodName} {M' : gM} {v0 v1 v2 v3 v4 : Value} {Q : gRs → gHp → Nat → Prop} (hd : gD M pc (.invokestatic idx) 3 pc') (hc : gClS M idx y M' 5) (hM : SM G l d y M' [v0, v1, v2, v3, v4] h sz mc ms Q) (kr : ∀ v h' sz', Q (.inl v) h' sz' → sz ≤ sz' → GW G l Z R M pc' lv (v.toList ++ st) h' sz' (k + mc) (w + ms)) (kx : ∀ E h' sz', Q (.inr E) h' sz' → sz ≤ sz' → GX G l Z R M pc lv st h' sz' (k + mc) (w + ms) E) (hsum : (st.map fun v => v.category).sum ≤ 8 := by exact Nat.le_of_ble_eq_true rfl) (hR : gRm R d M' := by exact ⟨by decide, by decide⟩) (hcs : k + mc ≤ R.cells := by exact Nat.le_of_ble_eq_true rfl) (hss : w + ms ≤ R.slots := by exact Nat.le_of_ble_eq_true rfl) : GW G l Z R M pc lv (v4 :: v3 :: v2 :: v1 :: v0 :: st) h sz k w := gw_callS (As := [v0, v1, v2, v3, v4]) hd hc rfl rfl hsum hR hcs hss hM kr kx
theorem gw_rS5 {idx d : Nat} {y : MethodName} {M' : gM} {v : Value} {v0 v1 v2 v3 v4 : Value} (hd : gD M pc (.invokestatic idx) 3 pc') (hc : gClS M idx y M' 5) (hM : SM G l d y M' [v0, v1, v2, v3, v4] h sz 0 0 (qR v h sz)) (kk : GW G l Z R M pc' lv (v :: st) h sz k w) (hsum : (st.map fun v => v.category).sum ≤ 8 := by exact Nat.le_of_ble_eq_true rfl) (hR : gRm R d M' := by exact ⟨by decide, by decide⟩) (hcs : k ≤ R.cells := by exact Nat.le_of_ble_eq_true rfl) (hss : w ≤ R.slots := by exact Nat.le_of_ble_eq_true rfl) : GW G l Z R M pc lv (v4 :: v3 :: v2 :: v1 :: v0 :: st) h sz k w := gw_callS (As := [v0, v1, v2, v3, v4]) hd hc rfl rfl hsum hR hcs hss hM (fun v9 h9 s9 q _ => by obtain ⟨q1, rfl, rfl⟩ := q; cases q1; exact kk) (fun E h9 s9 q _ => by cases q.1)
theorem gw_cS6 {idx d mc ms : Nat} {y : MethodName} {M' : gM} {v0 v1 v2 v3 v4 v5 : Value} {Q : gRs → gHp → Nat → Prop} (hd : gD M pc (.invokestatic idx) 3 pc') (hc : gClS M idx y M' 6) (hM : SM G l d y M' [v0, v1, v2, v3, v4, v5] h sz mc ms Q) (kr : ∀ v h' sz', Q (.inl v) h' sz' → sz ≤ sz' → GW G l Z R M pc' lv (v.toList ++ st) h' sz' (k + mc) (w + ms)) (kx : ∀ E h' sz', Q (.inr E) h' sz' → sz ≤ sz' → GX G l Z R M pc lv st h' sz' (k + mc) (w + ms) E) (hsum : (st.map fun v => v.category).sum ≤ 8 := by exact Nat.le_of_ble_eq_true rfl) (hR : gRm R d M' := by exact ⟨by decide, by decide⟩) (hcs : k + mc ≤ R.cells := by exact Nat.le_of_ble_eq_true rfl) (hss : w + ms ≤ R.slots := by exact Nat.le_of_ble_eq_true rfl) : GW G l Z R M pc lv (v5 :: v4 :: v3 :: v2 :: v1 :: v0 :: st) h sz k w := gw_callS (As := [v0, v1, v2, v3, v4, v5]) hd hc rfl rfl hsum hR hcs hss hM kr kx
theorem gw_rS6 {idx d : Nat} {y : MethodName} {M' : gM} {v : Value} {v0 v1 v2 v3 v4 v5 : Value} (hd : gD M pc (.invokestatic idx) 3 pc') (hc : gClS M idx y M' 6) (hM : SM G l d y M' [v0, v1, v2, v3, v4, v5] h sz 0 0 (qR v h sz)) (kk : GW G l Z R M pc' lv (v :: st) h sz k w) (hsum : (st.map fun v => v.category).sum ≤ 8 := by exact Nat.le_of_ble_eq_true rfl) (hR : gRm R d M' := by exact ⟨by decide, by decide⟩) (hcs : k ≤ R.cells := by exact Nat.le_of_ble_eq_true rfl) (hss : w ≤ R.slots := by exact Nat.le_of_ble_eq_true rfl) : GW G l Z R M pc lv (v5 :: v4 :: v3 :: v2 :: v1 :: v0 :: st) h sz k w := gw_callS (As := [v0, v1, v2, v3, v4, v5]) hd hc rfl rfl hsum hR hcs hss hM (fun v9 h9 s9 q _ => by obtain ⟨q1, rfl, rfl⟩ := q; cases q1; exact kk) (fun E h9 s9 q _ => by cases q.1)
/-- a call of a method without answer that doesn't throw -/
theorem gw_vV0 {b ci idx d mc ms : Nat} {y : MethodName} {M' : gM} {fs : List Value} {P : gHp → Nat → Prop} (hd : gD M pc (.invokevirtual idx) 3 pc') (hc : gClV M idx ci y M' 0) (hb : h b = some (gO ci fs)) (hM : SM G l d y M' (.ref b :: []) h sz mc ms (qV P)) (kr : ∀ h' sz', P h' sz' → sz ≤ sz' → GW G l Z R M pc' lv st h' sz' (k + mc) (w + ms)) (hsum : (st.map fun v => v.category).sum ≤ 8 := by exact Nat.le_of_ble_eq_true rfl) (hR : gRm R d M' := by exact ⟨by decide, by decide⟩) (hcs : k + mc ≤ R.cells := by exact Nat.le_of_ble_eq_true rfl) (hss : w + ms ≤ R.slots := by exact Nat.le_of_ble_eq_true rfl) : GW G l Z R M pc lv (.ref b :: st) h sz k w := gw_callV (As := []) hd hc hb rfl rfl hsum hR hcs hss hM (fun v9 h9 s9 q hz => by obtain ⟨q1, q2⟩ := q; cases q1; exact kr h9 s9 q2 hz) (fun E h9 s9 q _ => by cases q.1)
theorem gw_vS0 {idx d mc ms : Nat} {y : MethodName} {M' : gM} {P : gHp → Nat → Prop} (hd : gD M pc (.invokestatic idx) 3 pc') (hc : gClS M idx y M' 0) (hM : SM G l d y M' [] h sz mc ms (qV P)) (kr : ∀ h' sz', P h' sz' → sz ≤ sz' → GW G l Z R M pc' lv st h' sz' (k + mc) (w + ms)) (hsum : (st.map fun v => v.category).sum ≤ 8 := by exact Nat.le_of_ble_eq_true rfl) (hR : gRm R d M' := by exact ⟨by decide, by decide⟩) (hcs : k + mc ≤ R.cells := by exact Nat.le_of_ble_eq_true rfl) (hss : w + ms ≤ R.slots := by exact Nat.le_of_ble_eq_true rfl) : GW G l Z R M pc lv (st) h sz k w := gw_callS (As := []) hd hc rfl rfl hsum hR hcs hss hM (fun v9 h9 s9 q hz => by obtain ⟨q1, q2⟩ := q; cases q1; exact kr h9 s9 q2 hz) (fun E h9 s9 q _ => by cases q.1)
theorem gw_vV1 {b ci idx d mc ms : Nat} {y : MethodName} {M' : gM} {fs : List Value} {v0 : Value} {P : gHp → Nat → Prop} (hd : gD M pc (.invokevirtual idx) 3 pc') (hc : gClV M idx ci y M' 1) (hb : h b = some (gO ci fs)) (hM : SM G l d y M' (.ref b :: [v0]) h sz mc ms (qV P)) (kr : ∀ h' sz', P h' sz' → sz ≤ sz' → GW G l Z R M pc' lv st h' sz' (k + mc) (w + ms)) (hsum : (st.map fun v => v.category).sum ≤ 8 := by exact Nat.le_of_ble_eq_true rfl) (hR : gRm R d M' := by exact ⟨by decide, by decide⟩) (hcs : k + mc ≤ R.cells := by exact Nat.le_of_ble_eq_true rfl) (hss : w + ms ≤ R.slots := by exact Nat.le_of_ble_eq_true rfl) : GW G l Z R M pc lv (v0 :: .ref b :: st) h sz k w := gw_callV (As := [v0]) hd hc hb rfl rfl hsum hR hcs hss hM (fun v9 h9 s9 q hz => by obtain ⟨q1, q2⟩ := q; cases q1; exact kr h9 s9 q2 hz) (fun E h9 s9 q _ => by cases q.1)
theorem gw_vS1 {idx d mc ms : Nat} {y : MethodName} {M' : gM} {v0 : Value} {P : gHp → Nat → Prop} (hd : gD M pc (.invokestatic idx) 3 pc') (hc : gClS M idx y M' 1) (hM : SM G l d y M' [v0] h sz mc ms (qV P)) (kr : ∀ h' sz', P h' sz' → sz ≤ sz' → GW G l Z R M pc' lv st h' sz' (k + mc) (w + ms)) (hsum : (st.map fun v => v.category).sum ≤ 8 := by exact Nat.le_of_ble_eq_true rfl) (hR : gRm R d M' := by exact ⟨by decide, by decide⟩) (hcs : k + mc ≤ R.cells := by exact Nat.le_of_ble_eq_true rfl) (hss : w + ms ≤ R.slots := by exact Nat.le_of_ble_eq_true rfl) : GW G l Z R M pc lv (v0 :: st) h sz k w := gw_callS (As := [v0]) hd hc rfl rfl hsum hR hcs hss hM (fun v9 h9 s9 q hz => by obtain ⟨q1, q2⟩ := q; cases q1; exact kr h9 s9 q2 hz) (fun E h9 s9 q _ => by cases q.1)
theorem gw_vV2 {b ci idx d mc ms : Nat} {y : MethodName} {M' : gM} {fs : List Value} {v0 v1 : Value} {P : gHp → Nat → Prop} (hd : gD M pc (.invokevirtual idx) 3 pc') (hc : gClV M idx ci y M' 2) (hb : h b = some (gO ci fs)) (hM : SM G l d y M' (.ref b :: [v0, v1]) h sz mc ms (qV P)) (kr : ∀ h' sz', P h' sz' → sz ≤ sz' → GW G l Z R M pc' lv st h' sz' (k + mc) (w + ms)) (hsum : (st.map fun v => v.category).sum ≤ 8 := by exact Nat.le_of_ble_eq_true rfl) (hR : gRm R d M' := by exact ⟨by decide, by decide⟩) (hcs : k + mc ≤ R.cells := by exact Nat.le_of_ble_eq_true rfl) (hss : w + ms ≤ R.slots := by exact Nat.le_of_ble_eq_true rfl) : GW G l Z R M pc lv (v1 :: v0 :: .ref b :: st) h sz k w := gw_callV (As := [v0, v1]) hd hc hb rfl rfl hsum hR hcs hss hM (fun v9 h9 s9 q hz => by obtain ⟨q1, q2⟩ := q; cases q1; exact kr h9 s9 q2 hz) (fun E h9 s9 q _ => by cases q.1)
theorem gw_vS2 {idx d mc ms : Nat} {y : MethodName} {M' : gM} {v0 v1 : Value} {P : gHp → Nat → Prop} (hd : gD M pc (.invokestatic idx) 3 pc') (hc : gClS M idx y M' 2) (hM : SM G l d y M' [v0, v1] h sz mc ms (qV P)) (kr : ∀ h' sz', P h' sz' → sz ≤ sz' → GW G l Z R M pc' lv st h' sz' (k + mc) (w + ms)) (hsum : (st.map fun v => v.category).sum ≤ 8 := by exact Nat.le_of_ble_eq_true rfl) (hR : gRm R d M' := by exact ⟨by decide, by decide⟩) (hcs : k + mc ≤ R.cells := by exact Nat.le_of_ble_eq_true rfl) (hss : w + ms ≤ R.slots := by exact Nat.le_of_ble_eq_true rfl) : GW G l Z R M pc lv (v1 :: v0 :: st) h sz k w := gw_callS (As := [v0, v1]) hd hc rfl rfl hsum hR hcs hss hM (fun v9 h9 s9 q hz => by obtain ⟨q1, q2⟩ := q; cases q1; exact kr h9 s9 q2 hz) (fun E h9 s9 q _ => by cases q.1)
theorem gw_vV3 {b ci idx d mc ms : Nat} {y : MethodName} {M' : gM} {fs : List Value} {v0 v1 v2 : Value} {P : gHp → Nat → Prop} (hd : gD M pc (.invokevirtual idx) 3 pc') (hc : gClV M idx ci y M' 3) (hb : h b = some (gO ci fs)) (hM : SM G l d y M' (.ref b :: [v0, v1, v2]) h sz mc ms (qV P)) (kr : ∀ h' sz', P h' sz' → sz ≤ sz' → GW G l Z R M pc' lv st h' sz' (k + mc) (w + ms)) (hsum : (st.map fun v => v.category).sum ≤ 8 := by exact Nat.le_of_ble_eq_true rfl) (hR : gRm R d M' := by exact ⟨by decide, by decide⟩) (hcs : k + mc ≤ R.cells := by exact Nat.le_of_ble_eq_true rfl) (hss : w + ms ≤ R.slots := by exact Nat.le_of_ble_eq_true rfl) : GW G l Z R M pc lv (v2 :: v1 :: v0 :: .ref b :: st) h sz k w := gw_callV (As := [v0, v1, v2]) hd hc hb rfl rfl hsum hR hcs hss hM (fun v9 h9 s9 q hz => by obtain ⟨q1, q2⟩ := q; cases q1; exact kr h9 s9 q2 hz) (fun E h9 s9 q _ => by cases q.1)
theorem gw_vS3 {idx d mc ms : Nat} {y : MethodName} {M' : gM} {v0 v1 v2 : Value} {P : gHp → Nat → Prop} (hd : gD M pc (.invokestatic idx) 3 pc') (hc : gClS M idx y M' 3) (hM : SM G l d y M' [v0, v1, v2] h sz mc ms (qV P)) (kr : ∀ h' sz', P h' sz' → sz ≤ sz' → GW G l Z R M pc' lv st h' sz' (k + mc) (w + ms)) (hsum : (st.map fun v => v.category).sum ≤ 8 := by exact Nat.le_of_ble_eq_true rfl) (hR : gRm R d M' := by exact ⟨by decide, by decide⟩) (hcs : k + mc ≤ R.cells := by exact Nat.le_of_ble_eq_true rfl) (hss : w + ms ≤ R.slots := by exact Nat.le_of_ble_eq_true rfl) : GW G l Z R M pc lv (v2 :: v1 :: v0 :: st) h sz k w := gw_callS (As := [v0, v1, v2]) hd hc rfl rfl hsum hR hcs hss hM (fun v9 h9 s9 q hz => by obtain ⟨q1, q2⟩ := q; cases q1; exact kr h9 s9 q2 hz) (fun E h9 s9 q _ => by cases q.1)
theorem gw_vV4 {b ci idx d mc ms : Nat} {y : MethodName} {M' : gM} {fs : List Value} {v0 v1 v2 v3 : Value} {P : gHp → Nat → Prop} (hd : gD M pc (.invokevirtual idx) 3 pc') (hc : gClV M idx ci y M' 4) (hb : h b = some (gO ci fs)) (hM : SM G l d y M' (.ref b :: [v0, v1, v2, v3]) h sz mc ms (qV P)) (kr : ∀ h' sz', P h' sz' → sz ≤ sz' → GW G l Z R M pc' lv st h' sz' (k + mc) (w + ms)) (hsum : (st.map fun v => v.category).sum ≤ 8 := by exact Nat.le_of_ble_eq_true rfl) (hR : gRm R d M' := by exact ⟨by decide, by decide⟩) (hcs : k + mc ≤ R.cells := by exact Nat.le_of_ble_eq_true rfl) (hss : w + ms ≤ R.slots := by exact Nat.le_of_ble_eq_true rfl) : GW G l Z R M pc lv (v3 :: v2 :: v1 :: v0 :: .ref b :: st) h sz k w := gw_callV (As := [v0, v1, v2, v3]) hd hc hb rfl rfl hsum hR hcs hss hM (fun v9 h9 s9 q hz => by obtain ⟨q1, q2⟩ := q; cases q1; exact kr h9 s9 q2 hz) (fun E h9 s9 q _ => by cases q.1)
theorem gw_vS4 {idx d mc ms : Nat} {y : MethodName} {M' : gM} {v0 v1 v2 v3 : Value} {P : gHp → Nat → Prop} (hd : gD M pc (.invokestatic idx) 3 pc') (hc : gClS M idx y M' 4) (hM : SM G l d y M' [v0, v1, v2, v3] h sz mc ms (qV P)) (kr : ∀ h' sz', P h' sz' → sz ≤ sz' → GW G l Z R M pc' lv st h' sz' (k + mc) (w + ms)) (hsum : (st.map fun v => v.category).sum ≤ 8 := by exact Nat.le_of_ble_eq_true rfl) (hR : gRm R d M' := by exact ⟨by decide, by decide⟩) (hcs : k + mc ≤ R.cells := by exact Nat.le_of_ble_eq_true rfl) (hss : w + ms ≤ R.slots := by exact Nat.le_of_ble_eq_true rfl) : GW G l Z R M pc lv (v3 :: v2 :: v1 :: v0 :: st) h sz k w := gw_callS (As := [v0, v1, v2, v3]) hd hc rfl rfl hsum hR hcs hss hM (fun v9 h9 s9 q hz => by obtain ⟨q1, q2⟩ := q; cases q1; exact kr h9 s9 q2 hz) (fun E h9 s9 q _ => by cases q.1)
theorem gw_vV5 {b ci idx d mc ms : Nat} {y : MethodName} {M' : gM} {fs : List Value} {v0 v1 v2 v3 v4 : Value} {P : gHp → Nat → Prop} (hd : gD M pc (.invokevirtual idx) 3 pc') (hc : gClV M idx ci y M' 5) (hb : h b = some (gO ci fs)) (hM : SM G l d y M' (.ref b :: [v0, v1, v2, v3, v4]) h sz mc ms (qV P)) (kr : ∀ h' sz', P h' sz' → sz ≤ sz' → GW G l Z R M pc' lv st h' sz' (k + mc) (w + ms)) (hsum : (st.map fun v => v.category).sum ≤ 8 := by exact Nat.le_of_ble_eq_true rfl) (hR : gRm R d M' := by exact ⟨by decide, by decide⟩) (hcs : k + mc ≤ R.cells := by exact Nat.le_of_ble_eq_true rfl) (hss : w + ms ≤ R.slots := by exact Nat.le_of_ble_eq_true rfl) : GW G l Z R M pc lv (v4 :: v3 :: v2 :: v1 :: v0 :: .ref b :: st) h sz k w := gw_callV (As := [v0, v1, v2, v3, v4]) hd hc hb rfl rfl hsum hR hcs hss hM (fun v9 h9 s9 q hz => by obtain ⟨q1, q2⟩ := q; cases q1; exact kr h9 s9 q2 hz) (fun E h9 s9 q _ => by cases q.1)
theorem gw_vS5 {idx d mc ms : Nat} {y : MethodName} {M' : gM} {v0 v1 v2 v3 v4 : Value} {P : gHp → Nat → Prop} (hd : gD M pc (.invokestatic idx) 3 pc') (hc : gClS M idx y M' 5) (hM : SM G l d y M' [v0, v1, v2, v3, v4] h sz mc ms (qV P)) (kr : ∀ h' sz', P h' sz' → sz ≤ sz' → GW G l Z R M pc' lv st h' sz' (k + mc) (w + ms)) (hsum : (st.map fun v => v.category).sum ≤ 8 := by exact Nat.le_of_ble_eq_true rfl) (hR : gRm R d M' := by exact ⟨by decide, by decide⟩) (hcs : k + mc ≤ R.cells := by exact Nat.le_of_ble_eq_true rfl) (hss : w + ms ≤ R.slots := by exact Nat.le_of_ble_eq_true rfl) : GW G l Z R M pc lv (v4 :: v3 :: v2 :: v1 :: v0 :: st) h sz k w := gw_callS (As := [v0, v1, v2, v3, v4]) hd hc rfl rfl hsum hR hcs hss hM (fun v9 h9 s9 q hz => by obtain ⟨q1, q2⟩ := q; cases q1; exact kr h9 s9 q2 hz) (fun E h9 s9 q _ => by cases q.1)
end Fam
/-! numbers -/
theorem n_le {a b : Nat} (h : nI a ≤ nI b) (ha : a < 2147483648) (hb : b < 2147483648) : a ≤ b := (nI_leI ha hb).mp h
theorem n_nle {a b : Nat} (h : ¬ nI a ≤ nI b) (ha : a < 2147483648) (hb : b < 2147483648) : b < a := Nat.not_le.mp fun q => h ((nI_leI ha hb).mpr q)
theorem n_lt {a b : Nat} (h : nI a < nI b) (ha : a < 2147483648) (hb : b < 2147483648) : a < b := (nI_ltI ha hb).mp h
theorem n_nlt {a b : Nat} (h : ¬ nI a < nI b) (ha : a < 2147483648) (hb : b < 2147483648) : b ≤ a := Nat.not_lt.mp fun q => h ((nI_ltI ha hb).mpr q)
theorem n_eq {a b : Nat} (h : nI a = nI b) (ha : a < 2147483648) (hb : b < 2147483648) : a = b := (nI_eq ha hb).mp h
theorem n_s (a : Nat) : nI a + 1 = nI (a + 1) := nI_1 a
theorem n_p {a : Nat} (h : 0 < a) : nI a + (-1) = nI (a - 1) := sb_m1 h
theorem n_m1 {a : Nat} (h : 0 < a) : nI a - 1 = nI (a - 1) := pk_sub (a := a) (b := 1) h
def b2i (b : Bool) : Int32 := if b then 1 else 0
theorem b2i_01 (b : Bool) : b2i b = 0 ∨ b2i b = 1 := by cases b <;> simp [b2i]
theorem b2i_eq0 (b : Bool) : b2i b = 0 ↔ b = false := by cases b <;> simp [b2i]
theorem b2i_ne0 (b : Bool) : ¬ b2i b = 0 ↔ b = true := by cases b <;> simp [b2i]
end
section
/-! ===== further names ===== -/
def y_J_copyOfRangeInt : MethodName := ⟨"java/util/Arrays", "copyOfRangeInt", "([III)[I"⟩
def M_J_copyOfRangeInt : gM := (prog_34_method_137_code, 5, "java/util/Arrays", "copyOfRangeInt", [], (Option.some (FieldType.array FieldType.int)))
theorem cd_J_copyOfRangeInt : gCode y_J_copyOfRangeInt M_J_copyOfRangeInt ∈ gW := gW_c2 35 rfl rfl
def y_J_checkLength : MethodName := ⟨"java/util/Arrays", "checkLength", "(II)V"⟩
def M_J_checkLength : gM := (prog_34_method_131_code, 2, "java/util/Arrays", "checkLength", [], none)
theorem cd_J_checkLength : gCode y_J_checkLength M_J_checkLength ∈ gW := gW_c2 38 rfl rfl
theorem d_J_copyOfRangeInt_0 : gIl M_J_copyOfRangeInt 0 1 1 := Or.inr ⟨1, by decide +kernel, rfl, rfl⟩
theorem d_J_copyOfRangeInt_1 : gIl M_J_copyOfRangeInt 1 2 2 := Or.inr ⟨2, by decide +kernel, rfl, rfl⟩
theorem d_J_copyOfRangeInt_2 : gD M_J_copyOfRangeInt 2 (.invokestatic 343) 3 5 := ⟨by decide +kernel, rfl⟩
theorem cs_J_copyOfRangeInt_2 : gClS M_J_copyOfRangeInt 343 y_J_checkLength M_J_checkLength 2 := ⟨⟨gW_c2 36 rfl rfl, gW_c1 15 rfl rfl, cd_J_checkLength, by decide +kernel, by decide +kernel⟩, gW_c2 37 rfl rfl⟩
theorem d_J_copyOfRangeInt_5 : gIl M_J_copyOfRangeInt 5 2 6 := Or.inr ⟨2, by decide +kernel, rfl, rfl⟩
theorem d_J_copyOfRangeInt_6 : gIl M_J_copyOfRangeInt 6 1 7 := Or.inr ⟨1, by decide +kernel, rfl, rfl⟩
theorem d_J_copyOfRangeInt_7 : gD M_J_copyOfRangeInt 7 (.isub) 1 8 := ⟨by decide +kernel, rfl⟩
theorem d_J_copyOfRangeInt_8 : gIs M_J_copyOfRangeInt 8 3 9 := Or.inr ⟨3, by decide +kernel, rfl, rfl⟩
theorem d_J_copyOfRangeInt_9 : gIl M_J_copyOfRangeInt 9 3 10 := Or.inr ⟨3, by decide +kernel, rfl, rfl⟩
theorem d_J_copyOfRangeInt_10 : gD M_J_copyOfRangeInt 10 (.newarray .int) 2 12 := ⟨by decide +kernel, rfl⟩
theorem d_J_copyOfRangeInt_12 : gAst M_J_copyOfRangeInt 12 4 14 := Or.inl ⟨by decide +kernel, rfl⟩
theorem d_J_copyOfRangeInt_14 : gAl M_J_copyOfRangeInt 14 0 15 := Or.inr ⟨0, by decide +kernel, rfl, rfl⟩
theorem d_J_copyOfRangeInt_15 : gIl M_J_copyOfRangeInt 15 1 16 := Or.inr ⟨1, by decide +kernel, rfl, rfl⟩
theorem d_J_copyOfRangeInt_16 : gAl M_J_copyOfRangeInt 16 4 18 := Or.inl ⟨by decide +kernel, rfl⟩
theorem d_J_copyOfRangeInt_18 : gN M_J_copyOfRangeInt 18 0 19 := Or.inl ⟨0, by decide +kernel, by decide, rfl⟩
theorem d_J_copyOfRangeInt_19 : gAl M_J_copyOfRangeInt 19 0 20 := Or.inr ⟨0, by decide +kernel, rfl, rfl⟩
theorem d_J_copyOfRangeInt_20 : gD M_J_copyOfRangeInt 20 (.arraylength) 1 21 := ⟨by decide +kernel, rfl⟩
theorem d_J_copyOfRangeInt_21 : gIl M_J_copyOfRangeInt 21 1 22 := Or.inr ⟨1, by decide +kernel, rfl, rfl⟩
theorem d_J_copyOfRangeInt_22 : gD M_J_copyOfRangeInt 22 (.isub) 1 23 := ⟨by decide +kernel, rfl⟩
theorem d_J_copyOfRangeInt_23 : gIl M_J_copyOfRangeInt 23 3 24 := Or.inr ⟨3, by decide +kernel, rfl, rfl⟩
theorem d_J_copyOfRangeInt_24 : gD M_J_copyOfRangeInt 24 (.invokestatic 304) 3 27 := ⟨by decide +kernel, rfl⟩
theorem cs_J_copyOfRangeInt_24 : gClS M_J_copyOfRangeInt 304 y_J_min M_J_min 2 := ⟨⟨gW_c2 111 rfl rfl, gW_c1 23 rfl rfl, cd_J_min, by decide +kernel, by decide +kernel⟩, gW_c2 112 rfl rfl⟩
theorem d_J_copyOfRangeInt_27 : gD M_J_copyOfRangeInt 27 (.invokestatic 150) 3 30 := ⟨by decide +kernel, rfl⟩
theorem cp_J_copyOfRangeInt_27 : gCpW M_J_copyOfRangeInt 150 := ⟨gW_c2 114 rfl rfl, gW_c2 116 rfl rfl, gW_c2 115 rfl rfl, gW_c1 24 rfl rfl⟩
theorem d_J_copyOfRangeInt_30 : gAl M_J_copyOfRangeInt 30 4 32 := Or.inl ⟨by decide +kernel, rfl⟩
theorem d_J_copyOfRangeInt_32 : gD M_J_copyOfRangeInt 32 (.areturn) 1 33 := ⟨by decide +kernel, rfl⟩
theorem d_J_checkLength_0 : gIl M_J_checkLength 0 1 1 := Or.inr ⟨1, by decide +kernel, rfl, rfl⟩
theorem d_J_checkLength_1 : gIl M_J_checkLength 1 0 2 := Or.inr ⟨0, by decide +kernel, rfl, rfl⟩
theorem d_J_checkLength_2 : gB M_J_checkLength 2 (.if_icmp .ge 35) 35 5 37 := ⟨by decide +kernel, rfl, by decide⟩
theorem d_J_checkLength_8 : gD M_J_checkLength 8 (.dup) 1 9 := ⟨by decide +kernel, rfl⟩
theorem d_J_checkLength_12 : gD M_J_checkLength 12 (.dup) 1 13 := ⟨by decide +kernel, rfl⟩
theorem d_J_checkLength_13 : gD M_J_checkLength 13 (.invokespecial 47) 3 16 := ⟨by decide +kernel, rfl⟩
theorem d_J_checkLength_16 : gIl M_J_checkLength 16 0 17 := Or.inr ⟨0, by decide +kernel, rfl, rfl⟩
theorem d_J_checkLength_17 : gD M_J_checkLength 17 (.invokevirtual 54) 3 20 := ⟨by decide +kernel, rfl⟩
theorem d_J_checkLength_20 : gD M_J_checkLength 20 (.ldc_w 337) 3 23 := ⟨by decide +kernel, rfl⟩
theorem d_J_checkLength_23 : gD M_J_checkLength 23 (.invokevirtual 50) 3 26 := ⟨by decide +kernel, rfl⟩
theorem d_J_checkLength_26 : gIl M_J_checkLength 26 1 27 := Or.inr ⟨1, by decide +kernel, rfl, rfl⟩
theorem d_J_checkLength_27 : gD M_J_checkLength 27 (.invokevirtual 54) 3 30 := ⟨by decide +kernel, rfl⟩
theorem d_J_checkLength_30 : gD M_J_checkLength 30 (.invokevirtual 61) 3 33 := ⟨by decide +kernel, rfl⟩
theorem d_J_checkLength_33 : gD M_J_checkLength 33 (.invokespecial 65) 3 36 := ⟨by decide +kernel, rfl⟩
theorem d_J_checkLength_36 : gD M_J_checkLength 36 (.athrow) 1 37 := ⟨by decide +kernel, rfl⟩
theorem d_J_checkLength_37 : gD M_J_checkLength 37 (.return_) 1 38 := ⟨by decide +kernel, rfl⟩
theorem cs_J_copyOfRange_13 : gClS M_J_copyOfRange 351 y_J_copyOfRangeInt M_J_copyOfRangeInt 3 := ⟨⟨gW_c2 33 rfl rfl, gW_c1 15 rfl rfl, cd_J_copyOfRangeInt, by decide +kernel, by decide +kernel⟩, gW_c2 34 rfl rfl⟩
end
section
/-! ===== Math, Integer, Version: contracts ===== -/
abbrev GM (G : gG) (l : Launch) (d mc ms : Nat) (Q : gRs → gHp → Nat → Prop) (M : gM) (pc : Nat) (lv : List (Option Value)) (st : List Value) (h : gHp) (sz k w : Nat) : Prop := GW G l (gZ G Q mc ms) (gRoom d mc ms) M pc lv st h sz k w
/-- covers, over vectors -/
def cov4 (u v : Nat → Int32) : Bool := !decide (u 0 < v 0) && (!decide (u 1 < v 1) && (!decide (u 2 < v 2) && !decide (u 3 < v 3)))
theorem cov4_iff {u v : Nat → Int32} : cov4 u v = true ↔ ∀ j, j < 4 → ¬ u j < v j := by
  simp only [cov4, Bool.and_eq_true, Bool.not_eq_true', decide_eq_false_iff_not]
  constructor
  · rintro ⟨h0, h1, h2, h3⟩ j hj
    match j, hj with
    | 0, _ => exact h0
    | 1, _ => exact h1
    | 2, _ => exact h2
    | 3, _ => exact h3
  · intro h
    exact ⟨h 0 (by omega), h 1 (by omega), h 2 (by omega), h 3 (by omega)⟩
theorem cov4_no {u v : Nat → Int32} {j : Nat} (hj : j < 4) (h : u j < v j) : cov4 u v = false := by
  cases hc : cov4 u v
  · rfl
  · exact absurd h (cov4_iff.mp hc j hj)
def mxI (x y : Int32) : Int32 := if x < y then y else x
def mnI (x y : Int32) : Int32 := if y < x then y else x
def cmpI (x y : Int32) : Int32 := if x < y then -1 else if x = y then 0 else 1
/-- the order's comparison, after n counters -/
def lxs (u v : Nat → Int32) (a : Int32) : Nat → Int32
  | 0 => a
  | n + 1 => if lxs u v a n = 0 then cmpI (u n) (v n) else lxs u v a n
def smN (u : Nat → Int32) : Nat → Int32
  | 0 => 0
  | n + 1 => smN u n + u n
def byI (n : Int32) : Int32 := if n = -1 then 0 else n
theorem lxs_stay {u v : Nat → Int32} {a : Int32} {j : Nat} (h : ¬ lxs u v a j = 0) : ∀ n, lxs u v a (j + n) = lxs u v a j
  | 0 => rfl
  | n + 1 => by
    rw [Nat.add_succ, lxs, lxs_stay h n, if_neg h]
section Ver
variable {G : gG} {l : Launch} {h : gHp} {sz : Nat} {a q a2 q2 : Nat} {d n f d2 n2 f2 : Int32} {vec vec2 : Nat → Int32}
theorem c_J_max {x y : Int32} : SM G l 1 y_J_max M_J_max [.int x, .int y] h sz 0 0 (qR (.int (mxI x y)) h sz) := by
  refine SM.of (lv0 := [some (.int x), some (.int y)]) (by decide +kernel) rfl ⟨rfl, rfl⟩ rfl (by simp [Value.category]) (Nat.le_of_ble_eq_true rfl) ?_
  refine gw_il0 d_J_max_0 ?_
  refine gw_il1 d_J_max_1 ?_
  refine gw_iclt d_J_max_2 (fun c_2 => ?_) (fun c_2 => ?_)
  · refine gw_il1 d_J_max_9 ?_
    exact gw_iret d_J_max_10 rfl (Nat.le_refl _) (Nat.le_refl _) ⟨by simp_all [mxI]; try (intro q; exact absurd q (Int32.not_lt.mpr c_2)), rfl, rfl⟩
  · refine gw_il0 d_J_max_5 ?_
    refine gw_goto d_J_max_6 ?_
    exact gw_iret d_J_max_10 rfl (Nat.le_refl _) (Nat.le_refl _) ⟨by simp_all [mxI]; try (intro q; exact absurd q (Int32.not_lt.mpr c_2)), rfl, rfl⟩
theorem c_J_min {x y : Int32} : SM G l 1 y_J_min M_J_min [.int x, .int y] h sz 0 0 (qR (.int (mnI x y)) h sz) := by
  refine SM.of (lv0 := [some (.int x), some (.int y)]) (by decide +kernel) rfl ⟨rfl, rfl⟩ rfl (by simp [Value.category]) (Nat.le_of_ble_eq_true rfl) ?_
  refine gw_il0 d_J_min_0 ?_
  refine gw_il1 d_J_min_1 ?_
  refine gw_icgt d_J_min_2 (fun c_2 => ?_) (fun c_2 => ?_)
  · refine gw_il1 d_J_min_9 ?_
    exact gw_iret d_J_min_10 rfl (Nat.le_refl _) (Nat.le_refl _) ⟨by simp_all [mnI]; try (intro q; exact absurd q (Int32.not_lt.mpr c_2)), rfl, rfl⟩
  · refine gw_il0 d_J_min_5 ?_
    refine gw_goto d_J_min_6 ?_
    exact gw_iret d_J_min_10 rfl (Nat.le_refl _) (Nat.le_refl _) ⟨by simp_all [mnI]; try (intro q; exact absurd q (Int32.not_lt.mpr c_2)), rfl, rfl⟩
theorem c_J_compare {x y : Int32} : SM G l 1 y_J_compare M_J_compare [.int x, .int y] h sz 0 0 (qR (.int (cmpI x y)) h sz) := by
  refine SM.of (lv0 := [some (.int x), some (.int y)]) (by decide +kernel) rfl ⟨rfl, rfl⟩ rfl (by simp [Value.category]) (Nat.le_of_ble_eq_true rfl) ?_
  refine gw_il0 d_J_compare_0 ?_
  refine gw_il1 d_J_compare_1 ?_
  refine gw_icge d_J_compare_2 (fun c_2 => ?_) (fun c_2 => ?_)
  · refine gw_il0 d_J_compare_9 ?_
    refine gw_il1 d_J_compare_10 ?_
    refine gw_icne d_J_compare_11 (fun c_11 => ?_) (fun c_11 => ?_)
    · refine gw_push d_J_compare_18 ?_
      exact gw_iret d_J_compare_19 rfl (Nat.le_refl _) (Nat.le_refl _) ⟨by simp_all [cmpI]; try (intro q; exact absurd q (Int32.not_lt.mpr c_2)), rfl, rfl⟩
    · refine gw_push d_J_compare_14 ?_
      refine gw_goto d_J_compare_15 ?_
      exact gw_iret d_J_compare_19 rfl (Nat.le_refl _) (Nat.le_refl _) ⟨by simp_all [cmpI]; try (intro q; exact absurd q (Int32.not_lt.mpr c_2)), rfl, rfl⟩
  · refine gw_push d_J_compare_5 ?_
    refine gw_goto d_J_compare_6 ?_
    exact gw_iret d_J_compare_19 rfl (Nat.le_refl _) (Nat.le_refl _) ⟨by simp_all [cmpI]; try (intro q; exact absurd q (Int32.not_lt.mpr c_2)), rfl, rfl⟩
theorem c_V_init {n0 n1 n2 n3 : Value} (ha : h a = some (gO 4 [n0, n1, n2, n3])) : SM G l 2 y_V_init M_V_init [.ref a, .int d, .int n, .int f, .ref q] h sz 0 0 (qV (fun h' sz' => h' = gUp h a (gO 4 [.int d, .int n, .int f, .ref q]) ∧ sz' = sz)) := by
  refine SM.of (lv0 := [some (.ref a), some (.int d), some (.int n), some (.int f), some (.ref q)]) (by decide +kernel) rfl ⟨rfl, rfl⟩ rfl (by simp [Value.category]) (Nat.le_of_ble_eq_true rfl) ?_
  refine gw_al0 d_V_init_0 ?_
  refine gw_objInit d_V_init_1 oi_V_init_1 (by decide) (Nat.le_of_ble_eq_true rfl) ?_
  refine gw_al0 d_V_init_4 ?_
  refine gw_il1 d_V_init_5 ?_
  refine gw_pf0 d_V_init_6 ha rfl rfl ?_
  refine gw_al0 d_V_init_9 ?_
  refine gw_il2 d_V_init_10 ?_
  refine gw_pf1 d_V_init_11 (gUp_self _ _ _) rfl rfl ?_
  refine gw_al0 d_V_init_14 ?_
  refine gw_il3 d_V_init_15 ?_
  refine gw_pf2 d_V_init_16 (gUp_self _ _ _) rfl rfl ?_
  refine gw_al0 d_V_init_19 ?_
  refine gw_al4 d_V_init_20 ?_
  refine gw_pf3 d_V_init_22 (gUp_self _ _ _) rfl rfl ?_
  refine gw_vret d_V_init_25 rfl (Nat.le_refl _) (Nat.le_refl _) ⟨rfl, ?_, rfl⟩
  funext b
  by_cases hb : b = a <;> simp [gUp, hb]
theorem c_V_isMark (ha : h a = some (gO 4 [.int d, .int n, .int f, .ref q])) : SM G l 1 y_V_isMark M_V_isMark [.ref a] h sz 0 0 (qR (.int (b2i (decide (n = -1)))) h sz) := by
  refine SM.of (lv0 := [some (.ref a)]) (by decide +kernel) rfl ⟨rfl, rfl⟩ rfl (by simp [Value.category]) (Nat.le_of_ble_eq_true rfl) ?_
  refine gw_al0 d_V_isMark_0 ?_
  refine gw_get d_V_isMark_1 (by assumption) (by rfl) ?_
  refine gw_push d_V_isMark_4 ?_
  refine gw_icne d_V_isMark_5 (fun c_5 => ?_) (fun c_5 => ?_)
  · refine gw_push d_V_isMark_12 ?_
    exact gw_zret d_V_isMark_13 rfl (by decide) (Nat.le_refl _) (Nat.le_refl _) ⟨by simp_all [b2i], rfl, rfl⟩
  · refine gw_push d_V_isMark_8 ?_
    refine gw_goto d_V_isMark_9 ?_
    exact gw_zret d_V_isMark_13 rfl (by decide) (Nat.le_refl _) (Nat.le_refl _) ⟨by simp_all [b2i], rfl, rfl⟩
theorem c_V_hasBytesOf {x : Int32} (ha : h a = some (gO 4 [.int d, .int n, .int f, .ref q])) : SM G l 2 y_V_hasBytesOf M_V_hasBytesOf [.ref a, .int x] h sz 0 0 (qR (.int (b2i (decide (d = x) && decide (n ≠ -1)))) h sz) := by
  refine SM.of (lv0 := [some (.ref a), some (.int x)]) (by decide +kernel) rfl ⟨rfl, rfl⟩ rfl (by simp [Value.category]) (Nat.le_of_ble_eq_true rfl) ?_
  refine gw_al0 d_V_hasBytesOf_0 ?_
  refine gw_get d_V_hasBytesOf_1 (by assumption) (by rfl) ?_
  refine gw_il1 d_V_hasBytesOf_4 ?_
  refine gw_icne d_V_hasBytesOf_5 (fun c_5 => ?_) (fun c_5 => ?_)
  · refine gw_push d_V_hasBytesOf_19 ?_
    exact gw_zret d_V_hasBytesOf_20 rfl (by decide) (Nat.le_refl _) (Nat.le_refl _) ⟨by simp_all [b2i], rfl, rfl⟩
  · refine gw_al0 d_V_hasBytesOf_8 ?_
    refine gw_rV0 d_V_hasBytesOf_9 cs_V_hasBytesOf_9 ha (c_V_isMark ha) ?_
    refine gw_ifne d_V_hasBytesOf_12 (fun c_12 => ?_) (fun c_12 => ?_)
    · refine gw_push d_V_hasBytesOf_19 ?_
      exact gw_zret d_V_hasBytesOf_20 rfl (by decide) (Nat.le_refl _) (Nat.le_refl _) ⟨by simp_all [b2i], rfl, rfl⟩
    · refine gw_push d_V_hasBytesOf_15 ?_
      refine gw_goto d_V_hasBytesOf_16 ?_
      exact gw_zret d_V_hasBytesOf_20 rfl (by decide) (Nat.le_refl _) (Nat.le_refl _) ⟨by simp_all [b2i], rfl, rfl⟩
theorem c_V_byteCount (ha : h a = some (gO 4 [.int d, .int n, .int f, .ref q])) : SM G l 2 y_V_byteCount M_V_byteCount [.ref a] h sz 0 0 (qR (.int (byI n)) h sz) := by
  refine SM.of (lv0 := [some (.ref a)]) (by decide +kernel) rfl ⟨rfl, rfl⟩ rfl (by simp [Value.category]) (Nat.le_of_ble_eq_true rfl) ?_
  refine gw_al0 d_V_byteCount_0 ?_
  refine gw_rV0 d_V_byteCount_1 cs_V_byteCount_1 ha (c_V_isMark ha) ?_
  refine gw_ifeq d_V_byteCount_4 (fun c_4 => ?_) (fun c_4 => ?_)
  · refine gw_al0 d_V_byteCount_11 ?_
    refine gw_get d_V_byteCount_12 (by assumption) (by rfl) ?_
    exact gw_iret d_V_byteCount_15 rfl (Nat.le_refl _) (Nat.le_refl _) ⟨by simp_all [b2i, byI], rfl, rfl⟩
  · refine gw_push d_V_byteCount_7 ?_
    refine gw_goto d_V_byteCount_8 ?_
    exact gw_iret d_V_byteCount_15 rfl (Nat.le_refl _) (Nat.le_refl _) ⟨by simp_all [b2i, byI], rfl, rfl⟩
theorem c_V_roomTaken (ha : h a = some (gO 4 [.int d, .int n, .int f, .ref q])) : SM G l 3 y_V_roomTaken M_V_roomTaken [.ref a] h sz 0 0 (qR (.int (8 + byI n)) h sz) := by
  refine SM.of (lv0 := [some (.ref a)]) (by decide +kernel) rfl ⟨rfl, rfl⟩ rfl (by simp [Value.category]) (Nat.le_of_ble_eq_true rfl) ?_
  refine gw_push d_V_roomTaken_0 ?_
  refine gw_al0 d_V_roomTaken_2 ?_
  refine gw_rV0 d_V_roomTaken_3 cs_V_roomTaken_3 ha (c_V_byteCount ha) ?_
  refine gw_iadd d_V_roomTaken_6 ?_
  exact gw_iret d_V_roomTaken_7 rfl (Nat.le_refl _) (Nat.le_refl _) ⟨rfl, rfl, rfl⟩
theorem c_V_sumOfCounters (ha : h a = some (gO 4 [.int d, .int n, .int f, .ref q])) (hq : h q = some (gI 4 vec)) : SM G l 1 y_V_sumOfCounters M_V_sumOfCounters [.ref a] h sz 0 0 (qR (.int (smN vec 4)) h sz) := by
  refine SM.of (lv0 := [some (.ref a), none, none]) (by decide +kernel) rfl ⟨rfl, rfl⟩ rfl (by simp [Value.category]) (Nat.le_of_ble_eq_true rfl) ?_
  refine gw_push d_V_sumOfCounters_0 ?_
  refine gw_is1 d_V_sumOfCounters_1 ?_
  refine gw_push d_V_sumOfCounters_2 ?_
  refine gw_is2 d_V_sumOfCounters_3 ?_
  have loop : ∀ m j, j ≤ 4 → 4 - j < m → GM G l 1 0 0 (qR (.int (smN vec 4)) h sz) M_V_sumOfCounters 4 [some (.ref a), some (.int (smN vec j)), some (.int (nI j))] [] h sz 0 0 := by
    intro m
    induction m with
    | zero => intro j _ hj; exact absurd hj (Nat.not_lt_zero _)
    | succ m ih =>
      intro j hj hm
      refine gw_il2 d_V_sumOfCounters_4 ?_
      refine gw_push d_V_sumOfCounters_5 ?_
      refine gw_icge d_V_sumOfCounters_6 (fun c_6 => ?_) (fun c_6 => ?_)
      · refine gw_il1 d_V_sumOfCounters_24 ?_
        (have h4 : j = 4 := by { have := n_le (a := 4) c_6 (by decide) (by omega); omega }); subst h4; exact gw_iret d_V_sumOfCounters_25 rfl (Nat.le_refl _) (Nat.le_refl _) ⟨rfl, rfl, rfl⟩
      · refine gw_il1 d_V_sumOfCounters_9 ?_
        refine gw_al0 d_V_sumOfCounters_10 ?_
        refine gw_get d_V_sumOfCounters_11 (by assumption) (by rfl) ?_
        refine gw_il2 d_V_sumOfCounters_14 ?_
        refine gw_iald d_V_sumOfCounters_15 hq j rfl (n_nle (a := 4) c_6 (by decide) (by omega)) (by omega) ?_
        refine gw_iadd d_V_sumOfCounters_16 ?_
        refine gw_is1 d_V_sumOfCounters_17 ?_
        refine gw_ii2 d_V_sumOfCounters_18 (by rw [n_s]; exact gw_goto d_V_sumOfCounters_21 (ih (j + 1) (n_nle (a := 4) c_6 (by decide) (by omega)) (by have := n_nle (a := 4) c_6 (by decide) (by omega); omega)))
        skip
  exact loop 5 0 (by omega) (by omega)
theorem c_V_replaces (ha : h a = some (gO 4 [.int d, .int n, .int f, .ref q])) (hq : h q = some (gI 4 vec)) (ha2 : h a2 = some (gO 4 [.int d2, .int n2, .int f2, .ref q2])) (hq2 : h q2 = some (gI 4 vec2)) : SM G l 1 y_V_replaces M_V_replaces [.ref a, .ref a2] h sz 0 0 (qR (.int (b2i (decide (d = d2) && cov4 vec vec2))) h sz) := by
  refine SM.of (lv0 := [some (.ref a), some (.ref a2), none]) (by decide +kernel) rfl ⟨rfl, rfl⟩ rfl (by simp [Value.category]) (Nat.le_of_ble_eq_true rfl) ?_
  by_cases hdd : d = d2
  · have loop : ∀ m j, j ≤ 4 → 4 - j < m → (∀ i, i < j → ¬ vec i < vec2 i) → GM G l 1 0 0 (qR (.int (b2i (decide (d = d2) && cov4 vec vec2))) h sz) M_V_replaces 15 [some (.ref a), some (.ref a2), some (.int (nI j))] [] h sz 0 0 := by
      intro m
      induction m with
      | zero => intro j _ hj; exact absurd hj (Nat.not_lt_zero _)
      | succ m ih =>
        intro j hj hm hI
        refine gw_il2 d_V_replaces_15 ?_
        refine gw_push d_V_replaces_16 ?_
        refine gw_icge d_V_replaces_17 (fun c_17 => ?_) (fun c_17 => ?_)
        · refine gw_push d_V_replaces_43 ?_
          (have h4 : j = 4 := by { have := n_le (a := 4) c_17 (by decide) (by omega); omega }); subst h4; exact gw_zret d_V_replaces_44 rfl (by decide) (Nat.le_refl _) (Nat.le_refl _) ⟨by rw [cov4_iff.mpr hI]; simp [b2i, hdd], rfl, rfl⟩
        · refine gw_al0 d_V_replaces_20 ?_
          refine gw_get d_V_replaces_21 (by assumption) (by rfl) ?_
          refine gw_il2 d_V_replaces_24 ?_
          have hj4 := n_nle (a := 4) c_17 (by decide) (by omega); refine gw_iald d_V_replaces_25 hq j rfl (by omega) (by omega) ?_
          refine gw_al1 d_V_replaces_26 ?_
          refine gw_get d_V_replaces_27 (by assumption) (by rfl) ?_
          refine gw_il2 d_V_replaces_30 ?_
          refine gw_iald d_V_replaces_31 hq2 j rfl (by omega) (by omega) ?_
          refine gw_icge d_V_replaces_32 (fun c_32 => ?_) (fun c_32 => ?_)
          · refine gw_ii2 d_V_replaces_37 (by rw [n_s]; exact gw_goto d_V_replaces_40 (ih (j + 1) (by omega) (by omega) (lt_s hI (Int32.not_lt.mpr c_32))))
          · refine gw_push d_V_replaces_35 ?_
            exact gw_zret d_V_replaces_36 rfl (by decide) (Nat.le_refl _) (Nat.le_refl _) ⟨by rw [cov4_no hj4 (Int32.not_le.mp c_32)]; simp [b2i], rfl, rfl⟩
    refine gw_al0 d_V_replaces_0 ?_
    refine gw_get d_V_replaces_1 (by assumption) (by rfl) ?_
    refine gw_al1 d_V_replaces_4 ?_
    refine gw_get d_V_replaces_5 (by assumption) (by rfl) ?_
    refine gw_iceq d_V_replaces_8 (fun c_8 => ?_) (fun c_8 => absurd hdd c_8)
    refine gw_push d_V_replaces_13 ?_
    refine gw_is2 d_V_replaces_14 ?_
    exact loop 5 0 (by omega) (by omega) lt_0
  · refine gw_al0 d_V_replaces_0 ?_
    refine gw_get d_V_replaces_1 (by assumption) (by rfl) ?_
    refine gw_al1 d_V_replaces_4 ?_
    refine gw_get d_V_replaces_5 (by assumption) (by rfl) ?_
    refine gw_iceq d_V_replaces_8 (fun c_8 => ?_) (fun c_8 => ?_)
    · exact absurd c_8 hdd
    · refine gw_push d_V_replaces_11 ?_
      exact gw_zret d_V_replaces_12 rfl (by decide) (Nat.le_refl _) (Nat.le_refl _) ⟨by simp [b2i, hdd], rfl, rfl⟩
theorem c_V_compareWith (ha : h a = some (gO 4 [.int d, .int n, .int f, .ref q])) (hq : h q = some (gI 4 vec)) (ha2 : h a2 = some (gO 4 [.int d2, .int n2, .int f2, .ref q2])) (hq2 : h q2 = some (gI 4 vec2)) : SM G l 2 y_V_compareWith M_V_compareWith [.ref a, .ref a2] h sz 0 0 (qR (.int (lxs vec vec2 (cmpI d d2) 4)) h sz) := by
  refine SM.of (lv0 := [some (.ref a), some (.ref a2), none, none]) (by decide +kernel) rfl ⟨rfl, rfl⟩ rfl (by simp [Value.category]) (Nat.le_of_ble_eq_true rfl) ?_
  have loop : ∀ m j, j ≤ 4 → 4 - j < m → GM G l 2 0 0 (qR (.int (lxs vec vec2 (cmpI d d2) 4)) h sz) M_V_compareWith 14 [some (.ref a), some (.ref a2), some (.int (lxs vec vec2 (cmpI d d2) j)), some (.int (nI j))] [] h sz 0 0 := by
    intro m
    induction m with
    | zero => intro j _ hj; exact absurd hj (Nat.not_lt_zero _)
    | succ m ih =>
      intro j hj hm
      refine gw_il3 d_V_compareWith_14 ?_
      refine gw_push d_V_compareWith_15 ?_
      refine gw_icge d_V_compareWith_16 (fun c_16 => ?_) (fun c_16 => ?_)
      · refine gw_il2 d_V_compareWith_45 ?_
        first | (have q4 := n_le (a := 4) c_16 (by decide) (by omega); obtain rfl : j = 4 := (by omega); exact gw_iret d_V_compareWith_46 rfl (Nat.le_refl _) (Nat.le_refl _) ⟨rfl, rfl, rfl⟩) | (have e := lxs_stay c_20 (4 - j); rw [show j + (4 - j) = 4 by omega] at e; exact gw_iret d_V_compareWith_46 rfl (Nat.le_refl _) (Nat.le_refl _) ⟨by rw [e], rfl, rfl⟩)
      · refine gw_il2 d_V_compareWith_19 ?_
        refine gw_ifne d_V_compareWith_20 (fun c_20 => ?_) (fun c_20 => ?_)
        · refine gw_il2 d_V_compareWith_45 ?_
          first | (have q4 := n_le (a := 4) c_16 (by decide) (by omega); obtain rfl : j = 4 := (by omega); exact gw_iret d_V_compareWith_46 rfl (Nat.le_refl _) (Nat.le_refl _) ⟨rfl, rfl, rfl⟩) | (have e := lxs_stay c_20 (4 - j); rw [show j + (4 - j) = 4 by omega] at e; exact gw_iret d_V_compareWith_46 rfl (Nat.le_refl _) (Nat.le_refl _) ⟨by rw [e], rfl, rfl⟩)
        · refine gw_al0 d_V_compareWith_23 ?_
          refine gw_get d_V_compareWith_24 (by assumption) (by rfl) ?_
          refine gw_il3 d_V_compareWith_27 ?_
          have hj4 := n_nle (a := 4) c_16 (by decide) (by omega); refine gw_iald d_V_compareWith_28 hq j rfl (by omega) (by omega) ?_
          refine gw_al1 d_V_compareWith_29 ?_
          refine gw_get d_V_compareWith_30 (by assumption) (by rfl) ?_
          refine gw_il3 d_V_compareWith_33 ?_
          refine gw_iald d_V_compareWith_34 hq2 j rfl (by omega) (by omega) ?_
          refine gw_rS2 d_V_compareWith_35 cs_V_compareWith_35 c_J_compare ?_
          refine gw_is2 d_V_compareWith_38 ?_
          refine gw_ii3 d_V_compareWith_39 (by rw [n_s]; refine gw_goto d_V_compareWith_42 ?_; have e := ih (j + 1) (by omega) (by omega); rw [show lxs vec vec2 (cmpI d d2) (j + 1) = cmpI (vec j) (vec2 j) from by rw [lxs, if_pos c_20]] at e; exact e)
  refine gw_al0 d_V_compareWith_0 ?_
  refine gw_get d_V_compareWith_1 (by assumption) (by rfl) ?_
  refine gw_al1 d_V_compareWith_4 ?_
  refine gw_get d_V_compareWith_5 (by assumption) (by rfl) ?_
  refine gw_rS2 d_V_compareWith_8 cs_V_compareWith_8 c_J_compare ?_
  refine gw_is2 d_V_compareWith_11 ?_
  refine gw_push d_V_compareWith_12 ?_
  refine gw_is3 d_V_compareWith_13 ?_
  exact loop 5 0 (by omega) (by omega)
end Ver
end
section
/-! ===== ArrayList: contracts ===== -/
theorem gUp_gUp (h : gHp) (a : Nat) (e1 e2 : gE) : gUp (gUp h a e1) a e2 = gUp h a e2 := by
  funext b
  by_cases hb : b = a <;> simp [gUp, hb]
theorem gUp_comm (h : gHp) {a b : Nat} (e1 e2 : gE) (hab : a ≠ b) : gUp (gUp h a e1) b e2 = gUp (gUp h b e2) a e1 := by
  funext c
  by_cases hc : c = a
  · subst hc; simp [gUp, hab]
  · by_cases hc2 : c = b
    · subst hc2; simp [gUp, hc]
    · simp [gUp, hc, hc2]
/-- a list's cells: the object at a, its array at e, what it holds -/
def LV (G : gG) (h : gHp) (a e : Nat) (L : List Nat) : Prop := (∃ mo : Int32, h a = some (gO 0 [.int mo, .ref e, .int (nI L.length)])) ∧ L.length ≤ 48 ∧ (∀ x ∈ L, ∃ fs, h x = some (gO 4 fs)) ∧ ((e = gDce G ∧ L = []) ∨ ∃ (cap : Nat) (g : Nat → Option Nat), h e = some (gR 4 cap g) ∧ L.length ≤ cap ∧ 1 ≤ cap ∧ cap ≤ 72 ∧ ∀ i, i < L.length → g i = L[i]?)
/-- nothing that lay below sz has changed, but the cells of X -/
def Fr (h h' : gHp) (sz : Nat) (X : List Nat) : Prop := ∀ b, b < sz → b ∉ X → h' b = h b
section Lists
variable {G : gG} {l : Launch} {h : gHp} {sz : Nat} {a e : Nat} {L : List Nat}
theorem c_J_pCheckIndex {i n : Nat} (hi : i < n) (hn : n < 2147483648) : SM G l 1 y_J_pCheckIndex M_J_pCheckIndex [.int (nI i), .int (nI n), .null] h sz 0 0 (qR (.int (nI i)) h sz) := by
  refine SM.of (lv0 := [some (.int (nI i)), some (.int (nI n)), some .null]) (by decide +kernel) rfl ⟨rfl, rfl⟩ rfl (by simp [Value.category]) (Nat.le_of_ble_eq_true rfl) ?_
  refine gw_il0 d_J_pCheckIndex_0 ?_
  refine gw_iflt d_J_pCheckIndex_1 (fun c_1 => absurd c_1 (nI_pos (by omega))) (fun c_1 => ?_)
  refine gw_il0 d_J_pCheckIndex_4 ?_
  refine gw_il1 d_J_pCheckIndex_5 ?_
  refine gw_iclt d_J_pCheckIndex_6 (fun c_6 => ?_) (fun c_6 => absurd (nI_lt hi hn) c_6)
  refine gw_il0 d_J_pCheckIndex_16 ?_
  exact gw_iret d_J_pCheckIndex_17 rfl (Nat.le_refl _) (Nat.le_refl _) ⟨rfl, rfl, rfl⟩
theorem c_J_checkIndex {i n : Nat} (hi : i < n) (hn : n < 2147483648) : SM G l 2 y_J_checkIndex M_J_checkIndex [.int (nI i), .int (nI n)] h sz 0 0 (qR (.int (nI i)) h sz) := by
  refine SM.of (lv0 := [some (.int (nI i)), some (.int (nI n))]) (by decide +kernel) rfl ⟨rfl, rfl⟩ rfl (by simp [Value.category]) (Nat.le_of_ble_eq_true rfl) ?_
  refine gw_il0 d_J_checkIndex_0 ?_
  refine gw_il1 d_J_checkIndex_1 ?_
  refine gw_null d_J_checkIndex_2 ?_
  refine gw_rS3 d_J_checkIndex_3 cs_J_checkIndex_3 (c_J_pCheckIndex hi hn) ?_
  exact gw_iret d_J_checkIndex_6 rfl (Nat.le_refl _) (Nat.le_refl _) ⟨rfl, rfl, rfl⟩
theorem c_A_size (hL : LV G h a e L) : SM G l 1 y_A_size M_A_size [.ref a] h sz 0 0 (qR (.int (nI L.length)) h sz) := by
  obtain ⟨⟨mo, ha⟩, -⟩ := hL
  refine SM.of (lv0 := [some (.ref a)]) (by decide +kernel) rfl ⟨rfl, rfl⟩ rfl (by simp [Value.category]) (Nat.le_of_ble_eq_true rfl) ?_
  refine gw_al0 d_A_size_0 ?_
  refine gw_get d_A_size_1 (by assumption) (by rfl) ?_
  exact gw_iret d_A_size_4 rfl (Nat.le_refl _) (Nat.le_refl _) ⟨rfl, rfl, rfl⟩
theorem c_A_isEmpty (hL : LV G h a e L) : SM G l 1 y_A_isEmpty M_A_isEmpty [.ref a] h sz 0 0 (qR (.int (b2i L.isEmpty)) h sz) := by
  obtain ⟨⟨mo, ha⟩, h48, -⟩ := hL
  refine SM.of (lv0 := [some (.ref a)]) (by decide +kernel) rfl ⟨rfl, rfl⟩ rfl (by simp [Value.category]) (Nat.le_of_ble_eq_true rfl) ?_
  have e0 : nI L.length = 0 ↔ L = [] := by
    rw [← List.length_eq_zero_iff]
    exact nI_eq (b := 0) (by omega) (by omega)
  refine gw_al0 d_A_isEmpty_0 ?_
  refine gw_get d_A_isEmpty_1 (by assumption) (by rfl) ?_
  refine gw_ifne d_A_isEmpty_4 (fun c_4 => ?_) (fun c_4 => ?_)
  · refine gw_push d_A_isEmpty_11 ?_
    exact gw_zret d_A_isEmpty_12 rfl (by decide) (Nat.le_refl _) (Nat.le_refl _) ⟨by cases L <;> simp_all [b2i], rfl, rfl⟩
  · refine gw_push d_A_isEmpty_7 ?_
    refine gw_goto d_A_isEmpty_8 ?_
    exact gw_zret d_A_isEmpty_12 rfl (by decide) (Nat.le_refl _) (Nat.le_refl _) ⟨by cases L <;> simp_all [b2i], rfl, rfl⟩
theorem LV.item (hL : LV G h a e L) {i x : Nat} (hx : L[i]? = some x) : ∃ (cap : Nat) (g : Nat → Option Nat), h e = some (gR 4 cap g) ∧ i < cap ∧ cap ≤ 72 ∧ g i = some x := by
  have hi : i < L.length := (List.getElem?_eq_some_iff.mp hx).1
  obtain ⟨-, -, -, h3⟩ := hL
  rcases h3 with ⟨-, rfl⟩ | ⟨cap, g, q1, q2, q3, q4, q5⟩
  · simp at hi
  · exact ⟨cap, g, q1, by omega, q4, by rw [q5 i hi, hx]⟩
theorem c_A_elementData (hL : LV G h a e L) {i x : Nat} (hx : L[i]? = some x) : SM G l 1 y_A_elementData M_A_elementData [.ref a, .int (nI i)] h sz 0 0 (qR (.ref x) h sz) := by
  obtain ⟨cap, g, q1, q2, q3, q4⟩ := hL.item hx
  obtain ⟨⟨mo, ha⟩, -⟩ := hL
  refine SM.of (lv0 := [some (.ref a), some (.int (nI i))]) (by decide +kernel) rfl ⟨rfl, rfl⟩ rfl (by simp [Value.category]) (Nat.le_of_ble_eq_true rfl) ?_
  refine gw_al0 d_A_elementData_0 ?_
  refine gw_get d_A_elementData_1 (by assumption) (by rfl) ?_
  refine gw_il1 d_A_elementData_4 ?_
  refine gw_aald d_A_elementData_5 q1 (Or.inr (Or.inr rfl)) i x rfl q2 (by omega) q4 ?_
  exact gw_aret d_A_elementData_6 rfl (Or.inl ⟨_, rfl⟩) (Or.inr ⟨_, rfl⟩) (Nat.le_refl _) (Nat.le_refl _) ⟨rfl, rfl, rfl⟩
theorem c_A_get (hL : LV G h a e L) {i x : Nat} (hx : L[i]? = some x) : SM G l 3 y_A_get M_A_get [.ref a, .int (nI i)] h sz 0 0 (qR (.ref x) h sz) := by
  have hi : i < L.length := (List.getElem?_eq_some_iff.mp hx).1
  have h48 := hL.2.1
  obtain ⟨mo, ha⟩ := hL.1
  refine SM.of (lv0 := [some (.ref a), some (.int (nI i))]) (by decide +kernel) rfl ⟨rfl, rfl⟩ rfl (by simp [Value.category]) (Nat.le_of_ble_eq_true rfl) ?_
  refine gw_il1 d_A_get_0 ?_
  refine gw_al0 d_A_get_1 ?_
  refine gw_get d_A_get_2 (by assumption) (by rfl) ?_
  refine gw_rS2 d_A_get_5 cs_A_get_5 (c_J_checkIndex hi (by omega)) ?_
  refine gw_pop d_A_get_8 rfl ?_
  refine gw_al0 d_A_get_9 ?_
  refine gw_il1 d_A_get_10 ?_
  refine gw_rV1 d_A_get_11 cs_A_get_11 ha (c_A_elementData hL hx) ?_
  exact gw_aret d_A_get_14 rfl (Or.inl ⟨_, rfl⟩) (Or.inr ⟨_, rfl⟩) (Nat.le_refl _) (Nat.le_refl _) ⟨rfl, rfl, rfl⟩
theorem c_J_collInit {ci : Nat} {fs : List Value} : SM G l 1 y_J_collInit M_J_collInit [.ref a] h sz 0 0 (qV (fun h' sz' => h' = h ∧ sz' = sz)) := by
  refine SM.of (lv0 := [some (.ref a)]) (by decide +kernel) rfl ⟨rfl, rfl⟩ rfl (by simp [Value.category]) (Nat.le_of_ble_eq_true rfl) ?_
  refine gw_al0 d_J_collInit_0 ?_
  refine gw_objInit d_J_collInit_1 oi_J_collInit_1 (by decide) (Nat.le_of_ble_eq_true rfl) ?_
  exact gw_vret d_J_collInit_4 rfl (Nat.le_refl _) (Nat.le_refl _) ⟨rfl, rfl, rfl⟩
theorem c_J_listInit {v0 v1 v2 : Value} (ha : h a = some (gO 0 [v0, v1, v2])) : SM G l 2 y_J_listInit M_J_listInit [.ref a] h sz 0 0 (qV (fun h' sz' => h' = gUp h a (gO 0 [.int 0, v1, v2]) ∧ sz' = sz)) := by
  refine SM.of (lv0 := [some (.ref a)]) (by decide +kernel) rfl ⟨rfl, rfl⟩ rfl (by simp [Value.category]) (Nat.le_of_ble_eq_true rfl) ?_
  refine gw_al0 d_J_listInit_0 ?_
  refine gw_cI0 d_J_listInit_1 cs_J_listInit_1 (c_J_collInit (ci := 0) (fs := [])) (fun h' sz' hp _ => ?_)
  obtain ⟨rfl, rfl⟩ := hp
  refine gw_al0 d_J_listInit_4 ?_
  refine gw_push d_J_listInit_5 ?_
  refine gw_pf0 d_J_listInit_6 (by assumption) rfl rfl ?_
  exact gw_vret d_J_listInit_9 rfl (Nat.le_refl _) (Nat.le_refl _) ⟨rfl, rfl, rfl⟩
theorem c_A_init {v0 v1 v2 : Value} (ha : h a = some (gO 0 [v0, v1, .int 0])) : SM G l 3 y_A_init M_A_init [.ref a] h sz 0 0 (qV (fun h' sz' => h' = gUp h a (gO 0 [.int 0, .ref (gDce G), .int 0]) ∧ sz' = sz)) := by
  refine SM.of (lv0 := [some (.ref a)]) (by decide +kernel) rfl ⟨rfl, rfl⟩ rfl (by simp [Value.category]) (Nat.le_of_ble_eq_true rfl) ?_
  refine gw_al0 d_A_init_0 ?_
  refine gw_cI0 d_A_init_1 cs_A_init_1 (c_J_listInit ha) (fun h' sz' hp _ => ?_)
  obtain ⟨rfl, rfl⟩ := hp
  refine gw_al0 d_A_init_4 ?_
  refine gw_getsD d_A_init_5 gs_A_init_5 ?_
  refine gw_pf1 d_A_init_8 (gUp_self _ _ _) rfl rfl ?_
  refine gw_vret d_A_init_11 rfl (Nat.le_refl _) (Nat.le_refl _) ⟨rfl, ?_, rfl⟩
  rw [gUp_gUp]
theorem n_shr1 {n : Nat} (h : n < 2147483648) : nI n >>> ((1 : Int32) &&& 31) = nI (n / 2) := pk_shrN h _ 1 (by decide)
theorem mxI_n {a b : Nat} (ha : a < 2147483648) (hb : b < 2147483648) : mxI (nI a) (nI b) = nI (max a b) := by
  unfold mxI
  by_cases q : a < b
  · rw [if_pos (nI_lt q hb), Nat.max_eq_right (by omega)]
  · rw [if_neg (nI_nlt (by omega) ha), Nat.max_eq_left (by omega)]
theorem mnI_n {a b : Nat} (ha : a < 2147483648) (hb : b < 2147483648) : mnI (nI a) (nI b) = nI (min a b) := by
  unfold mnI
  by_cases q : b < a
  · rw [if_pos (nI_lt q ha), Nat.min_eq_right (by omega)]
  · rw [if_neg (nI_nlt (by omega) hb), Nat.min_eq_left (by omega)]
theorem c_J_newLength {x y z : Nat} (hx : x + y + z < 1000000) (hp : 0 < x + max y z) : SM G l 2 y_J_newLength M_J_newLength [.int (nI x), .int (nI y), .int (nI z)] h sz 0 0 (qR (.int (nI (x + max y z))) h sz) := by
  refine SM.of (lv0 := [some (.int (nI x)), some (.int (nI y)), some (.int (nI z)), none]) (by decide +kernel) rfl ⟨rfl, rfl⟩ rfl (by simp [Value.category]) (Nat.le_of_ble_eq_true rfl) ?_
  refine gw_il0 d_J_newLength_0 ?_
  refine gw_il1 d_J_newLength_1 ?_
  refine gw_il2 d_J_newLength_2 ?_
  refine gw_rS2 d_J_newLength_3 cs_J_newLength_3 c_J_max ?_
  refine gw_iadd d_J_newLength_6 ?_; rw [mxI_n (by omega) (by omega), nI_add]
  refine gw_is3 d_J_newLength_7 ?_
  refine gw_push d_J_newLength_8 ?_
  refine gw_il3 d_J_newLength_9 ?_
  refine gw_icge d_J_newLength_10 (fun c_10 => absurd (n_le (b := 0) c_10 (by omega) (by omega)) (by omega)) (fun c_10 => ?_)
  refine gw_il3 d_J_newLength_13 ?_
  refine gw_push d_J_newLength_14 ?_
  refine gw_icgt d_J_newLength_16 (fun c_16 => absurd (n_lt (a := 2147483639) c_16 (by omega) (by omega)) (by omega)) (fun c_16 => ?_)
  refine gw_il3 d_J_newLength_19 ?_
  exact gw_iret d_J_newLength_20 rfl (Nat.le_refl _) (Nat.le_refl _) ⟨rfl, rfl, rfl⟩
theorem c_J_copyOf3 {n N : Nat} {g : Nat → Option Nat} (hA : h e = some (gR 4 n g)) (hv : ∀ i, i < n → ∀ y, g i = some y → ∃ fs, h y = some (gO 4 fs)) (hn : n ≤ N) (hN : N ≤ 72) : SM G l 2 y_J_copyOf3 M_J_copyOf3 [.ref e, .int (nI N), .ref (gMi G)] h sz 1 72 (fun r h' sz' => r = .inl (some (.ref sz)) ∧ h' = gUp h sz (gR 4 N (va_cpy g (fun _ => none) 0 0 n)) ∧ sz' = sz + 1) := by
  refine SM.of (lv0 := [some (.ref e), some (.int (nI N)), some (.ref (gMi G)), none]) (by decide +kernel) rfl ⟨rfl, rfl⟩ rfl (by simp [Value.category]) (Nat.le_of_ble_eq_true rfl) ?_
  refine GW.wf (fun wf => ?_)
  have hes := (wf e _ hA).2
  refine gw_al2 d_J_copyOf3_0 ?_
  refine gw_ldcM d_J_copyOf3_1 cl_J_copyOf3_1 ?_
  refine gw_acmpne d_J_copyOf3_3 (fun c_3 => absurd rfl c_3) (fun c_3 => ?_)
  refine gw_il1 d_J_copyOf3_6 ?_
  refine gw_newR d_J_copyOf3_7 (Or.inr (Or.inr ⟨rfl, rfl⟩)) cl_J_copyOf3_7 N rfl (by omega) (Nat.le_of_ble_eq_true rfl) (by show 0 + N ≤ 72; omega) ?_
  refine gw_goto d_J_copyOf3_10 ?_
  refine gw_as3 d_J_copyOf3_24 ?_
  refine gw_al0 d_J_copyOf3_25 ?_
  refine gw_push d_J_copyOf3_26 ?_
  refine gw_al3 d_J_copyOf3_27 ?_
  refine gw_push d_J_copyOf3_28 ?_
  refine gw_al0 d_J_copyOf3_29 ?_
  refine gw_alenR d_J_copyOf3_30 ((gUp_ne _ _ (by omega)).trans hA) (Or.inr (Or.inr rfl)) ?_
  refine gw_il1 d_J_copyOf3_31 ?_
  refine gw_rS2 d_J_copyOf3_32 cs_J_copyOf3_32 c_J_min ?_ (hss := by show 0 + N ≤ 72; omega); rw [mnI_n (by omega) (by omega), Nat.min_eq_left hn]
  refine gw_copyR d_J_copyOf3_35 cp_J_copyOf3_35 ((gUp_ne _ _ (by omega)).trans hA) (gUp_self _ _ _) 0 0 n rfl rfl rfl (by omega) (by omega) (by omega) (fun i hi y hy => ?_) (by decide) (Nat.le_of_ble_eq_true rfl) ?_; · (rw [Nat.zero_add] at hy; obtain ⟨fs, hfs⟩ := hv i hi y hy; exact ⟨fs, (gUp_ne _ _ (by have := (wf y _ hfs).2; omega)).trans hfs⟩)
  refine gw_al3 d_J_copyOf3_38 ?_
  exact gw_aret d_J_copyOf3_39 rfl (Or.inr ⟨_, rfl⟩) (Or.inr ⟨_, rfl⟩) (by omega) (by omega) ⟨rfl, by rw [gUp_gUp], rfl⟩
theorem c_J_copyOf {n N : Nat} {g : Nat → Option Nat} (hA : h e = some (gR 4 n g)) (hv : ∀ i, i < n → ∀ y, g i = some y → ∃ fs, h y = some (gO 4 fs)) (hn : n ≤ N) (hN : N ≤ 72) : SM G l 3 y_J_copyOf M_J_copyOf [.ref e, .int (nI N)] h sz 1 72 (fun r h' sz' => r = .inl (some (.ref sz)) ∧ h' = gUp h sz (gR 4 N (va_cpy g (fun _ => none) 0 0 n)) ∧ sz' = sz + 1) := by
  refine SM.of (lv0 := [some (.ref e), some (.int (nI N))]) (by decide +kernel) rfl ⟨rfl, rfl⟩ rfl (by simp [Value.category]) (Nat.le_of_ble_eq_true rfl) ?_
  refine gw_al0 d_J_copyOf_0 ?_
  refine gw_il1 d_J_copyOf_1 ?_
  refine gw_al0 d_J_copyOf_2 ?_
  refine gw_getC d_J_copyOf_3 gc_J_copyOf_3 hA (by decide) (Nat.le_of_ble_eq_true rfl) ?_
  refine gw_cS3 d_J_copyOf_6 cs_J_copyOf_6 (c_J_copyOf3 hA hv hn hN) (fun v h' sz' hp hz => ?_) (fun E h' sz' hp _ => by cases hp.1); obtain ⟨q1, q2, q3⟩ := hp; cases q1
  exact gw_aret d_J_copyOf_9 rfl (Or.inr ⟨_, rfl⟩) (Or.inr ⟨_, rfl⟩) (by omega) (by omega) ⟨rfl, q2, q3⟩
end Lists
end
section
/-! ===== ArrayList: contracts that change it ===== -/
theorem Fr.refl {h : gHp} {sz : Nat} {X : List Nat} : Fr h h sz X := fun _ _ _ => rfl
theorem Fr.trans {h h1 h2 : gHp} {sz sz1 : Nat} {X : List Nat} (a : Fr h h1 sz X) (b : Fr h1 h2 sz1 X) (hs : sz ≤ sz1) : Fr h h2 sz X := fun q hq hx => (b q (Nat.lt_of_lt_of_le hq hs) hx).trans (a q hq hx)
theorem Fr.mono {h h1 : gHp} {sz : Nat} {X Y : List Nat} (a : Fr h h1 sz X) (hxy : ∀ x ∈ X, x ∈ Y) : Fr h h1 sz Y := fun q hq hx => a q hq (fun z => hx (hxy q z))
theorem Fr.up {h h1 : gHp} {sz : Nat} {X : List Nat} {a : Nat} {e : gE} (f : Fr h h1 sz X) (ha : a ∈ X ∨ sz ≤ a) : Fr h (gUp h1 a e) sz X := by
  intro q hq hx
  have hqa : q ≠ a := by
    rintro rfl
    rcases ha with z | z
    · exact hx z
    · omega
  rw [gUp_ne _ _ hqa]
  exact f q hq hx
theorem GW.dce {G : gG} {l : Launch} {Z : State → Array Value → List Frame → State → Prop} {R : Room} {M : gM} {pc : Nat} {lv : List (Option Value)} {st : List Value} {h : gHp} {sz k w : Nat} (kk : gDce G < gBase G → GW G l Z R M pc lv st h sz k w) : GW G l Z R M pc lv st h sz k w := by
  intro p e s m args below meth c H locs ls F hS hR hz hl
  obtain ⟨-, ⟨f, hT⟩, -⟩ := F.2.2.2.2.2.2.2.2.2.2.1
  exact kk (Nat.not_le.mp hT.out) p e s m args below meth c H locs ls F hS hR hz hl
section Lists2
variable {G : gG} {l : Launch} {h : gHp} {sz : Nat} {a e : Nat} {L : List Nat}
/-- the array behind a growth -/
theorem c_A_grow (hL : LV G h a e L) (hful : e = gDce G ∨ ∃ g, h e = some (gR 4 L.length g)) : SM G l 4 y_A_grow M_A_grow [.ref a, .int (nI (L.length + 1))] h sz 1 72 (fun r h' sz' => ∃ (cap : Nat) (g : Nat → Option Nat) (mo : Int32), r = .inl (some (.ref sz)) ∧ sz' = sz + 1 ∧ h a = some (gO 0 [.int mo, .ref e, .int (nI L.length)]) ∧ h' = gUp (gUp h sz (gR 4 cap g)) a (gO 0 [.int mo, .ref sz, .int (nI L.length)]) ∧ L.length < cap ∧ cap ≤ 72 ∧ ∀ i, i < L.length → g i = L[i]?) := by
  obtain ⟨⟨mo, ha⟩, h48, hel, h3⟩ := hL
  refine SM.of (lv0 := [some (.ref a), some (.int (nI (L.length + 1))), none, none]) (by decide +kernel) rfl ⟨rfl, rfl⟩ rfl (by simp [Value.category]) (Nat.le_of_ble_eq_true rfl) ?_
  refine GW.dce (fun hdce => ?_)
  refine GW.wf (fun wf => ?_)
  have has := (wf a _ ha).2
  have hab := (wf a _ ha).1
  rcases h3 with ⟨he, hnil⟩ | ⟨cap, g, q1, q2, q3, q4, q5⟩
  · subst hnil
    refine gw_al0 d_A_grow_0 ?_
    refine gw_get d_A_grow_1 (by assumption) (by rfl) ?_
    refine gw_alenD d_A_grow_4 he ?_
    refine gw_is2 d_A_grow_5 ?_
    refine gw_il2 d_A_grow_6 ?_
    refine gw_ifgt d_A_grow_7 (fun c_7 => absurd c_7 (by decide)) (fun c_7 => ?_)
    refine gw_al0 d_A_grow_10 ?_
    refine gw_get d_A_grow_11 (by assumption) (by rfl) ?_
    refine gw_getsD d_A_grow_14 gs_A_grow_14 ?_
    refine gw_acmpeq d_A_grow_17 (fun c_17 => ?_) (fun c_17 => absurd he c_17)
    refine gw_al0 d_A_grow_45 ?_
    refine gw_push d_A_grow_46 ?_
    refine gw_il1 d_A_grow_48 ?_
    refine gw_rS2 d_A_grow_49 cs_A_grow_49 c_J_max ?_; rw [show mxI 10 (nI (([] : List Nat).length + 1)) = nI 10 from by decide]
    refine gw_newR d_A_grow_52 (Or.inr (Or.inr ⟨rfl, rfl⟩)) cl_A_grow_52 10 rfl (by omega) (Nat.le_of_ble_eq_true rfl) (Nat.le_of_ble_eq_true rfl) ?_
    refine gw_dup_x1 d_A_grow_55 rfl rfl ?_
    refine gw_pf1 d_A_grow_56 ((gUp_ne _ _ (by omega)).trans ha) rfl rfl ?_
    exact gw_aret d_A_grow_59 rfl (Or.inr ⟨_, rfl⟩) (Or.inr ⟨_, rfl⟩) (by omega) (by omega) ⟨10, fun _ => none, mo, rfl, rfl, ha, rfl, by simp, by omega, fun i hi => by simp at hi⟩
  · have hfu : ∃ g, h e = some (gR 4 L.length g) := by
      rcases hful with hd | hd
      · exact absurd (wf e _ q1).1 (by rw [hd]; omega)
      · exact hd
    obtain ⟨g', hg'⟩ := hfu
    have hcg : cap = L.length ∧ g = g' := by
      rw [q1] at hg'
      simp at hg'
      exact hg'
    obtain ⟨rfl, rfl⟩ := hcg
    have hv : ∀ i, i < L.length → ∀ y, g i = some y → ∃ fs, h y = some (gO 4 fs) := fun i hi y hy => hel y (List.mem_of_getElem? ((q5 i hi).symm.trans hy))
    have hnl : L.length + max 1 (L.length / 2) ≤ 72 := by omega
    refine gw_al0 d_A_grow_0 ?_
    refine gw_get d_A_grow_1 (by assumption) (by rfl) ?_
    refine gw_alenR d_A_grow_4 q1 (Or.inr (Or.inr rfl)) ?_
    refine gw_is2 d_A_grow_5 ?_
    refine gw_il2 d_A_grow_6 ?_
    refine gw_ifgt d_A_grow_7 (fun c_7 => ?_) (fun c_7 => absurd (nI_lt (a := 0) (b := L.length) (by omega) (by omega)) c_7)
    refine gw_il2 d_A_grow_20 ?_
    refine gw_il1 d_A_grow_21 ?_
    refine gw_il2 d_A_grow_22 ?_
    refine gw_isub d_A_grow_23 ?_; rw [pk_sub (by omega), show L.length + 1 - L.length = 1 by omega]
    refine gw_il2 d_A_grow_24 ?_
    refine gw_push d_A_grow_25 ?_
    refine gw_ishr d_A_grow_26 ?_; rw [n_shr1 (by omega)]
    refine gw_rS3 d_A_grow_27 cs_A_grow_27 (c_J_newLength (by omega) (by omega)) ?_
    refine gw_is3 d_A_grow_30 ?_
    refine gw_al0 d_A_grow_31 ?_
    refine gw_al0 d_A_grow_32 ?_
    refine gw_get d_A_grow_33 (by assumption) (by rfl) ?_
    refine gw_il3 d_A_grow_36 ?_
    refine gw_cS2 d_A_grow_37 cs_A_grow_37 (c_J_copyOf q1 hv (by omega) hnl) (fun v h' sz' hp hz => ?_) (fun E h' sz' hp _ => by cases hp.1); obtain ⟨w1, rfl, rfl⟩ := hp; cases w1
    refine gw_dup_x1 d_A_grow_40 rfl rfl ?_
    refine gw_pf1 d_A_grow_41 ((gUp_ne _ _ (by omega)).trans ha) rfl rfl ?_
    exact gw_aret d_A_grow_44 rfl (Or.inr ⟨_, rfl⟩) (Or.inr ⟨_, rfl⟩) (by omega) (by omega) ⟨_, _, mo, rfl, rfl, ha, rfl, by omega, hnl, fun i hi => by rw [pk_cpy_in (by omega) (by omega)]; simp; exact q5 i hi⟩
theorem c_A_grow0 (hL : LV G h a e L) (hful : e = gDce G ∨ ∃ g, h e = some (gR 4 L.length g)) : SM G l 5 y_A_grow0 M_A_grow0 [.ref a] h sz 1 72 (fun r h' sz' => ∃ (cap : Nat) (g : Nat → Option Nat) (mo : Int32), r = .inl (some (.ref sz)) ∧ sz' = sz + 1 ∧ h a = some (gO 0 [.int mo, .ref e, .int (nI L.length)]) ∧ h' = gUp (gUp h sz (gR 4 cap g)) a (gO 0 [.int mo, .ref sz, .int (nI L.length)]) ∧ L.length < cap ∧ cap ≤ 72 ∧ ∀ i, i < L.length → g i = L[i]?) := by
  obtain ⟨mo, ha⟩ := hL.1
  refine SM.of (lv0 := [some (.ref a)]) (by decide +kernel) rfl ⟨rfl, rfl⟩ rfl (by simp [Value.category]) (Nat.le_of_ble_eq_true rfl) ?_
  refine gw_al0 d_A_grow0_0 ?_
  refine gw_al0 d_A_grow0_1 ?_
  refine gw_get d_A_grow0_2 (by assumption) (by rfl) ?_
  refine gw_push d_A_grow0_5 ?_
  refine gw_iadd d_A_grow0_6 ?_; rw [n_s]
  refine gw_cV1 d_A_grow0_7 cs_A_grow0_7 ha (c_A_grow hL hful) (fun v h' sz' hp hz => ?_) (fun E h' sz' hp _ => by obtain ⟨_, _, _, q, _⟩ := hp; cases q); obtain ⟨cap, g, mo', w1, w2⟩ := hp; cases w1
  exact gw_aret d_A_grow0_10 rfl (Or.inr ⟨_, rfl⟩) (Or.inr ⟨_, rfl⟩) (by omega) (by omega) ⟨cap, g, mo', rfl, w2⟩
/-- what a change of a list leaves -/
def gLP (G : gG) (h : gHp) (sz a e : Nat) (L' : List Nat) (h' : gHp) (sz' : Nat) : Prop := ∃ e', LV G h' a e' L' ∧ Fr h h' sz [a, e] ∧ (e' = e ∨ (sz ≤ e' ∧ e' < sz')) ∧ sz ≤ sz'
theorem LV.mk {h1 : gHp} {L' : List Nat} {cap : Nat} {g : Nat → Option Nat} {mo : Int32} (h48 : L'.length ≤ 48) (hel : ∀ x ∈ L', x ≠ a ∧ x ≠ e ∧ ∃ fs, h1 x = some (gO 4 fs)) (hae : a ≠ e) (hc : L'.length ≤ cap) (h1c : 1 ≤ cap) (hc72 : cap ≤ 72) (hg : ∀ i, i < L'.length → g i = L'[i]?) : LV G (gUp (gUp h1 e (gR 4 cap g)) a (gO 0 [.int mo, .ref e, .int (nI L'.length)])) a e L' := by
  refine ⟨⟨mo, gUp_self _ _ _⟩, h48, fun x hx => ?_, Or.inr ⟨cap, g, ?_, hc, h1c, hc72, hg⟩⟩
  · obtain ⟨q1, q2, fs, q3⟩ := hel x hx
    exact ⟨fs, by rw [gUp_ne _ _ q1, gUp_ne _ _ q2]; exact q3⟩
  · rw [gUp_ne _ _ (Ne.symm hae), gUp_self]
theorem LV.mod {mo : Int32} (hL : LV G h a e L) : LV G (gUp h a (gO 0 [.int mo, .ref e, .int (nI L.length)])) a e L := by
  obtain ⟨⟨mo', ha⟩, h48, hel, h3⟩ := hL
  refine ⟨⟨mo, gUp_self _ _ _⟩, h48, fun x hx => ?_, ?_⟩
  · obtain ⟨fs, hfs⟩ := hel x hx
    refine ⟨fs, ?_⟩
    rw [gUp_ne]
    · exact hfs
    · rintro rfl; rw [ha] at hfs; simp at hfs
  · rcases h3 with q | ⟨cap, g, q1, q2⟩
    · exact Or.inl q
    · refine Or.inr ⟨cap, g, ?_, q2⟩
      rw [gUp_ne]
      · exact q1
      · rintro rfl; rw [ha] at q1; simp at q1
theorem LV.ne_item (hL : LV G h a e L) {x : Nat} (hx : x ∈ L) : x ≠ a := by
  obtain ⟨⟨mo', ha⟩, h48, hel, h3⟩ := hL
  obtain ⟨fs, hfs⟩ := hel x hx
  rintro rfl; rw [ha] at hfs; simp at hfs
theorem c_A_add3 (hL : LV G h a e L) (h47 : L.length < 48) {x : Nat} {fs : List Value} (hx : h x = some (gO 4 fs)) : SM G l 6 y_A_add3 M_A_add3 [.ref a, .ref x, .ref e, .int (nI L.length)] h sz 1 72 (qV (gLP G h sz a e (L ++ [x]))) := by
  have hL' := hL
  obtain ⟨⟨mo, ha⟩, h48, hel, h3⟩ := hL
  have hxa : x ≠ a := by rintro rfl; rw [ha] at hx; simp at hx
  refine SM.of (lv0 := [some (.ref a), some (.ref x), some (.ref e), some (.int (nI L.length))]) (by decide +kernel) rfl ⟨rfl, rfl⟩ rfl (by simp [Value.category]) (Nat.le_of_ble_eq_true rfl) ?_
  refine GW.dce (fun hdce => ?_)
  refine GW.wf (fun wf => ?_)
  have has := (wf a _ ha).2
  have hxs := (wf x _ hx).2
  have hels : ∀ y ∈ L ++ [x], y ≠ a ∧ y < sz ∧ ∃ fs, h y = some (gO 4 fs) := by
    intro y hy
    rcases List.mem_append.mp hy with q | q
    · obtain ⟨fs', hfs⟩ := hel y q
      exact ⟨hL'.ne_item q, (wf y _ hfs).2, fs', hfs⟩
    · rw [List.mem_singleton.mp q]
      exact ⟨hxa, hxs, fs, hx⟩
  have hget : ∀ (g : Nat → Option Nat), (∀ i, i < L.length → g i = L[i]?) → ∀ i, i < (L ++ [x]).length → va_up g L.length (some x) i = (L ++ [x])[i]? := by
    intro g hg i hi
    simp at hi
    by_cases q : i = L.length
    · subst q; simp [va_up]
    · rw [va_up_ne _ _ q, hg i (by omega), List.getElem?_append_left (by omega)]
  -- when the array is full it grows
  have hgrow : ∀ (hful : e = gDce G ∨ ∃ g, h e = some (gR 4 L.length g)), GM G l 6 1 72 (qV (gLP G h sz a e (L ++ [x]))) M_A_add3 6 [some (.ref a), some (.ref x), some (.ref e), some (.int (nI L.length))] [] h sz 0 0 := by
    intro hful
    refine gw_al0 d_A_add3_6 ?_
    refine gw_cV0 d_A_add3_7 cs_A_add3_7 ha (c_A_grow0 hL' hful) (fun v h' sz' hp hz => ?_) (fun E h' sz' hp _ => by obtain ⟨_, _, _, q, _⟩ := hp; cases q); obtain ⟨cap, g, mo', w1, rfl, w3, rfl, w5, w6, w7⟩ := hp; cases w1
    refine gw_as2 d_A_add3_10 ?_
    refine gw_al2 d_A_add3_11 ?_
    refine gw_il3 d_A_add3_12 ?_
    refine gw_al1 d_A_add3_13 ?_
    refine gw_aast d_A_add3_14 ((gUp_ne _ _ (by omega)).trans (gUp_self _ _ _)) ((gUp_ne _ _ hxa).trans ((gUp_ne _ _ (by omega)).trans hx)) (Or.inr (Or.inr ⟨rfl, rfl⟩)) L.length rfl w5 (by omega) ?_
    refine gw_al0 d_A_add3_15 ?_
    refine gw_il3 d_A_add3_16 ?_
    refine gw_push d_A_add3_17 ?_
    refine gw_iadd d_A_add3_18 ?_; rw [n_s]
    refine gw_pf2 d_A_add3_19 ((gUp_ne _ _ (by omega)).trans (gUp_self _ _ _)) rfl rfl ?_
    refine gw_vret d_A_add3_22 rfl (by omega) (by omega) ⟨rfl, sz, ?_, ?_, Or.inr ⟨Nat.le_refl _, by omega⟩, by omega⟩
    · rw [gUp_comm _ _ _ (show a ≠ sz by omega), gUp_gUp, gUp_gUp]
      have e1 : L.length + 1 = (L ++ [x]).length := by simp
      rw [e1]
      exact LV.mk (by simp; omega) (fun y hy => ⟨(hels y hy).1, by have := (hels y hy).2.1; omega, (hels y hy).2.2⟩) (by omega) (by simp; omega) (by omega) w6 (hget g w7)
    · exact (((Fr.refl.up (Or.inr (Nat.le_refl _))).up (Or.inl (by simp))).up (Or.inr (Nat.le_refl _))).up (Or.inl (by simp))
  rcases h3 with ⟨he, hnil⟩ | ⟨cap, g, q1, q2, q3, q4, q5⟩
  · refine gw_il3 d_A_add3_0 ?_
    refine gw_al2 d_A_add3_1 ?_
    refine gw_alenD d_A_add3_2 he ?_
    refine gw_icne d_A_add3_3 (fun c_3 => absurd (by rw [hnil]; rfl) c_3) (fun c_3 => ?_)
    exact hgrow (Or.inl he)
  · by_cases hfull : cap = L.length
    · subst hfull
      refine gw_il3 d_A_add3_0 ?_
      refine gw_al2 d_A_add3_1 ?_
      refine gw_alenR d_A_add3_2 q1 (Or.inr (Or.inr rfl)) ?_
      refine gw_icne d_A_add3_3 (fun c_3 => absurd rfl c_3) (fun c_3 => ?_)
      exact hgrow (Or.inr ⟨g, q1⟩)
    · have hea : a ≠ e := by rintro rfl; rw [ha] at q1; simp at q1
      refine gw_il3 d_A_add3_0 ?_
      refine gw_al2 d_A_add3_1 ?_
      refine gw_alenR d_A_add3_2 q1 (Or.inr (Or.inr rfl)) ?_
      refine gw_icne d_A_add3_3 (fun c_3 => ?_) (fun c_3 => absurd (n_eq c_3 (by omega) (by omega)) (by omega))
      refine gw_al2 d_A_add3_11 ?_
      refine gw_il3 d_A_add3_12 ?_
      refine gw_al1 d_A_add3_13 ?_
      refine gw_aast d_A_add3_14 q1 hx (Or.inr (Or.inr ⟨rfl, rfl⟩)) L.length rfl (by omega) (by omega) ?_
      refine gw_al0 d_A_add3_15 ?_
      refine gw_il3 d_A_add3_16 ?_
      refine gw_push d_A_add3_17 ?_
      refine gw_iadd d_A_add3_18 ?_; rw [n_s]
      refine gw_pf2 d_A_add3_19 ((gUp_ne _ _ hea).trans ha) rfl rfl ?_
      refine gw_vret d_A_add3_22 rfl (by omega) (by omega) ⟨rfl, e, ?_, ?_, Or.inl rfl, Nat.le_refl _⟩
      · have e1 : L.length + 1 = (L ++ [x]).length := by simp
        rw [e1]
        refine LV.mk (by simp; omega) (fun y hy => ⟨(hels y hy).1, ?_, (hels y hy).2.2⟩) hea (by simp; omega) (by omega) q4 (hget g q5)
        rintro rfl
        obtain ⟨fs', hfs⟩ := (hels y hy).2.2
        rw [q1] at hfs; simp at hfs
      · exact (Fr.refl.up (Or.inl (by simp))).up (Or.inl (by simp))
theorem c_A_add (hL : LV G h a e L) (h47 : L.length < 48) {x : Nat} {fs : List Value} (hx : h x = some (gO 4 fs)) : SM G l 7 y_A_add M_A_add [.ref a, .ref x] h sz 1 72 (fun r h' sz' => r = .inl (some (.int 1)) ∧ gLP G h sz a e (L ++ [x]) h' sz') := by
  have hL' := hL
  obtain ⟨⟨mo, ha⟩, -⟩ := hL
  have hxa : x ≠ a := by rintro rfl; rw [ha] at hx; simp at hx
  refine SM.of (lv0 := [some (.ref a), some (.ref x)]) (by decide +kernel) rfl ⟨rfl, rfl⟩ rfl (by simp [Value.category]) (Nat.le_of_ble_eq_true rfl) ?_
  refine gw_al0 d_A_add_0 ?_
  refine gw_dup d_A_add_1 rfl ?_
  refine gw_get d_A_add_2 (by assumption) (by rfl) ?_
  refine gw_push d_A_add_5 ?_
  refine gw_iadd d_A_add_6 ?_
  refine gw_pf0 d_A_add_7 (by assumption) rfl rfl ?_
  refine gw_al0 d_A_add_10 ?_
  refine gw_al1 d_A_add_11 ?_
  refine gw_al0 d_A_add_12 ?_
  refine gw_get d_A_add_13 (gUp_self _ _ _) (by rfl) ?_
  refine gw_al0 d_A_add_16 ?_
  refine gw_get d_A_add_17 (gUp_self _ _ _) (by rfl) ?_
  refine gw_vV3 d_A_add_20 cs_A_add_20 (gUp_self _ _ _) (c_A_add3 (hL'.mod (mo := mo + 1)) h47 ((gUp_ne _ _ hxa).trans hx)) (fun h' sz' hp hz => ?_)
  refine gw_push d_A_add_23 ?_
  refine gw_zret d_A_add_24 rfl (Or.inr rfl) (by omega) (by omega) ⟨rfl, ?_⟩
  obtain ⟨e', w1, w2, w3, w4⟩ := hp
  exact ⟨e', w1, (Fr.refl.up (Or.inl (by simp))).trans w2 (Nat.le_refl _), w3, w4⟩
end Lists2
end
section
/-! ===== ArrayList: add at a place, remove, clear ===== -/
def insA (L : List Nat) (i x : Nat) : List Nat := L.take i ++ x :: L.drop i
def delA (L : List Nat) (i : Nat) : List Nat := L.take i ++ L.drop (i + 1)
theorem insA_len {L : List Nat} {i x : Nat} (hi : i ≤ L.length) : (insA L i x).length = L.length + 1 := by simp [insA]; omega
theorem delA_len {L : List Nat} {i : Nat} (hi : i < L.length) : (delA L i).length = L.length - 1 := by simp [delA]; omega
theorem insA_get {L : List Nat} {i x : Nat} (hi : i ≤ L.length) (k : Nat) : (insA L i x)[k]? = if k < i then L[k]? else if k = i then some x else L[k - 1]? := by
  unfold insA
  have ht : (L.take i).length = i := by simp; omega
  by_cases h1 : k < i
  · rw [if_pos h1, List.getElem?_append_left (by rw [ht]; exact h1), List.getElem?_take_of_lt h1]
  · rw [if_neg h1, List.getElem?_append_right (by rw [ht]; omega), ht]
    by_cases h2 : k = i
    · subst h2; simp
    · rw [if_neg h2, show k - i = (k - i - 1) + 1 by omega, List.getElem?_cons_succ, List.getElem?_drop, show i + (k - i - 1) = k - 1 by omega]
theorem delA_get {L : List Nat} {i : Nat} (hi : i < L.length) (k : Nat) : (delA L i)[k]? = if k < i then L[k]? else L[k + 1]? := by
  unfold delA
  have ht : (L.take i).length = i := by simp; omega
  by_cases h1 : k < i
  · rw [if_pos h1, List.getElem?_append_left (by rw [ht]; exact h1), List.getElem?_take_of_lt h1]
  · rw [if_neg h1, List.getElem?_append_right (by rw [ht]; omega), ht, List.getElem?_drop, show i + 1 + (k - i) = k + 1 by omega]
theorem insA_mem {L : List Nat} {i x y : Nat} (h : y ∈ insA L i x) : y = x ∨ y ∈ L := by
  unfold insA at h
  rcases List.mem_append.mp h with q | q
  · exact Or.inr (List.mem_of_mem_take q)
  · rcases List.mem_cons.mp q with q | q
    · exact Or.inl q
    · exact Or.inr (List.mem_of_mem_drop q)
theorem delA_mem {L : List Nat} {i y : Nat} (h : y ∈ delA L i) : y ∈ L := by
  unfold delA at h
  rcases List.mem_append.mp h with q | q
  · exact List.mem_of_mem_take q
  · exact List.mem_of_mem_drop q
theorem gUp4 {h : gHp} {a e : Nat} (hae : a ≠ e) {x y z1 z2 : gE} : gUp (gUp (gUp (gUp h a x) e z1) a y) e z2 = gUp (gUp h e z2) a y := by
  funext b
  by_cases h1 : b = a
  · subst h1; simp [gUp, hae]
  · by_cases h2 : b = e
    · subst h2; simp [gUp, h1]
    · simp [gUp, h1, h2]
section Lists3
variable {G : gG} {l : Launch} {h : gHp} {sz : Nat} {a e : Nat} {L : List Nat}
theorem c_A_rangeCheckForAdd (hL : LV G h a e L) {i : Nat} (hi : i ≤ L.length) : SM G l 1 y_A_rangeCheckForAdd M_A_rangeCheckForAdd [.ref a, .int (nI i)] h sz 0 0 (qV (fun h' sz' => h' = h ∧ sz' = sz)) := by
  obtain ⟨⟨mo, ha⟩, h48, -⟩ := hL
  refine SM.of (lv0 := [some (.ref a), some (.int (nI i))]) (by decide +kernel) rfl ⟨rfl, rfl⟩ rfl (by simp [Value.category]) (Nat.le_of_ble_eq_true rfl) ?_
  refine gw_il1 d_A_rangeCheckForAdd_0 ?_
  refine gw_al0 d_A_rangeCheckForAdd_1 ?_
  refine gw_get d_A_rangeCheckForAdd_2 (by assumption) (by rfl) ?_
  refine gw_icgt d_A_rangeCheckForAdd_5 (fun c_5 => absurd (n_lt c_5 (by omega) (by omega)) (by omega)) (fun c_5 => ?_)
  refine gw_il1 d_A_rangeCheckForAdd_8 ?_
  refine gw_ifge d_A_rangeCheckForAdd_9 (fun c_9 => ?_) (fun c_9 => absurd (nI_pos' (by omega)) c_9)
  exact gw_vret d_A_rangeCheckForAdd_25 rfl (Nat.le_refl _) (Nat.le_refl _) ⟨rfl, rfl, rfl⟩
theorem c_A_addAt (hL : LV G h a e L) (h47 : L.length < 48) {i : Nat} (hi : i ≤ L.length) {x : Nat} {fs : List Value} (hx : h x = some (gO 4 fs)) : SM G l 6 y_A_addAt M_A_addAt [.ref a, .int (nI i), .ref x] h sz 1 72 (qV (gLP G h sz a e (insA L i x))) := by
  have hL' := hL
  obtain ⟨⟨mo, ha⟩, h48, hel, h3⟩ := hL
  have hxa : x ≠ a := by rintro rfl; rw [ha] at hx; simp at hx
  refine SM.of (lv0 := [some (.ref a), some (.int (nI i)), some (.ref x), none, none]) (by decide +kernel) rfl ⟨rfl, rfl⟩ rfl (by simp [Value.category]) (Nat.le_of_ble_eq_true rfl) ?_
  refine GW.dce (fun hdce => ?_)
  refine GW.wf (fun wf => ?_)
  have has := (wf a _ ha).2
  have hxs := (wf x _ hx).2
  have hels : ∀ y ∈ insA L i x, y ≠ a ∧ y < sz ∧ ∃ fs, h y = some (gO 4 fs) := by
    intro y hy
    rcases insA_mem hy with rfl | q
    · exact ⟨hxa, hxs, fs, hx⟩
    · obtain ⟨fs', hfs⟩ := hel y q
      exact ⟨hL'.ne_item q, (wf y _ hfs).2, fs', hfs⟩
  have hget : ∀ (g : Nat → Option Nat), (∀ j, j < L.length → g j = L[j]?) → ∀ j, j < (insA L i x).length → va_up (va_cpy g g i (i + 1) (L.length - i)) i (some x) j = (insA L i x)[j]? := by
    intro g hg j hj
    rw [insA_len hi] at hj
    rw [insA_get hi]
    by_cases q1 : j < i
    · rw [if_pos q1, va_up_ne _ _ (by omega), pk_cpy_out (by omega), hg j (by omega)]
    · rw [if_neg q1]
      by_cases q2 : j = i
      · subst q2; rw [if_pos rfl, va_up_self]
      · rw [if_neg q2, va_up_ne _ _ q2, pk_cpy_in (by omega) (by omega), show i + (j - (i + 1)) = j - 1 by omega, hg _ (by omega)]
  -- from pc 38 on, with an array that has room
  have hrest : ∀ (h1 : gHp) (sz1 e1 cap k1 w1 : Nat) (g : Nat → Option Nat) (mo1 : Int32), h1 a = some (gO 0 [.int mo1, .ref e1, .int (nI L.length)]) → h1 e1 = some (gR 4 cap g) → L.length < cap → cap ≤ 72 → (∀ j, j < L.length → g j = L[j]?) → (∀ y, y < sz → y ≠ a → y ≠ e → h1 y = h y) → (e1 = e ∨ (sz ≤ e1 ∧ e1 < sz1)) → sz ≤ sz1 → a ≠ e1 → e1 ≠ x → (∀ y ∈ L, y ≠ e1 ∧ y ≠ e) → x ≠ e → k1 ≤ 1 → w1 ≤ 72 → GM G l 6 1 72 (qV (gLP G h sz a e (insA L i x))) M_A_addAt 38 [some (.ref a), some (.int (nI i)), some (.ref x), some (.int (nI L.length)), some (.ref e1)] [] h1 sz1 k1 w1 := by
    intro h1 sz1 e1 cap k1 w1 g mo1 p1 p2 p3 p4 p5 p6 p7 p8 p9 p10 p11 p12 hk hw
    have hx1 : h1 x = some (gO 4 fs) := by rw [p6 x hxs hxa p12]; exact hx
    refine gw_al4 d_A_addAt_38 ?_
    refine gw_il1 d_A_addAt_40 ?_
    refine gw_al4 d_A_addAt_41 ?_
    refine gw_il1 d_A_addAt_43 ?_
    refine gw_push d_A_addAt_44 ?_
    refine gw_iadd d_A_addAt_45 ?_; rw [n_s]
    refine gw_il3 d_A_addAt_46 ?_
    refine gw_il1 d_A_addAt_47 ?_
    refine gw_isub d_A_addAt_48 ?_; rw [pk_sub hi]
    refine gw_copyR d_A_addAt_49 cp_A_addAt_49 p2 p2 i (i + 1) (L.length - i) rfl rfl rfl (by omega) (by omega) (by omega) (fun j hj y hy => ?_) (by decide) (Nat.le_of_ble_eq_true rfl) ?_; · (rw [p5 _ (by omega)] at hy; have hy' := List.mem_of_getElem? hy; obtain ⟨fs', hfs⟩ := hel y hy'; exact ⟨fs', by rw [p6 y (wf y _ hfs).2 (hL'.ne_item hy') (p11 y hy').2]; exact hfs⟩)
    refine gw_al4 d_A_addAt_52 ?_
    refine gw_il1 d_A_addAt_54 ?_
    refine gw_al2 d_A_addAt_55 ?_
    refine gw_aast d_A_addAt_56 (gUp_self _ _ _) ((gUp_ne _ _ (Ne.symm p10)).trans hx1) (Or.inr (Or.inr ⟨rfl, rfl⟩)) i rfl (by omega) (by omega) ?_
    refine gw_al0 d_A_addAt_57 ?_
    refine gw_il3 d_A_addAt_58 ?_
    refine gw_push d_A_addAt_59 ?_
    refine gw_iadd d_A_addAt_60 ?_; rw [n_s]
    refine gw_pf2 d_A_addAt_61 ((gUp_ne _ _ p9).trans ((gUp_ne _ _ p9).trans p1)) rfl rfl ?_
    refine gw_vret d_A_addAt_64 rfl hk hw ⟨rfl, e1, ?_, ?_, p7, p8⟩
    · rw [gUp_gUp, ← insA_len (x := x) hi]
      refine LV.mk (by rw [insA_len hi]; omega) (fun y hy => ⟨(hels y hy).1, ?_, ?_⟩) p9 (by rw [insA_len hi]; omega) (by omega) p4 (hget g p5)
      · rcases insA_mem hy with rfl | q
        · exact Ne.symm p10
        · exact (p11 y q).1
      · obtain ⟨q1, q2, fs', q3⟩ := hels y hy
        refine ⟨fs', ?_⟩
        rw [p6 y q2 q1]
        · exact q3
        · rcases insA_mem hy with rfl | q
          · exact p12
          · exact (p11 y q).2
    · have f0 : Fr h h1 sz [a, e] := fun y hy hx => p6 y hy (fun z => hx (by simp [z])) (fun z => hx (by simp [z]))
      have hm : e1 ∈ [a, e] ∨ sz ≤ e1 := by rcases p7 with rfl | q; · simp
                                            · exact Or.inr q.1
      exact ((f0.up hm).up hm).up (Or.inl (by simp))
  have hmod := hL'.mod (mo := mo + 1)
  have hgrow : ∀ (hful : e = gDce G ∨ ∃ g, h e = some (gR 4 L.length g)), x ≠ e → (∀ y ∈ L, y ≠ e) → GM G l 6 1 72 (qV (gLP G h sz a e (insA L i x))) M_A_addAt 32 [some (.ref a), some (.int (nI i)), some (.ref x), some (.int (nI L.length)), some (.ref e)] [] (gUp h a (gO 0 [.int (mo + 1), .ref e, .int (nI L.length)])) sz 0 0 := by
    intro hful hxe hye
    have hful2 : e = gDce G ∨ ∃ g, (gUp h a (gO 0 [.int (mo + 1), .ref e, .int (nI L.length)])) e = some (gR 4 L.length g) := by
      rcases hful with q | ⟨g, q⟩
      · exact Or.inl q
      · refine Or.inr ⟨g, ?_⟩
        rw [gUp_ne _ _ (by rintro rfl; rw [ha] at q; simp at q)]
        exact q
    refine gw_al0 d_A_addAt_32 ?_
    refine gw_cV0 d_A_addAt_33 cs_A_addAt_33 (gUp_self _ _ _) (c_A_grow0 hmod hful2) (fun v h' sz' hp hz => ?_) (fun E h' sz' hp _ => by obtain ⟨_, _, _, q, _⟩ := hp; cases q); obtain ⟨cap, g, mo', w1, rfl, w3, rfl, w5, w6, w7⟩ := hp; cases w1
    refine gw_as4 d_A_addAt_36 ?_
    refine hrest _ _ sz cap _ _ g mo' (gUp_self _ _ _) ((gUp_ne _ _ (by omega)).trans (gUp_self _ _ _)) w5 w6 w7 (fun y hy q1 q2 => ?_) (Or.inr ⟨Nat.le_refl _, by omega⟩) (by omega) (by omega) (by omega) (fun y hy => ⟨?_, hye y hy⟩) hxe (by omega) (by omega)
    · rw [gUp_ne _ _ q1, gUp_ne _ _ (by omega), gUp_ne _ _ q1]
    · obtain ⟨fs', hfs⟩ := hel y hy
      have := (wf y _ hfs).2
      omega
  have hkind : ∀ (cap : Nat) (g : Nat → Option Nat), h e = some (gR 4 cap g) → x ≠ e ∧ (∀ y ∈ L, y ≠ e) ∧ a ≠ e := by
    intro cap g q
    refine ⟨?_, fun y hy => ?_, ?_⟩
    · rintro rfl; rw [q] at hx; simp at hx
    · obtain ⟨fs', hfs⟩ := hel y hy
      rintro rfl; rw [q] at hfs; simp at hfs
    · rintro rfl; rw [q] at ha; simp at ha
  refine gw_al0 d_A_addAt_0 ?_
  refine gw_il1 d_A_addAt_1 ?_
  refine gw_vV1 d_A_addAt_2 cs_A_addAt_2 ha (c_A_rangeCheckForAdd hL' hi) (fun h' sz' hp hz => ?_); obtain ⟨rfl, rfl⟩ := hp
  refine gw_al0 d_A_addAt_5 ?_
  refine gw_dup d_A_addAt_6 rfl ?_
  refine gw_get d_A_addAt_7 (by assumption) (by rfl) ?_
  refine gw_push d_A_addAt_10 ?_
  refine gw_iadd d_A_addAt_11 ?_
  refine gw_pf0 d_A_addAt_12 (by assumption) rfl rfl ?_
  refine gw_al0 d_A_addAt_15 ?_
  refine gw_get d_A_addAt_16 (gUp_self _ _ _) (by rfl) ?_
  refine gw_dup d_A_addAt_19 rfl ?_
  refine gw_is3 d_A_addAt_20 ?_
  refine gw_al0 d_A_addAt_21 ?_
  refine gw_get d_A_addAt_22 (gUp_self _ _ _) (by rfl) ?_
  refine gw_dup d_A_addAt_25 rfl ?_
  refine gw_as4 d_A_addAt_26 ?_
  rcases h3 with ⟨he, hnil⟩ | ⟨cap, g, q1, q2, q3, q4, q5⟩
  · refine gw_alenD d_A_addAt_28 he ?_
    refine gw_icne d_A_addAt_29 (fun c_29 => absurd (by rw [hnil]; rfl) c_29) (fun c_29 => ?_)
    exact hgrow (Or.inl he) (by have := (wf x _ hx).1; omega) (by rw [hnil]; simp)
  · obtain ⟨k1, k2, k3⟩ := hkind cap g q1
    by_cases hfull : cap = L.length
    · subst hfull
      refine gw_alenR d_A_addAt_28 ((gUp_ne _ _ (Ne.symm k3)).trans q1) (Or.inr (Or.inr rfl)) ?_
      refine gw_icne d_A_addAt_29 (fun c_29 => absurd rfl c_29) (fun c_29 => ?_)
      exact hgrow (Or.inr ⟨g, q1⟩) k1 k2
    · refine gw_alenR d_A_addAt_28 ((gUp_ne _ _ (Ne.symm k3)).trans q1) (Or.inr (Or.inr rfl)) ?_
      refine gw_icne d_A_addAt_29 (fun c_29 => ?_) (fun c_29 => absurd (n_eq c_29 (by omega) (by omega)) (by omega))
      exact hrest _ _ e cap _ _ g _ (gUp_self _ _ _) ((gUp_ne _ _ (Ne.symm k3)).trans q1) (by omega) q4 q5 (fun y hy r1 r2 => gUp_ne _ _ r1) (Or.inl rfl) (Nat.le_refl _) k3 (Ne.symm k1) (fun y hy => ⟨k2 y hy, k2 y hy⟩) k1 (by omega) (by omega)
theorem c_A_fastRemove (hL : LV G h a e L) {i : Nat} (hi : i < L.length) : SM G l 2 y_A_fastRemove M_A_fastRemove [.ref a, .ref e, .int (nI i)] h sz 0 0 (qV (fun h' sz' => LV G h' a e (delA L i) ∧ Fr h h' sz [a, e] ∧ sz' = sz)) := by
  have hL' := hL
  obtain ⟨⟨mo, ha⟩, h48, hel, h3⟩ := hL
  rcases h3 with ⟨-, rfl⟩ | ⟨cap, g, q1, q2, q3, q4, q5⟩
  · simp at hi
  have hae : a ≠ e := by rintro rfl; rw [q1] at ha; simp at ha
  have hne : ∀ y ∈ L, y ≠ e := by
    intro y hy
    obtain ⟨fs', hfs⟩ := hel y hy
    rintro rfl; rw [q1] at hfs; simp at hfs
  have fin : ∀ (g' : Nat → Option Nat) (mo' : Int32), (∀ j, j < L.length - 1 → g' j = (delA L i)[j]?) → LV G (gUp (gUp h e (gR 4 cap g')) a (gO 0 [.int mo', .ref e, .int (nI (L.length - 1))])) a e (delA L i) := by
    intro g' mo' hg
    rw [← delA_len hi]
    exact LV.mk (by rw [delA_len hi]; omega) (fun y hy => ⟨hL'.ne_item (delA_mem hy), hne y (delA_mem hy), hel y (delA_mem hy)⟩) hae (by rw [delA_len hi]; omega) q3 q4 (by rw [delA_len hi]; exact hg)
  have hpath1 : L.length - 1 ≤ i → ∀ j, j < L.length - 1 → va_up g (L.length - 1) none j = (delA L i)[j]? := by
    intro hge j hj
    rw [va_up_ne _ _ (by omega), q5 j (by omega), delA_get hi, if_pos (by omega)]
  have hpath2 : i < L.length - 1 → ∀ j, j < L.length - 1 → va_up (va_cpy g g (i + 1) i (L.length - 1 - i)) (L.length - 1) none j = (delA L i)[j]? := by
    intro hlt j hj
    rw [va_up_ne _ _ (by omega), delA_get hi]
    by_cases q : j < i
    · rw [if_pos q, pk_cpy_out (by omega), q5 j (by omega)]
    · rw [if_neg q, pk_cpy_in (by omega) (by omega), show i + 1 + (j - i) = j + 1 by omega, q5 _ (by omega)]
  refine SM.of (lv0 := [some (.ref a), some (.ref e), some (.int (nI i)), none]) (by decide +kernel) rfl ⟨rfl, rfl⟩ rfl (by simp [Value.category]) (Nat.le_of_ble_eq_true rfl) ?_
  refine gw_al0 d_A_fastRemove_0 ?_
  refine gw_dup d_A_fastRemove_1 rfl ?_
  refine gw_get d_A_fastRemove_2 (by assumption) (by rfl) ?_
  refine gw_push d_A_fastRemove_5 ?_
  refine gw_iadd d_A_fastRemove_6 ?_
  refine gw_pf0 d_A_fastRemove_7 (by assumption) rfl rfl ?_
  refine gw_al0 d_A_fastRemove_10 ?_
  refine gw_get d_A_fastRemove_11 (gUp_self _ _ _) (by rfl) ?_
  refine gw_push d_A_fastRemove_14 ?_
  refine gw_isub d_A_fastRemove_15 ?_; rw [n_m1 (by omega)]
  refine gw_dup d_A_fastRemove_16 rfl ?_
  refine gw_is3 d_A_fastRemove_17 ?_
  refine gw_il2 d_A_fastRemove_18 ?_
  refine gw_icle d_A_fastRemove_19 (fun c_19 => ?_) (fun c_19 => ?_)
  · refine gw_al1 d_A_fastRemove_34 ?_
    refine gw_al0 d_A_fastRemove_35 ?_
    refine gw_il3 d_A_fastRemove_36 ?_
    refine gw_dup_x1 d_A_fastRemove_37 rfl rfl ?_
    first | (refine gw_pf2 d_A_fastRemove_38 ((gUp_ne _ _ hae).trans (gUp_self _ _ _)) rfl rfl ?_) | (refine gw_pf2 d_A_fastRemove_38 (gUp_self _ _ _) rfl rfl ?_)
    refine gw_null d_A_fastRemove_41 ?_
    first | (refine gw_aastN d_A_fastRemove_42 ((gUp_ne _ _ (Ne.symm hae)).trans (gUp_self _ _ _)) (Or.inr (Or.inr rfl)) (L.length - 1) rfl (by omega) (by omega) ?_) | (refine gw_aastN d_A_fastRemove_42 ((gUp_ne _ _ (Ne.symm hae)).trans ((gUp_ne _ _ (Ne.symm hae)).trans q1)) (Or.inr (Or.inr rfl)) (L.length - 1) rfl (by omega) (by omega) ?_)
    first | (have hlt2 := hlt; refine gw_vret d_A_fastRemove_43 rfl (Nat.le_refl _) (Nat.le_refl _) ⟨rfl, ?_, (((Fr.refl.up (Or.inl (by simp))).up (Or.inl (by simp))).up (Or.inl (by simp))).up (Or.inl (by simp)), rfl⟩; rw [gUp4 hae]; exact fin _ _ (hpath2 hlt)) | (have hge := n_le c_19 (by omega) (by omega); refine gw_vret d_A_fastRemove_43 rfl (Nat.le_refl _) (Nat.le_refl _) ⟨rfl, ?_, ((Fr.refl.up (Or.inl (by simp))).up (Or.inl (by simp))).up (Or.inl (by simp)), rfl⟩; rw [gUp_gUp, gUp_comm _ _ _ hae]; exact fin _ _ (hpath1 hge))
  · refine gw_al1 d_A_fastRemove_22 ?_
    refine gw_il2 d_A_fastRemove_23 ?_
    refine gw_push d_A_fastRemove_24 ?_
    refine gw_iadd d_A_fastRemove_25 ?_; rw [n_s]
    refine gw_al1 d_A_fastRemove_26 ?_
    refine gw_il2 d_A_fastRemove_27 ?_
    refine gw_il3 d_A_fastRemove_28 ?_
    refine gw_il2 d_A_fastRemove_29 ?_
    have hlt := Nat.not_le.mp (fun q => c_19 (nI_le q (by omega))); refine gw_isub d_A_fastRemove_30 ?_; rw [pk_sub (by omega)]
    refine gw_copyR d_A_fastRemove_31 cp_A_fastRemove_31 ((gUp_ne _ _ (Ne.symm hae)).trans q1) ((gUp_ne _ _ (Ne.symm hae)).trans q1) (i + 1) i (L.length - 1 - i) rfl rfl rfl (by omega) (by omega) (by omega) (fun j hj y hy => ?_) (by decide) (Nat.le_of_ble_eq_true rfl) ?_; · (rw [q5 _ (by omega)] at hy; have hy' := List.mem_of_getElem? hy; obtain ⟨fs', hfs⟩ := hel y hy'; exact ⟨fs', by rw [gUp_ne _ _ (hL'.ne_item hy')]; exact hfs⟩)
    refine gw_al1 d_A_fastRemove_34 ?_
    refine gw_al0 d_A_fastRemove_35 ?_
    refine gw_il3 d_A_fastRemove_36 ?_
    refine gw_dup_x1 d_A_fastRemove_37 rfl rfl ?_
    first | (refine gw_pf2 d_A_fastRemove_38 ((gUp_ne _ _ hae).trans (gUp_self _ _ _)) rfl rfl ?_) | (refine gw_pf2 d_A_fastRemove_38 (gUp_self _ _ _) rfl rfl ?_)
    refine gw_null d_A_fastRemove_41 ?_
    first | (refine gw_aastN d_A_fastRemove_42 ((gUp_ne _ _ (Ne.symm hae)).trans (gUp_self _ _ _)) (Or.inr (Or.inr rfl)) (L.length - 1) rfl (by omega) (by omega) ?_) | (refine gw_aastN d_A_fastRemove_42 ((gUp_ne _ _ (Ne.symm hae)).trans ((gUp_ne _ _ (Ne.symm hae)).trans q1)) (Or.inr (Or.inr rfl)) (L.length - 1) rfl (by omega) (by omega) ?_)
    first | (have hlt2 := hlt; refine gw_vret d_A_fastRemove_43 rfl (Nat.le_refl _) (Nat.le_refl _) ⟨rfl, ?_, (((Fr.refl.up (Or.inl (by simp))).up (Or.inl (by simp))).up (Or.inl (by simp))).up (Or.inl (by simp)), rfl⟩; rw [gUp4 hae]; exact fin _ _ (hpath2 hlt)) | (have hge := n_le c_19 (by omega) (by omega); refine gw_vret d_A_fastRemove_43 rfl (Nat.le_refl _) (Nat.le_refl _) ⟨rfl, ?_, ((Fr.refl.up (Or.inl (by simp))).up (Or.inl (by simp))).up (Or.inl (by simp)), rfl⟩; rw [gUp_gUp, gUp_comm _ _ _ hae]; exact fin _ _ (hpath1 hge))
theorem c_A_remove (hL : LV G h a e L) {i x : Nat} (hx : L[i]? = some x) : SM G l 3 y_A_remove M_A_remove [.ref a, .int (nI i)] h sz 0 0 (fun r h' sz' => r = .inl (some (.ref x)) ∧ LV G h' a e (delA L i) ∧ Fr h h' sz [a, e] ∧ sz' = sz) := by
  have hi : i < L.length := (List.getElem?_eq_some_iff.mp hx).1
  have hL' := hL
  obtain ⟨cap, g, q1, q2, q3, q4⟩ := hL.item hx
  obtain ⟨⟨mo, ha⟩, h48, hel, h3⟩ := hL
  refine SM.of (lv0 := [some (.ref a), some (.int (nI i)), none, none]) (by decide +kernel) rfl ⟨rfl, rfl⟩ rfl (by simp [Value.category]) (Nat.le_of_ble_eq_true rfl) ?_
  refine gw_il1 d_A_remove_0 ?_
  refine gw_al0 d_A_remove_1 ?_
  refine gw_get d_A_remove_2 (by assumption) (by rfl) ?_
  refine gw_rS2 d_A_remove_5 cs_A_remove_5 (c_J_checkIndex hi (by omega)) ?_
  refine gw_pop d_A_remove_8 rfl ?_
  refine gw_al0 d_A_remove_9 ?_
  refine gw_get d_A_remove_10 (by assumption) (by rfl) ?_
  refine gw_as2 d_A_remove_13 ?_
  refine gw_al2 d_A_remove_14 ?_
  refine gw_il1 d_A_remove_15 ?_
  refine gw_aald d_A_remove_16 q1 (Or.inr (Or.inr rfl)) i x rfl q2 (by omega) q4 ?_
  refine gw_as3 d_A_remove_17 ?_
  refine gw_al0 d_A_remove_18 ?_
  refine gw_al2 d_A_remove_19 ?_
  refine gw_il1 d_A_remove_20 ?_
  refine gw_vV2 d_A_remove_21 cs_A_remove_21 ha (c_A_fastRemove hL' hi) (fun h' sz' hp hz => ?_)
  refine gw_al3 d_A_remove_24 ?_
  exact gw_aret d_A_remove_25 rfl (Or.inl ⟨_, rfl⟩) (Or.inr ⟨_, rfl⟩) (Nat.le_refl _) (Nat.le_refl _) ⟨rfl, hp⟩
theorem c_A_clear (hL : LV G h a e L) : SM G l 1 y_A_clear M_A_clear [.ref a] h sz 0 0 (qV (fun h' sz' => LV G h' a e [] ∧ Fr h h' sz [a, e] ∧ sz' = sz)) := by
  obtain ⟨⟨mo, ha⟩, h48, hel, h3⟩ := hL
  refine SM.of (lv0 := [some (.ref a), none, none, none]) (by decide +kernel) rfl ⟨rfl, rfl⟩ rfl (by simp [Value.category]) (Nat.le_of_ble_eq_true rfl) ?_
  refine gw_al0 d_A_clear_0 ?_
  refine gw_dup d_A_clear_1 rfl ?_
  refine gw_get d_A_clear_2 (by assumption) (by rfl) ?_
  refine gw_push d_A_clear_5 ?_
  refine gw_iadd d_A_clear_6 ?_
  refine gw_pf0 d_A_clear_7 (by assumption) rfl rfl ?_
  refine gw_al0 d_A_clear_10 ?_
  refine gw_get d_A_clear_11 (gUp_self _ _ _) (by rfl) ?_
  refine gw_as1 d_A_clear_14 ?_
  refine gw_al0 d_A_clear_15 ?_
  refine gw_get d_A_clear_16 (gUp_self _ _ _) (by rfl) ?_
  refine gw_is2 d_A_clear_19 ?_
  refine gw_al0 d_A_clear_20 ?_
  refine gw_push d_A_clear_21 ?_
  refine gw_dup_x1 d_A_clear_22 rfl rfl ?_
  refine gw_pf2 d_A_clear_23 (gUp_self _ _ _) rfl rfl ?_
  refine gw_is3 d_A_clear_26 ?_
  rw [gUp_gUp]
  rcases h3 with ⟨he, rfl⟩ | ⟨cap, g, q1, q2, q3, q4, q5⟩
  · refine gw_il3 d_A_clear_27 ?_
    refine gw_il2 d_A_clear_28 ?_
    refine gw_icge d_A_clear_29 (fun c_29 => ?_) (fun c_29 => absurd (Int32.le_refl _) c_29)
    exact gw_vret d_A_clear_42 rfl (Nat.le_refl _) (Nat.le_refl _) ⟨rfl, ⟨⟨_, gUp_self _ _ _⟩, by simp, by simp, Or.inl ⟨he, rfl⟩⟩, Fr.refl.up (Or.inl (by simp)), rfl⟩
  · have hae : a ≠ e := by rintro rfl; rw [q1] at ha; simp at ha
    have loop : ∀ m j (h1 : gHp) (g1 : Nat → Option Nat), j ≤ L.length → L.length - j < m → h1 a = some (gO 0 [.int (mo + 1), .ref e, .int 0]) → h1 e = some (gR 4 cap g1) → Fr h h1 sz [a, e] → GM G l 1 0 0 (qV (fun h' sz' => LV G h' a e [] ∧ Fr h h' sz [a, e] ∧ sz' = sz)) M_A_clear 27 [some (.ref a), some (.ref e), some (.int (nI L.length)), some (.int (nI j))] [] h1 sz 0 0 := by
      intro m
      induction m with
      | zero => intro j _ _ _ hj; exact absurd hj (Nat.not_lt_zero _)
      | succ m ih =>
        intro j h1 g1 hj hm p1 p2 p3
        refine gw_il3 d_A_clear_27 ?_
        refine gw_il2 d_A_clear_28 ?_
        refine gw_icge d_A_clear_29 (fun c_29 => ?_) (fun c_29 => ?_)
        · exact gw_vret d_A_clear_42 rfl (Nat.le_refl _) (Nat.le_refl _) ⟨rfl, ⟨⟨_, p1⟩, by simp, by simp, Or.inr ⟨cap, g1, p2, by simp, q3, q4, fun i hi => by simp at hi⟩⟩, p3, rfl⟩
        · refine gw_al1 d_A_clear_32 ?_
          refine gw_il3 d_A_clear_33 ?_
          refine gw_null d_A_clear_34 ?_
          have hlt := n_nle c_29 (by omega) (by omega); refine gw_aastN d_A_clear_35 p2 (Or.inr (Or.inr rfl)) j rfl (by omega) (by omega) ?_
          refine gw_ii3 d_A_clear_36 (by rw [n_s]; exact gw_goto d_A_clear_39 (ih (j + 1) _ _ (by omega) (by omega) ((gUp_ne _ _ hae).trans p1) (gUp_self _ _ _) (p3.up (Or.inl (by simp)))))
    exact loop (L.length + 1) 0 _ g (by omega) (by omega) (gUp_self _ _ _) ((gUp_ne _ _ (Ne.symm hae)).trans q1) (Fr.refl.up (Or.inl (by simp)))
end Lists3
end
section
/-! ===== Table: contracts ===== -/
def TV (h : gHp) (t c : Nat) (f : Nat → Int32) : Prop := h t = some (gO 3 [.ref c]) ∧ h c = some (gI 160 f)
def jnV (f : Nat → Int32) (p : Nat) (v : Nat → Int32) (n : Nat) : Nat → Int32 := fun i => if p ≤ i ∧ i < p + n then mxI (f i) (v (i - p)) else f i
theorem jnV_0 (f : Nat → Int32) (p : Nat) (v : Nat → Int32) : jnV f p v 0 = f := by
  funext i
  unfold jnV
  rw [if_neg (by omega)]
theorem jnV_s (f : Nat → Int32) (p : Nat) (v : Nat → Int32) (n : Nat) : upd (jnV f p v n) (p + n) (mxI (jnV f p v n (p + n)) (v n)) = jnV f p v (n + 1) := by
  funext i
  by_cases q : i = p + n
  · subst q
    rw [pk_us]
    unfold jnV
    rw [if_neg (by omega), if_pos (by omega), show p + n - p = n by omega]
  · rw [pk_un q]
    unfold jnV
    by_cases q2 : p ≤ i ∧ i < p + n
    · rw [if_pos q2, if_pos (by omega)]
    · rw [if_neg q2, if_neg (by omega)]
theorem n_lit (n : Nat) : (OfNat.ofNat n : Int32) = nI n := rfl
section Tab
variable {G : gG} {l : Launch} {h : gHp} {sz : Nat} {t c : Nat} {f : Nat → Int32} {x q : Nat} {n fl : Int32} {dd : Nat} {vec : Nat → Int32}
theorem c_J_checkLength {p : Nat} (hp : p < 1000) : SM G l 1 y_J_checkLength M_J_checkLength [.int (nI p), .int (nI (p + 4))] h sz 0 0 (qV (fun h' sz' => h' = h ∧ sz' = sz)) := by
  refine SM.of (lv0 := [some (.int (nI p)), some (.int (nI (p + 4)))]) (by decide +kernel) rfl ⟨rfl, rfl⟩ rfl (by simp [Value.category]) (Nat.le_of_ble_eq_true rfl) ?_
  refine gw_il1 d_J_checkLength_0 ?_
  refine gw_il0 d_J_checkLength_1 ?_
  refine gw_icge d_J_checkLength_2 (fun c_2 => ?_) (fun c_2 => absurd (nI_le (by omega) (by omega)) c_2)
  exact gw_vret d_J_checkLength_37 rfl (Nat.le_refl _) (Nat.le_refl _) ⟨rfl, rfl, rfl⟩
theorem c_J_copyOfRangeInt {a p N : Nat} {g : Nat → Int32} (hA : h a = some (gI N g)) (hp : p + 4 ≤ N) (hN : N ≤ 1000) : SM G l 2 y_J_copyOfRangeInt M_J_copyOfRangeInt [.ref a, .int (nI p), .int (nI (p + 4))] h sz 1 4 (fun r h' sz' => r = .inl (some (.ref sz)) ∧ h' = gUp h sz (gI 4 (va_cpy g (fun _ => 0) p 0 4)) ∧ sz' = sz + 1) := by
  refine SM.of (lv0 := [some (.ref a), some (.int (nI p)), some (.int (nI (p + 4))), none, none]) (by decide +kernel) rfl ⟨rfl, rfl⟩ rfl (by simp [Value.category]) (Nat.le_of_ble_eq_true rfl) ?_
  refine GW.wf (fun wf => ?_)
  have hes := (wf a _ hA).2
  refine gw_il1 d_J_copyOfRangeInt_0 ?_
  refine gw_il2 d_J_copyOfRangeInt_1 ?_
  refine gw_vS2 d_J_copyOfRangeInt_2 cs_J_copyOfRangeInt_2 (c_J_checkLength (by omega)) (fun h' sz' hp9 hz => ?_); obtain ⟨w8, w9⟩ := hp9; subst w8 w9
  refine gw_il2 d_J_copyOfRangeInt_5 ?_
  refine gw_il1 d_J_copyOfRangeInt_6 ?_
  refine gw_isub d_J_copyOfRangeInt_7 ?_; rw [pk_sub (by omega), show p + 4 - p = 4 by omega]
  refine gw_is3 d_J_copyOfRangeInt_8 ?_
  refine gw_il3 d_J_copyOfRangeInt_9 ?_
  refine gw_newI d_J_copyOfRangeInt_10 gw_aI 4 rfl (by omega) (Nat.le_of_ble_eq_true rfl) (Nat.le_of_ble_eq_true rfl) ?_
  refine gw_as4 d_J_copyOfRangeInt_12 ?_
  refine gw_al0 d_J_copyOfRangeInt_14 ?_
  refine gw_il1 d_J_copyOfRangeInt_15 ?_
  refine gw_al4 d_J_copyOfRangeInt_16 ?_
  refine gw_push d_J_copyOfRangeInt_18 ?_
  refine gw_al0 d_J_copyOfRangeInt_19 ?_
  refine gw_alenI d_J_copyOfRangeInt_20 ((gUp_ne _ _ (by omega)).trans hA) ?_
  refine gw_il1 d_J_copyOfRangeInt_21 ?_
  refine gw_isub d_J_copyOfRangeInt_22 ?_; rw [pk_sub (by omega)]
  refine gw_il3 d_J_copyOfRangeInt_23 ?_
  refine gw_rS2 d_J_copyOfRangeInt_24 cs_J_copyOfRangeInt_24 c_J_min ?_; rw [mnI_n (by omega) (by omega), Nat.min_eq_right (by omega)]
  refine gw_copyI d_J_copyOfRangeInt_27 cp_J_copyOfRangeInt_27 ((gUp_ne _ _ (by omega)).trans hA) (gUp_self _ _ _) p 0 4 rfl rfl rfl (by omega) (by omega) (by omega) (by decide) (Nat.le_of_ble_eq_true rfl) ?_
  refine gw_al4 d_J_copyOfRangeInt_30 ?_
  exact gw_aret d_J_copyOfRangeInt_32 rfl (Or.inr ⟨_, rfl⟩) (Or.inr ⟨_, rfl⟩) (by omega) (by omega) ⟨rfl, by rw [gUp_gUp], rfl⟩
theorem c_J_copyOfRange {a p N : Nat} {g : Nat → Int32} (hA : h a = some (gI N g)) (hp : p + 4 ≤ N) (hN : N ≤ 1000) (hN4 : 4 < N) : SM G l 3 y_J_copyOfRange M_J_copyOfRange [.ref a, .int (nI p), .int (nI (p + 4))] h sz 1 4 (fun r h' sz' => r = .inl (some (.ref sz)) ∧ h' = gUp h sz (gI 4 (va_cpy g (fun _ => 0) p 0 4)) ∧ sz' = sz + 1) := by
  refine SM.of (lv0 := [some (.ref a), some (.int (nI p)), some (.int (nI (p + 4)))]) (by decide +kernel) rfl ⟨rfl, rfl⟩ rfl (by simp [Value.category]) (Nat.le_of_ble_eq_true rfl) ?_
  have hrest : GM G l 3 1 4 (fun r h' sz' => r = .inl (some (.ref sz)) ∧ h' = gUp h sz (gI 4 (va_cpy g (fun _ => 0) p 0 4)) ∧ sz' = sz + 1) M_J_copyOfRange 10 [some (.ref a), some (.int (nI p)), some (.int (nI (p + 4)))] [] h sz 0 0 := by
    refine gw_al0 d_J_copyOfRange_10 ?_
    refine gw_il1 d_J_copyOfRange_11 ?_
    refine gw_il2 d_J_copyOfRange_12 ?_
    refine gw_cS3 d_J_copyOfRange_13 cs_J_copyOfRange_13 (c_J_copyOfRangeInt hA hp hN) (fun v h' sz' hp hz => ?_) (fun E h' sz' hp _ => by cases hp.1); obtain ⟨w1, w2, w3⟩ := hp; cases w1
    exact gw_aret d_J_copyOfRange_16 rfl (Or.inr ⟨_, rfl⟩) (Or.inr ⟨_, rfl⟩) (by omega) (by omega) ⟨rfl, w2, w3⟩
  refine gw_il1 d_J_copyOfRange_0 ?_
  refine gw_ifne d_J_copyOfRange_1 (fun c_1 => ?_) (fun c_1 => ?_)
  · exact hrest
  · refine gw_il2 d_J_copyOfRange_4 ?_
    refine gw_al0 d_J_copyOfRange_5 ?_
    refine gw_alenI d_J_copyOfRange_6 hA ?_
    refine gw_iceq d_J_copyOfRange_7 (fun c_7 => absurd (n_eq c_7 (by omega) (by omega)) (by have := n_eq (b := 0) c_1 (by omega) (by omega); omega)) (fun c_7 => ?_)
    exact hrest
theorem c_J_fill {a N : Nat} {g : Nat → Int32} {v : Int32} (hA : h a = some (gI N g)) (hN : N ≤ 1000) : SM G l 1 y_J_fill M_J_fill [.ref a, .int v] h sz 0 0 (qV (fun h' sz' => (∃ g', h' = gUp h a (gI N g') ∧ ∀ i, i < N → g' i = v) ∧ sz' = sz)) := by
  refine SM.of (lv0 := [some (.ref a), some (.int v), none, none]) (by decide +kernel) rfl ⟨rfl, rfl⟩ rfl (by simp [Value.category]) (Nat.le_of_ble_eq_true rfl) ?_
  refine gw_push d_J_fill_0 ?_
  refine gw_is2 d_J_fill_1 ?_
  refine gw_al0 d_J_fill_2 ?_
  refine gw_alenI d_J_fill_3 hA ?_
  refine gw_is3 d_J_fill_4 ?_
  have loop : ∀ m j (h1 : gHp) (g1 : Nat → Int32), j ≤ N → N - j < m → h1 = gUp h a (gI N g1) → (∀ i, i < j → g1 i = v) → GM G l 1 0 0 (qV (fun h' sz' => (∃ g', h' = gUp h a (gI N g') ∧ ∀ i, i < N → g' i = v) ∧ sz' = sz)) M_J_fill 5 [some (.ref a), some (.int v), some (.int (nI j)), some (.int (nI N))] [] h1 sz 0 0 := by
    intro m
    induction m with
    | zero => intro j _ _ _ hj; exact absurd hj (Nat.not_lt_zero _)
    | succ m ih =>
      intro j h1 g1 hj hm p1 p2
      subst p1
      refine gw_il2 d_J_fill_5 ?_
      refine gw_il3 d_J_fill_6 ?_
      refine gw_icge d_J_fill_7 (fun c_7 => ?_) (fun c_7 => ?_)
      · exact gw_vret d_J_fill_20 rfl (Nat.le_refl _) (Nat.le_refl _) ⟨rfl, ⟨g1, rfl, fun i hi => p2 i (by have := n_le c_7 (by omega) (by omega); omega)⟩, rfl⟩
      · refine gw_al0 d_J_fill_10 ?_
        refine gw_il2 d_J_fill_11 ?_
        refine gw_il1 d_J_fill_12 ?_
        have hlt := n_nle c_7 (by omega) (by omega); refine gw_iast d_J_fill_13 (gUp_self _ _ _) j rfl (by omega) (by omega) ?_
        refine gw_ii2 d_J_fill_14 (by rw [n_s]; exact gw_goto d_J_fill_17 (ih (j + 1) _ _ (by omega) (by omega) (gUp_gUp _ _ _ _) (lt_s (fun i hi => by rw [pk_un (by omega)]; exact p2 i hi) pk_us)))
  refine loop (N + 1) 0 h g (by omega) (by omega) ?_ lt_0
  funext b
  by_cases hb : b = a
  · subst hb; rw [gUp_self]; exact hA
  · rw [gUp_ne _ _ hb]
theorem c_T_init {v0 : Value} (ht : h t = some (gO 3 [v0])) : SM G l 1 y_T_init M_T_init [.ref t] h sz 1 160 (qV (fun h' sz' => h' = gUp (gUp h sz (gI 160 (fun _ => 0))) t (gO 3 [.ref sz]) ∧ sz' = sz + 1)) := by
  refine SM.of (lv0 := [some (.ref t)]) (by decide +kernel) rfl ⟨rfl, rfl⟩ rfl (by simp [Value.category]) (Nat.le_of_ble_eq_true rfl) ?_
  refine GW.wf (fun wf => ?_)
  have hts := (wf t _ ht).2
  refine gw_al0 d_T_init_0 ?_
  refine gw_objInit d_T_init_1 oi_T_init_1 (by decide) (Nat.le_of_ble_eq_true rfl) ?_
  refine gw_al0 d_T_init_4 ?_
  refine gw_push d_T_init_5 ?_
  refine gw_newI d_T_init_8 gw_aI 160 rfl (by omega) (Nat.le_of_ble_eq_true rfl) (Nat.le_of_ble_eq_true rfl) ?_
  refine gw_pf0 d_T_init_10 ((gUp_ne _ _ (by omega)).trans ht) rfl rfl ?_
  exact gw_vret d_T_init_13 rfl (by omega) (by omega) ⟨rfl, rfl, rfl⟩
theorem c_T_startOf {s d : Nat} : SM G l 1 y_T_startOf M_T_startOf [.int (nI s), .int (nI d)] h sz 0 0 (qR (.int (nI ((s * 10 + d) * 4))) h sz) := by
  refine SM.of (lv0 := [some (.int (nI s)), some (.int (nI d))]) (by decide +kernel) rfl ⟨rfl, rfl⟩ rfl (by simp [Value.category]) (Nat.le_of_ble_eq_true rfl) ?_
  refine gw_il0 d_T_startOf_0 ?_
  refine gw_push d_T_startOf_1 ?_
  refine gw_imul d_T_startOf_3 ?_; rw [n_lit 10, pk_mul]
  refine gw_il1 d_T_startOf_4 ?_
  refine gw_iadd d_T_startOf_5 ?_; rw [nI_add]
  refine gw_push d_T_startOf_6 ?_
  refine gw_imul d_T_startOf_7 ?_; rw [n_lit 4, pk_mul]
  exact gw_iret d_T_startOf_8 rfl (Nat.le_refl _) (Nat.le_refl _) ⟨rfl, rfl, rfl⟩
theorem c_T_counterAt (hT : TV h t c f) {s d j : Nat} (hs : s < 4) (hd : d < 10) (hj : j < 4) : SM G l 2 y_T_counterAt M_T_counterAt [.ref t, .int (nI s), .int (nI d), .int (nI j)] h sz 0 0 (qR (.int (f ((s * 10 + d) * 4 + j))) h sz) := by
  obtain ⟨ht, hc⟩ := hT
  refine SM.of (lv0 := [some (.ref t), some (.int (nI s)), some (.int (nI d)), some (.int (nI j))]) (by decide +kernel) rfl ⟨rfl, rfl⟩ rfl (by simp [Value.category]) (Nat.le_of_ble_eq_true rfl) ?_
  refine gw_al0 d_T_counterAt_0 ?_
  refine gw_get d_T_counterAt_1 (by assumption) (by rfl) ?_
  refine gw_il1 d_T_counterAt_4 ?_
  refine gw_il2 d_T_counterAt_5 ?_
  refine gw_rS2 d_T_counterAt_6 cs_T_counterAt_6 c_T_startOf ?_
  refine gw_il3 d_T_counterAt_9 ?_
  refine gw_iadd d_T_counterAt_10 ?_; rw [nI_add]
  refine gw_iald d_T_counterAt_11 hc _ rfl (by omega) (by omega) ?_
  exact gw_iret d_T_counterAt_12 rfl (Nat.le_refl _) (Nat.le_refl _) ⟨rfl, rfl, rfl⟩
theorem c_T_vectorAt (hT : TV h t c f) {s d : Nat} (hs : s < 4) (hd : d < 10) : SM G l 4 y_T_vectorAt M_T_vectorAt [.ref t, .int (nI s), .int (nI d)] h sz 1 4 (fun r h' sz' => r = .inl (some (.ref sz)) ∧ h' = gUp h sz (gI 4 (va_cpy f (fun _ => 0) ((s * 10 + d) * 4) 0 4)) ∧ sz' = sz + 1) := by
  obtain ⟨ht, hc⟩ := hT
  refine SM.of (lv0 := [some (.ref t), some (.int (nI s)), some (.int (nI d)), none]) (by decide +kernel) rfl ⟨rfl, rfl⟩ rfl (by simp [Value.category]) (Nat.le_of_ble_eq_true rfl) ?_
  refine gw_il1 d_T_vectorAt_0 ?_
  refine gw_il2 d_T_vectorAt_1 ?_
  refine gw_rS2 d_T_vectorAt_2 cs_T_vectorAt_2 c_T_startOf ?_
  refine gw_is3 d_T_vectorAt_5 ?_
  refine gw_al0 d_T_vectorAt_6 ?_
  refine gw_get d_T_vectorAt_7 (by assumption) (by rfl) ?_
  refine gw_il3 d_T_vectorAt_10 ?_
  refine gw_il3 d_T_vectorAt_11 ?_
  refine gw_push d_T_vectorAt_12 ?_
  refine gw_iadd d_T_vectorAt_13 ?_; rw [n_lit 4, nI_add]
  refine gw_cS3 d_T_vectorAt_14 cs_T_vectorAt_14 (c_J_copyOfRange hc (by omega) (by omega) (by omega)) (fun v h' sz' hp hz => ?_) (fun E h' sz' hp _ => by cases hp.1); obtain ⟨w1, w2, w3⟩ := hp; cases w1
  exact gw_aret d_T_vectorAt_17 rfl (Or.inr ⟨_, rfl⟩) (Or.inr ⟨_, rfl⟩) (by omega) (by omega) ⟨rfl, w2, w3⟩
theorem c_T_covers (hT : TV h t c f) {s : Nat} (hs : s < 4) (hd : dd < 10) (hx : h x = some (gO 4 [.int (nI dd), .int n, .int fl, .ref q])) (hq : h q = some (gI 4 vec)) : SM G l 2 y_T_covers M_T_covers [.ref t, .int (nI s), .ref x] h sz 0 0 (qR (.int (b2i (cov4 (fun j => f ((s * 10 + dd) * 4 + j)) vec))) h sz) := by
  obtain ⟨ht, hc⟩ := hT
  refine SM.of (lv0 := [some (.ref t), some (.int (nI s)), some (.ref x), none, none]) (by decide +kernel) rfl ⟨rfl, rfl⟩ rfl (by simp [Value.category]) (Nat.le_of_ble_eq_true rfl) ?_
  have loop : ∀ m j, j ≤ 4 → 4 - j < m → (∀ i, i < j → ¬ f ((s * 10 + dd) * 4 + i) < vec i) → GM G l 2 0 0 (qR (.int (b2i (cov4 (fun j => f ((s * 10 + dd) * 4 + j)) vec))) h sz) M_T_covers 12 [some (.ref t), some (.int (nI s)), some (.ref x), some (.int (nI ((s * 10 + dd) * 4))), some (.int (nI j))] [] h sz 0 0 := by
    intro m
    induction m with
    | zero => intro j _ hj; exact absurd hj (Nat.not_lt_zero _)
    | succ m ih =>
      intro j hj hm hI
      refine gw_il4 d_T_covers_12 ?_
      refine gw_push d_T_covers_14 ?_
      refine gw_icge d_T_covers_15 (fun c_15 => ?_) (fun c_15 => ?_)
      · refine gw_push d_T_covers_45 ?_
        have q4 := n_le (a := 4) c_15 (by decide) (by omega); obtain rfl : j = 4 := (by omega); exact gw_zret d_T_covers_46 rfl (by decide) (Nat.le_refl _) (Nat.le_refl _) ⟨by rw [cov4_iff.mpr hI]; simp [b2i], rfl, rfl⟩
      · refine gw_al0 d_T_covers_18 ?_
        refine gw_get d_T_covers_19 (by assumption) (by rfl) ?_
        refine gw_il3 d_T_covers_22 ?_
        refine gw_il4 d_T_covers_23 ?_
        have hj4 := n_nle (a := 4) c_15 (by decide) (by omega); refine gw_iadd d_T_covers_25 ?_; rw [nI_add]
        refine gw_iald d_T_covers_26 hc _ rfl (by omega) (by omega) ?_
        refine gw_al2 d_T_covers_27 ?_
        refine gw_get d_T_covers_28 (by assumption) (by rfl) ?_
        refine gw_il4 d_T_covers_31 ?_
        refine gw_iald d_T_covers_33 hq j rfl (by omega) (by omega) ?_
        refine gw_icge d_T_covers_34 (fun c_34 => ?_) (fun c_34 => ?_)
        · refine gw_ii4 d_T_covers_39 (by rw [n_s]; exact gw_goto d_T_covers_42 (ih (j + 1) (by omega) (by omega) (lt_s hI (Int32.not_lt.mpr c_34))))
        · refine gw_push d_T_covers_37 ?_
          exact gw_zret d_T_covers_38 rfl (by decide) (Nat.le_refl _) (Nat.le_refl _) ⟨by rw [cov4_no hj4 (Int32.not_le.mp c_34)]; simp [b2i], rfl, rfl⟩
  refine gw_il1 d_T_covers_0 ?_
  refine gw_al2 d_T_covers_1 ?_
  refine gw_get d_T_covers_2 (by assumption) (by rfl) ?_
  refine gw_rS2 d_T_covers_5 cs_T_covers_5 c_T_startOf ?_
  refine gw_is3 d_T_covers_8 ?_
  refine gw_push d_T_covers_9 ?_
  refine gw_is4 d_T_covers_10 ?_
  exact loop 5 0 (by omega) (by omega) lt_0
theorem c_T_joinVersion (hT : TV h t c f) {s : Nat} (hs : s < 4) (hd : dd < 10) (hx : h x = some (gO 4 [.int (nI dd), .int n, .int fl, .ref q])) (hq : h q = some (gI 4 vec)) : SM G l 2 y_T_joinVersion M_T_joinVersion [.ref t, .int (nI s), .ref x] h sz 0 0 (qV (fun h' sz' => h' = gUp h c (gI 160 (jnV f ((s * 10 + dd) * 4) vec 4)) ∧ sz' = sz)) := by
  obtain ⟨ht, hc⟩ := hT
  have htc : t ≠ c := by rintro rfl; rw [ht] at hc; simp at hc
  have hxc : x ≠ c := by rintro rfl; rw [hx] at hc; simp at hc
  have hqc : q ≠ c := by rintro rfl; rw [hq] at hc; simp at hc
  refine SM.of (lv0 := [some (.ref t), some (.int (nI s)), some (.ref x), none, none]) (by decide +kernel) rfl ⟨rfl, rfl⟩ rfl (by simp [Value.category]) (Nat.le_of_ble_eq_true rfl) ?_
  have loop : ∀ m j, j ≤ 4 → 4 - j < m → GM G l 2 0 0 (qV (fun h' sz' => h' = gUp h c (gI 160 (jnV f ((s * 10 + dd) * 4) vec 4)) ∧ sz' = sz)) M_T_joinVersion 12 [some (.ref t), some (.int (nI s)), some (.ref x), some (.int (nI ((s * 10 + dd) * 4))), some (.int (nI j))] [] (gUp h c (gI 160 (jnV f ((s * 10 + dd) * 4) vec j))) sz 0 0 := by
    intro m
    induction m with
    | zero => intro j _ hj; exact absurd hj (Nat.not_lt_zero _)
    | succ m ih =>
      intro j hj hm
      have p1 := (gUp_ne h (gI 160 (jnV f ((s * 10 + dd) * 4) vec j)) htc).trans ht
      have p2 := (gUp_ne h (gI 160 (jnV f ((s * 10 + dd) * 4) vec j)) hxc).trans hx
      have p3 := (gUp_ne h (gI 160 (jnV f ((s * 10 + dd) * 4) vec j)) hqc).trans hq
      refine gw_il4 d_T_joinVersion_12 ?_
      refine gw_push d_T_joinVersion_14 ?_
      refine gw_icge d_T_joinVersion_15 (fun c_15 => ?_) (fun c_15 => ?_)
      · have q4 := n_le (a := 4) c_15 (by decide) (by omega); obtain rfl : j = 4 := (by omega); exact gw_vret d_T_joinVersion_52 rfl (Nat.le_refl _) (Nat.le_refl _) ⟨rfl, rfl, rfl⟩
      · refine gw_al0 d_T_joinVersion_18 ?_
        refine gw_get d_T_joinVersion_19 (by assumption) (by rfl) ?_
        refine gw_il3 d_T_joinVersion_22 ?_
        refine gw_il4 d_T_joinVersion_23 ?_
        have hj4 := n_nle (a := 4) c_15 (by decide) (by omega); refine gw_iadd d_T_joinVersion_25 ?_; rw [nI_add]
        refine gw_al0 d_T_joinVersion_26 ?_
        refine gw_get d_T_joinVersion_27 (by assumption) (by rfl) ?_
        refine gw_il3 d_T_joinVersion_30 ?_
        refine gw_il4 d_T_joinVersion_31 ?_
        refine gw_iadd d_T_joinVersion_33 ?_; rw [nI_add]
        refine gw_iald d_T_joinVersion_34 (gUp_self _ _ _) _ rfl (by omega) (by omega) ?_
        refine gw_al2 d_T_joinVersion_35 ?_
        refine gw_get d_T_joinVersion_36 (by assumption) (by rfl) ?_
        refine gw_il4 d_T_joinVersion_39 ?_
        refine gw_iald d_T_joinVersion_41 p3 j rfl (by omega) (by omega) ?_
        refine gw_rS2 d_T_joinVersion_42 cs_T_joinVersion_42 c_J_max ?_
        refine gw_iast d_T_joinVersion_45 (gUp_self _ _ _) _ rfl (by omega) (by omega) ?_; rw [gUp_gUp, jnV_s]
        refine gw_ii4 d_T_joinVersion_46 (by rw [n_s]; exact gw_goto d_T_joinVersion_49 (ih (j + 1) (by omega) (by omega)))
  have h0 : h = gUp h c (gI 160 (jnV f ((s * 10 + dd) * 4) vec 0)) := by
    rw [jnV_0]
    funext b
    by_cases hb : b = c
    · subst hb; rw [gUp_self]; exact hc
    · rw [gUp_ne _ _ hb]
  refine gw_il1 d_T_joinVersion_0 ?_
  refine gw_al2 d_T_joinVersion_1 ?_
  refine gw_get d_T_joinVersion_2 (by assumption) (by rfl) ?_
  refine gw_rS2 d_T_joinVersion_5 cs_T_joinVersion_5 c_T_startOf ?_
  refine gw_is3 d_T_joinVersion_8 ?_
  refine gw_push d_T_joinVersion_9 ?_
  refine gw_is4 d_T_joinVersion_10 ?_
  have e := loop 5 0 (by omega) (by omega); rw [← h0] at e; exact e
theorem c_T_joinStation (hT : TV h t c f) {t2 c2 : Nat} {f2 : Nat → Int32} (hT2 : TV h t2 c2 f2) (hcc : c2 ≠ c) {s : Nat} (hs : s < 4) : SM G l 2 y_T_joinStation M_T_joinStation [.ref t, .int (nI s), .ref t2] h sz 0 0 (qV (fun h' sz' => h' = gUp h c (gI 160 (jnV f (s * 40) (fun i => f2 (s * 40 + i)) 40)) ∧ sz' = sz)) := by
  obtain ⟨ht, hc⟩ := hT
  obtain ⟨ht2, hc2⟩ := hT2
  have htc : t ≠ c := by rintro rfl; rw [ht] at hc; simp at hc
  have htc2 : t2 ≠ c := by rintro rfl; rw [ht2] at hc; simp at hc
  refine SM.of (lv0 := [some (.ref t), some (.int (nI s)), some (.ref t2), none, none]) (by decide +kernel) rfl ⟨rfl, rfl⟩ rfl (by simp [Value.category]) (Nat.le_of_ble_eq_true rfl) ?_
  have loop : ∀ m j, j ≤ 40 → 40 - j < m → GM G l 2 0 0 (qV (fun h' sz' => h' = gUp h c (gI 160 (jnV f (s * 40) (fun i => f2 (s * 40 + i)) 40)) ∧ sz' = sz)) M_T_joinStation 14 [some (.ref t), some (.int (nI s)), some (.ref t2), some (.int (nI (s * 40 + 40))), some (.int (nI (s * 40 + j)))] [] (gUp h c (gI 160 (jnV f (s * 40) (fun i => f2 (s * 40 + i)) j))) sz 0 0 := by
    intro m
    induction m with
    | zero => intro j _ hj; exact absurd hj (Nat.not_lt_zero _)
    | succ m ih =>
      intro j hj hm
      have p1 := (gUp_ne h (gI 160 (jnV f (s * 40) (fun i => f2 (s * 40 + i)) j)) htc).trans ht
      have p2 := (gUp_ne h (gI 160 (jnV f (s * 40) (fun i => f2 (s * 40 + i)) j)) htc2).trans ht2
      have p3 := (gUp_ne h (gI 160 (jnV f (s * 40) (fun i => f2 (s * 40 + i)) j)) hcc).trans hc2
      refine gw_il4 d_T_joinStation_14 ?_
      refine gw_il3 d_T_joinStation_16 ?_
      refine gw_icge d_T_joinStation_17 (fun c_17 => ?_) (fun c_17 => ?_)
      · have q4 := n_le c_17 (by omega) (by omega); obtain rfl : j = 40 := (by omega); exact gw_vret d_T_joinStation_50 rfl (Nat.le_refl _) (Nat.le_refl _) ⟨rfl, rfl, rfl⟩
      · refine gw_al0 d_T_joinStation_20 ?_
        refine gw_get d_T_joinStation_21 (by assumption) (by rfl) ?_
        refine gw_il4 d_T_joinStation_24 ?_
        refine gw_al0 d_T_joinStation_26 ?_
        refine gw_get d_T_joinStation_27 (by assumption) (by rfl) ?_
        refine gw_il4 d_T_joinStation_30 ?_
        have hj4 := n_nle c_17 (by omega) (by omega); refine gw_iald d_T_joinStation_32 (gUp_self _ _ _) _ rfl (by omega) (by omega) ?_
        refine gw_al2 d_T_joinStation_33 ?_
        refine gw_get d_T_joinStation_34 (by assumption) (by rfl) ?_
        refine gw_il4 d_T_joinStation_37 ?_
        refine gw_iald d_T_joinStation_39 p3 _ rfl (by omega) (by omega) ?_
        refine gw_rS2 d_T_joinStation_40 cs_T_joinStation_40 c_J_max ?_
        refine gw_iast d_T_joinStation_43 (gUp_self _ _ _) _ rfl (by omega) (by omega) ?_; rw [gUp_gUp, jnV_s f (s * 40) (fun i => f2 (s * 40 + i)) j]
        refine gw_ii4 d_T_joinStation_44 (by rw [n_s]; exact gw_goto d_T_joinStation_47 (ih (j + 1) (by omega) (by omega)))
  have h0 : h = gUp h c (gI 160 (jnV f (s * 40) (fun i => f2 (s * 40 + i)) 0)) := by
    rw [jnV_0]
    funext b
    by_cases hb : b = c
    · subst hb; rw [gUp_self]; exact hc
    · rw [gUp_ne _ _ hb]
  refine gw_il1 d_T_joinStation_0 ?_
  refine gw_push d_T_joinStation_1 ?_
  rw [n_lit 10]; refine gw_rS2 d_T_joinStation_3 cs_T_joinStation_3 c_T_startOf ?_; rw [show (s * 10 + 10) * 4 = s * 40 + 40 by omega]
  refine gw_is3 d_T_joinStation_6 ?_
  refine gw_il1 d_T_joinStation_7 ?_
  refine gw_push d_T_joinStation_8 ?_
  rw [n_lit 0]; refine gw_rS2 d_T_joinStation_9 cs_T_joinStation_9 c_T_startOf ?_; rw [show (s * 10 + 0) * 4 = s * 40 + 0 by omega]
  refine gw_is4 d_T_joinStation_12 ?_
  have e := loop 41 0 (by omega) (by omega); rw [← h0] at e; exact e
theorem c_T_become (hT : TV h t c f) {t2 c2 : Nat} {f2 : Nat → Int32} (hT2 : TV h t2 c2 f2) : SM G l 1 y_T_become M_T_become [.ref t, .ref t2] h sz 0 0 (qV (fun h' sz' => h' = gUp h c (gI 160 (va_cpy f2 f 0 0 160)) ∧ sz' = sz)) := by
  obtain ⟨ht, hc⟩ := hT
  obtain ⟨ht2, hc2⟩ := hT2
  refine SM.of (lv0 := [some (.ref t), some (.ref t2)]) (by decide +kernel) rfl ⟨rfl, rfl⟩ rfl (by simp [Value.category]) (Nat.le_of_ble_eq_true rfl) ?_
  refine gw_al1 d_T_become_0 ?_
  refine gw_get d_T_become_1 (by assumption) (by rfl) ?_
  refine gw_push d_T_become_4 ?_
  refine gw_al0 d_T_become_5 ?_
  refine gw_get d_T_become_6 (by assumption) (by rfl) ?_
  refine gw_push d_T_become_9 ?_
  refine gw_al0 d_T_become_10 ?_
  refine gw_get d_T_become_11 (by assumption) (by rfl) ?_
  refine gw_alenI d_T_become_14 hc ?_
  refine gw_copyI d_T_become_15 cp_T_become_15 hc2 hc 0 0 160 rfl rfl rfl (by omega) (by omega) (by omega) (by decide) (Nat.le_of_ble_eq_true rfl) ?_
  exact gw_vret d_T_become_18 rfl (Nat.le_refl _) (Nat.le_refl _) ⟨rfl, rfl, rfl⟩
theorem c_T_becomeZeros (hT : TV h t c f) : SM G l 2 y_T_becomeZeros M_T_becomeZeros [.ref t] h sz 0 0 (qV (fun h' sz' => (∃ g', h' = gUp h c (gI 160 g') ∧ ∀ i, i < 160 → g' i = 0) ∧ sz' = sz)) := by
  obtain ⟨ht, hc⟩ := hT
  refine SM.of (lv0 := [some (.ref t)]) (by decide +kernel) rfl ⟨rfl, rfl⟩ rfl (by simp [Value.category]) (Nat.le_of_ble_eq_true rfl) ?_
  refine gw_al0 d_T_becomeZeros_0 ?_
  refine gw_get d_T_becomeZeros_1 (by assumption) (by rfl) ?_
  refine gw_push d_T_becomeZeros_4 ?_
  refine gw_vS2 d_T_becomeZeros_5 cs_T_becomeZeros_5 (c_J_fill hc (by omega)) (fun h' sz' hp hz => ?_)
  exact gw_vret d_T_becomeZeros_8 rfl (Nat.le_refl _) (Nat.le_refl _) ⟨rfl, hp⟩
end Tab
end
section
/-! ===== Station: contracts that read ===== -/
abbrev gV : Type := (Nat → Nat) × (Nat → Int32) × (Nat → Int32) × (Nat → Nat) × (Nat → Nat → Int32)
def vDoc (V : gV) (x : Nat) : Nat := V.1 x
def vLen (V : gV) (x : Nat) : Int32 := V.2.1 x
def vFil (V : gV) (x : Nat) : Int32 := V.2.2.1 x
def vQ (V : gV) (x : Nat) : Nat := V.2.2.2.1 x
def vVec (V : gV) (x : Nat) : Nat → Int32 := V.2.2.2.2 x
def VA (h : gHp) (V : gV) (x : Nat) : Prop := h x = some (gO 4 [.int (nI (vDoc V x)), .int (vLen V x), .int (vFil V x), .ref (vQ V x)]) ∧ h (vQ V x) = some (gI 4 (vVec V x)) ∧ vDoc V x < 10
def vMk (V : gV) (x : Nat) : Bool := decide (vLen V x = -1)
def vBy (V : gV) (x : Nat) : Int32 := byI (vLen V x)
def vRp (V : gV) (x y : Nat) : Bool := decide (vDoc V x = vDoc V y) && cov4 (vVec V x) (vVec V y)
def vCm (V : gV) (x y : Nat) : Int32 := lxs (vVec V x) (vVec V y) (cmpI (nI (vDoc V x)) (nI (vDoc V y))) 4
def vHb (V : gV) (d : Int32) (x : Nat) : Bool := decide (nI (vDoc V x) = d) && decide (vLen V x ≠ -1)
/-- whether what a table says of station o covers version x -/
def tCv (V : gV) (f : Nat → Int32) (o x : Nat) : Bool := cov4 (fun j => f ((o * 10 + vDoc V x) * 4 + j)) (vVec V x)
theorem take_s {L : List Nat} {j x : Nat} (hx : L[j]? = some x) : L.take (j + 1) = L.take j ++ [x] := by
  rw [List.take_add_one, hx]; rfl
theorem get_ex {L : List Nat} {j : Nat} (hj : j < L.length) : ∃ x, L[j]? = some x := ⟨L[j], List.getElem?_eq_getElem hj⟩
def SV (G : gG) (V : gV) (h : gHp) (s i a e : Nat) (L : List Nat) (t c : Nat) (f : Nat → Int32) : Prop := h s = some (gO 2 [.int (nI i), .ref a, .ref t]) ∧ LV G h a e L ∧ TV h t c f ∧ i < 4 ∧ ∀ x ∈ L, VA h V x
section Sta
variable {G : gG} {l : Launch} {h : gHp} {sz : Nat} {V : gV} {s i a e t c : Nat} {L : List Nat} {f : Nat → Int32} {x : Nat}
theorem c_S_ownCounter (hV : SV G V h s i a e L t c f) {d : Nat} (hd : d < 10) : SM G l 3 y_S_ownCounter M_S_ownCounter [.ref s, .int (nI d)] h sz 0 0 (qR (.int (f ((i * 10 + d) * 4 + i))) h sz) := by
  obtain ⟨hs, hL, hT, hi, hA⟩ := hV
  have ht := hT.1
  refine SM.of (lv0 := [some (.ref s), some (.int (nI d))]) (by decide +kernel) rfl ⟨rfl, rfl⟩ rfl (by simp [Value.category]) (Nat.le_of_ble_eq_true rfl) ?_
  refine gw_al0 d_S_ownCounter_0 ?_
  refine gw_get d_S_ownCounter_1 (by assumption) (by rfl) ?_
  refine gw_al0 d_S_ownCounter_4 ?_
  refine gw_get d_S_ownCounter_5 (by assumption) (by rfl) ?_
  refine gw_il1 d_S_ownCounter_8 ?_
  refine gw_al0 d_S_ownCounter_9 ?_
  refine gw_get d_S_ownCounter_10 (by assumption) (by rfl) ?_
  refine gw_rV3 d_S_ownCounter_13 cs_S_ownCounter_13 ht (c_T_counterAt hT hi hd hi) ?_
  exact gw_iret d_S_ownCounter_16 rfl (Nat.le_refl _) (Nat.le_refl _) ⟨rfl, rfl, rfl⟩
theorem c_S_lacks (hV : SV G V h s i a e L t c f) (hx : VA h V x) : SM G l 3 y_S_lacks M_S_lacks [.ref s, .ref x] h sz 0 0 (qR (.int (b2i (!tCv V f i x))) h sz) := by
  obtain ⟨hs, hL, hT, hi, hA⟩ := hV
  have ht := hT.1
  refine SM.of (lv0 := [some (.ref s), some (.ref x)]) (by decide +kernel) rfl ⟨rfl, rfl⟩ rfl (by simp [Value.category]) (Nat.le_of_ble_eq_true rfl) ?_
  refine gw_al0 d_S_lacks_0 ?_
  refine gw_get d_S_lacks_1 (by assumption) (by rfl) ?_
  refine gw_al0 d_S_lacks_4 ?_
  refine gw_get d_S_lacks_5 (by assumption) (by rfl) ?_
  refine gw_al1 d_S_lacks_8 ?_
  refine gw_rV2 d_S_lacks_9 cs_S_lacks_9 ht (c_T_covers hT hi hx.2.2 hx.1 hx.2.1) ?_
  refine gw_ifne d_S_lacks_12 (fun c_12 => ?_) (fun c_12 => ?_)
  · refine gw_push d_S_lacks_19 ?_
    exact gw_zret d_S_lacks_20 rfl (by decide) (Nat.le_refl _) (Nat.le_refl _) ⟨by first | (rw [show tCv V f i x = true from (b2i_ne0 _).mp c_12]; rfl) | (rw [show tCv V f i x = false from (b2i_eq0 _).mp c_12]; rfl), rfl, rfl⟩
  · refine gw_push d_S_lacks_15 ?_
    refine gw_goto d_S_lacks_16 ?_
    exact gw_zret d_S_lacks_20 rfl (by decide) (Nat.le_refl _) (Nat.le_refl _) ⟨by first | (rw [show tCv V f i x = true from (b2i_ne0 _).mp c_12]; rfl) | (rw [show tCv V f i x = false from (b2i_eq0 _).mp c_12]; rfl), rfl, rfl⟩
theorem c_S_allHave (hV : SV G V h s i a e L t c f) (hx : VA h V x) : SM G l 3 y_S_allHave M_S_allHave [.ref s, .ref x] h sz 0 0 (qR (.int (b2i (tCv V f 0 x && (tCv V f 1 x && (tCv V f 2 x && tCv V f 3 x))))) h sz) := by
  obtain ⟨hs, hL, hT, hi, hA⟩ := hV
  have ht := hT.1
  have hall : ∀ b : Bool, (b = true ↔ ∀ o, o < 4 → tCv V f o x = true) → (tCv V f 0 x && (tCv V f 1 x && (tCv V f 2 x && tCv V f 3 x))) = b := by
    intro b hb
    rw [Bool.eq_iff_iff, hb]
    simp only [Bool.and_eq_true]
    constructor
    · rintro ⟨h0, h1, h2, h3⟩ j hj
      match j, hj with
      | 0, _ => exact h0
      | 1, _ => exact h1
      | 2, _ => exact h2
      | 3, _ => exact h3
    · intro q
      exact ⟨q 0 (by omega), q 1 (by omega), q 2 (by omega), q 3 (by omega)⟩
  refine SM.of (lv0 := [some (.ref s), some (.ref x), none]) (by decide +kernel) rfl ⟨rfl, rfl⟩ rfl (by simp [Value.category]) (Nat.le_of_ble_eq_true rfl) ?_
  have loop : ∀ m j, j ≤ 4 → 4 - j < m → (∀ o, o < j → tCv V f o x = true) → GM G l 3 0 0 (qR (.int (b2i (tCv V f 0 x && (tCv V f 1 x && (tCv V f 2 x && tCv V f 3 x))))) h sz) M_S_allHave 2 [some (.ref s), some (.ref x), some (.int (nI j))] [] h sz 0 0 := by
    intro m
    induction m with
    | zero => intro j _ hj; exact absurd hj (Nat.not_lt_zero _)
    | succ m ih =>
      intro j hj hm hI
      refine gw_il2 d_S_allHave_2 ?_
      refine gw_push d_S_allHave_3 ?_
      refine gw_icge d_S_allHave_4 (fun c_4 => ?_) (fun c_4 => ?_)
      · refine gw_push d_S_allHave_27 ?_
        have q4 := n_le (a := 4) c_4 (by decide) (by omega); obtain rfl : j = 4 := (by omega); exact gw_zret d_S_allHave_28 rfl (by decide) (Nat.le_refl _) (Nat.le_refl _) ⟨by rw [hall true ⟨fun _ => hI, fun _ => rfl⟩]; rfl, rfl, rfl⟩
      · refine gw_al0 d_S_allHave_7 ?_
        refine gw_get d_S_allHave_8 (by assumption) (by rfl) ?_
        refine gw_il2 d_S_allHave_11 ?_
        refine gw_al1 d_S_allHave_12 ?_
        have hj4 := n_nle (a := 4) c_4 (by decide) (by omega); refine gw_rV2 d_S_allHave_13 cs_S_allHave_13 ht (c_T_covers hT hj4 hx.2.2 hx.1 hx.2.1) ?_
        refine gw_ifne d_S_allHave_16 (fun c_16 => ?_) (fun c_16 => ?_)
        · refine gw_ii2 d_S_allHave_21 (by rw [n_s]; exact gw_goto d_S_allHave_24 (ih (j + 1) (by omega) (by omega) (lt_s hI ((b2i_ne0 _).mp c_16))))
        · refine gw_push d_S_allHave_19 ?_
          exact gw_zret d_S_allHave_20 rfl (by decide) (Nat.le_refl _) (Nat.le_refl _) ⟨by rw [hall false ⟨fun q => (by cases q), fun q => by have z := q j hj4; rw [show tCv V f j x = false from (b2i_eq0 _).mp c_16] at z; exact z⟩]; rfl, rfl, rfl⟩
  refine gw_push d_S_allHave_0 ?_
  refine gw_is2 d_S_allHave_1 ?_
  exact loop 5 0 (by omega) (by omega) lt_0
/-- a destination that lacks x, as far as this station knows -/
def vLk (V : gV) (f : Nat → Int32) (i : Nat) (ds : Int32) (x o : Nat) : Bool := decide (o ≠ i) && (decide ((ds >>> (nI o &&& 31)) &&& 1 = 1) && !tCv V f o x)
def vLkA (V : gV) (f : Nat → Int32) (i : Nat) (ds : Int32) (x : Nat) : Bool := vLk V f i ds x 0 || (vLk V f i ds x 1 || (vLk V f i ds x 2 || vLk V f i ds x 3))
theorem vLkA_of {V : gV} {f : Nat → Int32} {i : Nat} {ds : Int32} {x : Nat} (b : Bool) (hb : b = true ↔ ∃ o, o < 4 ∧ vLk V f i ds x o = true) : vLkA V f i ds x = b := by
  unfold vLkA
  rw [Bool.eq_iff_iff, hb]
  simp only [Bool.or_eq_true]
  constructor
  · rintro (h0 | h1 | h2 | h3)
    · exact ⟨0, by omega, h0⟩
    · exact ⟨1, by omega, h1⟩
    · exact ⟨2, by omega, h2⟩
    · exact ⟨3, by omega, h3⟩
  · rintro ⟨j, hj, q⟩
    match j, hj with
    | 0, _ => exact Or.inl q
    | 1, _ => exact Or.inr (Or.inl q)
    | 2, _ => exact Or.inr (Or.inr (Or.inl q))
    | 3, _ => exact Or.inr (Or.inr (Or.inr q))
theorem c_S_knowsLackAmong (hV : SV G V h s i a e L t c f) (hx : VA h V x) {ds : Int32} : SM G l 3 y_S_knowsLackAmong M_S_knowsLackAmong [.ref s, .int ds, .ref x] h sz 0 0 (qR (.int (b2i (vLkA V f i ds x))) h sz) := by
  obtain ⟨hs, hL, hT, hi, hA⟩ := hV
  have ht := hT.1
  refine SM.of (lv0 := [some (.ref s), some (.int ds), some (.ref x), none, none]) (by decide +kernel) rfl ⟨rfl, rfl⟩ rfl (by simp [Value.category]) (Nat.le_of_ble_eq_true rfl) ?_
  have loop : ∀ m j q4, j ≤ 4 → 4 - j < m → (∀ o, o < j → vLk V f i ds x o = false) → GM G l 3 0 0 (qR (.int (b2i (vLkA V f i ds x))) h sz) M_S_knowsLackAmong 2 [some (.ref s), some (.int ds), some (.ref x), some (.int (nI j)), q4] [] h sz 0 0 := by
    intro m
    induction m with
    | zero => intro j _ _ hj; exact absurd hj (Nat.not_lt_zero _)
    | succ m ih =>
      intro j q4 hj hm hI
      have hnext : j < 4 → vLk V f i ds x j = false → ∀ w4, GM G l 3 0 0 (qR (.int (b2i (vLkA V f i ds x))) h sz) M_S_knowsLackAmong 50 [some (.ref s), some (.int ds), some (.ref x), some (.int (nI j)), w4] [] h sz 0 0 := by
        intro hj4 hk w4
        exact gw_ii3 d_S_knowsLackAmong_50 (by rw [n_s]; exact gw_goto d_S_knowsLackAmong_53 (ih (j + 1) w4 (by omega) (by omega) (lt_s hI hk)))
      have h29 : j < 4 → ∀ b : Bool, b = (decide (j ≠ i) && decide ((ds >>> (nI j &&& 31)) &&& 1 = 1)) → GM G l 3 0 0 (qR (.int (b2i (vLkA V f i ds x))) h sz) M_S_knowsLackAmong 29 [some (.ref s), some (.int ds), some (.ref x), some (.int (nI j)), q4] [.int (b2i b)] h sz 0 0 := by
        intro hj4 b hb
        have hk : vLk V f i ds x j = (b && !tCv V f j x) := by rw [hb, vLk, Bool.and_assoc]
        refine gw_is4 d_S_knowsLackAmong_29 ?_
        refine gw_il4 d_S_knowsLackAmong_31 ?_
        refine gw_ifeq d_S_knowsLackAmong_33 (fun c_33 => ?_) (fun c_33 => ?_)
        · exact hnext hj4 (by first | (rw [hk, show b = false from (b2i_eq0 _).mp c_33]; rfl) | (rw [hk, show tCv V f j x = true from (b2i_ne0 _).mp c_45]; cases b <;> rfl)) _
        · refine gw_al0 d_S_knowsLackAmong_36 ?_
          refine gw_get d_S_knowsLackAmong_37 (by assumption) (by rfl) ?_
          refine gw_il3 d_S_knowsLackAmong_40 ?_
          refine gw_al2 d_S_knowsLackAmong_41 ?_
          refine gw_rV2 d_S_knowsLackAmong_42 cs_S_knowsLackAmong_42 ht (c_T_covers hT hj4 hx.2.2 hx.1 hx.2.1) ?_
          refine gw_ifne d_S_knowsLackAmong_45 (fun c_45 => ?_) (fun c_45 => ?_)
          · exact hnext hj4 (by first | (rw [hk, show b = false from (b2i_eq0 _).mp c_33]; rfl) | (rw [hk, show tCv V f j x = true from (b2i_ne0 _).mp c_45]; cases b <;> rfl)) _
          · refine gw_push d_S_knowsLackAmong_48 ?_
            exact gw_zret d_S_knowsLackAmong_49 rfl (by decide) (Nat.le_refl _) (Nat.le_refl _) ⟨by rw [vLkA_of true ⟨fun _ => ⟨j, hj4, by rw [hk, show b = true from (b2i_ne0 _).mp c_33, show tCv V f j x = false from (b2i_eq0 _).mp c_45]; rfl⟩, fun _ => rfl⟩]; rfl, rfl, rfl⟩
      refine gw_il3 d_S_knowsLackAmong_2 ?_
      refine gw_push d_S_knowsLackAmong_3 ?_
      refine gw_icge d_S_knowsLackAmong_4 (fun c_4 => ?_) (fun c_4 => ?_)
      · refine gw_push d_S_knowsLackAmong_56 ?_
        have q4 := n_le (a := 4) c_4 (by decide) (by omega); obtain rfl : j = 4 := (by omega); exact gw_zret d_S_knowsLackAmong_57 rfl (by decide) (Nat.le_refl _) (Nat.le_refl _) ⟨by rw [vLkA_of false ⟨fun q => (by cases q), fun ⟨o, ho, q⟩ => by rw [hI o ho] at q; exact q⟩]; rfl, rfl, rfl⟩
      · refine gw_il3 d_S_knowsLackAmong_7 ?_
        refine gw_al0 d_S_knowsLackAmong_8 ?_
        refine gw_get d_S_knowsLackAmong_9 (by assumption) (by rfl) ?_
        have hj4 := n_nle (a := 4) c_4 (by decide) (by omega); refine gw_iceq d_S_knowsLackAmong_12 (fun c_12 => ?_) (fun c_12 => ?_)
        · refine gw_push d_S_knowsLackAmong_28 ?_
          first | exact h29 hj4 false (by rw [decide_eq_false (show ¬ j ≠ i from fun z => z (n_eq c_12 (by omega) (by omega)))]; rfl) | exact h29 hj4 false (by rw [decide_eq_false c_21]; cases decide (j ≠ i) <;> rfl) | exact h29 hj4 true (by rw [decide_eq_true c_21, decide_eq_true (show j ≠ i from fun z => c_12 (by rw [z]))]; rfl)
        · refine gw_il1 d_S_knowsLackAmong_15 ?_
          refine gw_il3 d_S_knowsLackAmong_16 ?_
          refine gw_ishr d_S_knowsLackAmong_17 ?_
          refine gw_push d_S_knowsLackAmong_18 ?_
          refine gw_iand d_S_knowsLackAmong_19 ?_
          refine gw_push d_S_knowsLackAmong_20 ?_
          refine gw_icne d_S_knowsLackAmong_21 (fun c_21 => ?_) (fun c_21 => ?_)
          · refine gw_push d_S_knowsLackAmong_28 ?_
            first | exact h29 hj4 false (by rw [decide_eq_false (show ¬ j ≠ i from fun z => z (n_eq c_12 (by omega) (by omega)))]; rfl) | exact h29 hj4 false (by rw [decide_eq_false c_21]; cases decide (j ≠ i) <;> rfl) | exact h29 hj4 true (by rw [decide_eq_true c_21, decide_eq_true (show j ≠ i from fun z => c_12 (by rw [z]))]; rfl)
          · refine gw_push d_S_knowsLackAmong_24 ?_
            refine gw_goto d_S_knowsLackAmong_25 ?_
            first | exact h29 hj4 false (by rw [decide_eq_false (show ¬ j ≠ i from fun z => z (n_eq c_12 (by omega) (by omega)))]; rfl) | exact h29 hj4 false (by rw [decide_eq_false c_21]; cases decide (j ≠ i) <;> rfl) | exact h29 hj4 true (by rw [decide_eq_true c_21, decide_eq_true (show j ≠ i from fun z => c_12 (by rw [z]))]; rfl)
  refine gw_push d_S_knowsLackAmong_0 ?_
  refine gw_is3 d_S_knowsLackAmong_1 ?_
  exact loop 5 0 _ (by omega) (by omega) lt_0
/-- what a sum over a list's first ones is -/
theorem c_S_bytesWith (hV : SV G V h s i a e L t c f) (hx : VA h V x) : SM G l 4 y_S_bytesWith M_S_bytesWith [.ref s, .ref x] h sz 0 0 (qR (.int (L.foldl (fun b y => if vRp V x y then b else b + vBy V y) (vBy V x))) h sz) := by
  obtain ⟨hs, hL, hT, hi, hA⟩ := hV
  obtain ⟨mo, ha⟩ := hL.1
  have h48 := hL.2.1
  have hx1 := hx.1
  refine SM.of (lv0 := [some (.ref s), some (.ref x), none, none, none]) (by decide +kernel) rfl ⟨rfl, rfl⟩ rfl (by simp [Value.category]) (Nat.le_of_ble_eq_true rfl) ?_
  have loop : ∀ m j q4, j ≤ L.length → L.length - j < m → GM G l 4 0 0 (qR (.int (L.foldl (fun b y => if vRp V x y then b else b + vBy V y) (vBy V x))) h sz) M_S_bytesWith 7 [some (.ref s), some (.ref x), some (.int ((L.take j).foldl (fun b y => if vRp V x y then b else b + vBy V y) (vBy V x))), some (.int (nI j)), q4] [] h sz 0 0 := by
    intro m
    induction m with
    | zero => intro j _ _ hj; exact absurd hj (Nat.not_lt_zero _)
    | succ m ih =>
      intro j q4 hj hm
      refine gw_il3 d_S_bytesWith_7 ?_
      refine gw_al0 d_S_bytesWith_8 ?_
      refine gw_get d_S_bytesWith_9 (by assumption) (by rfl) ?_
      refine gw_rV0 d_S_bytesWith_12 cs_S_bytesWith_12 ha (c_A_size hL) ?_
      refine gw_icge d_S_bytesWith_15 (fun c_15 => ?_) (fun c_15 => ?_)
      · refine gw_il2 d_S_bytesWith_54 ?_
        have q4 := n_le c_15 (by omega) (by omega); obtain rfl : j = L.length := (by omega); exact gw_iret d_S_bytesWith_55 rfl (Nat.le_refl _) (Nat.le_refl _) ⟨by rw [List.take_length], rfl, rfl⟩
      · refine gw_al0 d_S_bytesWith_18 ?_
        refine gw_get d_S_bytesWith_19 (by assumption) (by rfl) ?_
        refine gw_il3 d_S_bytesWith_22 ?_
        have hlt := n_nle c_15 (by omega) (by omega); obtain ⟨y, hy⟩ := get_ex hlt; have hyA := hA y (List.mem_of_getElem? hy); have hy1 := hyA.1; refine gw_rV1 d_S_bytesWith_23 cs_S_bytesWith_23 ha (c_A_get hL hy) ?_
        refine gw_castV d_S_bytesWith_26 cl_S_bytesWith_26 (by assumption) ?_
        refine gw_as4 d_S_bytesWith_29 ?_
        refine gw_al1 d_S_bytesWith_31 ?_
        refine gw_al4 d_S_bytesWith_32 ?_
        refine gw_rV1 d_S_bytesWith_34 cs_S_bytesWith_34 hx1 (c_V_replaces hx.1 hx.2.1 hyA.1 hyA.2.1) ?_; rw [show (decide (nI (vDoc V x) = nI (vDoc V y)) && cov4 (vVec V x) (vVec V y)) = vRp V x y from by rw [vRp, decide_eq_decide.mpr (nI_eq (by have := hx.2.2; omega) (by have := hyA.2.2; omega))]]
        refine gw_ifne d_S_bytesWith_37 (fun c_37 => ?_) (fun c_37 => ?_)
        · refine gw_ii3 d_S_bytesWith_48 (by rw [n_s]; refine gw_goto d_S_bytesWith_51 ?_; have z := ih (j + 1) (some (.ref y)) (by omega) (by omega); rw [take_s hy, List.foldl_append, List.foldl_cons, List.foldl_nil] at z; first | (rw [if_pos ((b2i_ne0 _).mp c_37)] at z; exact z) | (rw [if_neg (by rw [(b2i_eq0 _).mp c_37]; decide)] at z; exact z))
        · refine gw_il2 d_S_bytesWith_40 ?_
          refine gw_al4 d_S_bytesWith_41 ?_
          refine gw_rV0 d_S_bytesWith_43 cs_S_bytesWith_43 hy1 (c_V_byteCount hyA.1) ?_
          refine gw_iadd d_S_bytesWith_46 ?_
          refine gw_is2 d_S_bytesWith_47 ?_
          refine gw_ii3 d_S_bytesWith_48 (by rw [n_s]; refine gw_goto d_S_bytesWith_51 ?_; have z := ih (j + 1) (some (.ref y)) (by omega) (by omega); rw [take_s hy, List.foldl_append, List.foldl_cons, List.foldl_nil] at z; first | (rw [if_pos ((b2i_ne0 _).mp c_37)] at z; exact z) | (rw [if_neg (by rw [(b2i_eq0 _).mp c_37]; decide)] at z; exact z))
  refine gw_al1 d_S_bytesWith_0 ?_
  refine gw_rV0 d_S_bytesWith_1 cs_S_bytesWith_1 hx1 (c_V_byteCount hx.1) ?_
  refine gw_is2 d_S_bytesWith_4 ?_
  refine gw_push d_S_bytesWith_5 ?_
  refine gw_is3 d_S_bytesWith_6 ?_
  exact loop (L.length + 1) 0 _ (by omega) (by omega)
theorem c_S_countSiblings (hV : SV G V h s i a e L t c f) {d : Int32} : SM G l 4 y_S_countSiblings M_S_countSiblings [.ref s, .int d] h sz 0 0 (qR (.int (nI (L.countP (vHb V d)))) h sz) := by
  obtain ⟨hs, hL, hT, hi, hA⟩ := hV
  obtain ⟨mo, ha⟩ := hL.1
  have h48 := hL.2.1
  refine SM.of (lv0 := [some (.ref s), some (.int d), none, none]) (by decide +kernel) rfl ⟨rfl, rfl⟩ rfl (by simp [Value.category]) (Nat.le_of_ble_eq_true rfl) ?_
  have loop : ∀ m j, j ≤ L.length → L.length - j < m → GM G l 4 0 0 (qR (.int (nI (L.countP (vHb V d)))) h sz) M_S_countSiblings 4 [some (.ref s), some (.int d), some (.int (nI ((L.take j).countP (vHb V d)))), some (.int (nI j))] [] h sz 0 0 := by
    intro m
    induction m with
    | zero => intro j _ hj; exact absurd hj (Nat.not_lt_zero _)
    | succ m ih =>
      intro j hj hm
      have h36 : ∀ y, L[j]? = some y → GM G l 4 0 0 (qR (.int (nI (L.countP (vHb V d)))) h sz) M_S_countSiblings 36 [some (.ref s), some (.int d), some (.int (nI ((L.take (j + 1)).countP (vHb V d)))), some (.int (nI j))] [] h sz 0 0 := fun y hy => gw_ii3 d_S_countSiblings_36 (by rw [n_s]; exact gw_goto d_S_countSiblings_39 (ih (j + 1) (by have := (List.getElem?_eq_some_iff.mp hy).1; omega) (by have := (List.getElem?_eq_some_iff.mp hy).1; omega)))
      refine gw_il3 d_S_countSiblings_4 ?_
      refine gw_al0 d_S_countSiblings_5 ?_
      refine gw_get d_S_countSiblings_6 (by assumption) (by rfl) ?_
      refine gw_rV0 d_S_countSiblings_9 cs_S_countSiblings_9 ha (c_A_size hL) ?_
      refine gw_icge d_S_countSiblings_12 (fun c_12 => ?_) (fun c_12 => ?_)
      · refine gw_il2 d_S_countSiblings_42 ?_
        have q4 := n_le c_12 (by omega) (by omega); obtain rfl : j = L.length := (by omega); exact gw_iret d_S_countSiblings_43 rfl (Nat.le_refl _) (Nat.le_refl _) ⟨by rw [List.take_length], rfl, rfl⟩
      · refine gw_al0 d_S_countSiblings_15 ?_
        refine gw_get d_S_countSiblings_16 (by assumption) (by rfl) ?_
        refine gw_il3 d_S_countSiblings_19 ?_
        have hlt := n_nle c_12 (by omega) (by omega); obtain ⟨y, hy⟩ := get_ex hlt; have hyA := hA y (List.mem_of_getElem? hy); have hy1 := hyA.1; refine gw_rV1 d_S_countSiblings_20 cs_S_countSiblings_20 ha (c_A_get hL hy) ?_
        refine gw_castV d_S_countSiblings_23 cl_S_countSiblings_23 (by assumption) ?_
        refine gw_il1 d_S_countSiblings_26 ?_
        refine gw_rV1 d_S_countSiblings_27 cs_S_countSiblings_27 hy1 (c_V_hasBytesOf hyA.1) ?_
        refine gw_ifeq d_S_countSiblings_30 (fun c_30 => ?_) (fun c_30 => ?_)
        · have z := h36 y hy; rw [take_s hy, List.countP_append, List.countP_singleton] at z; first | (rw [show vHb V d y = false from (b2i_eq0 _).mp c_30] at z; exact z) | (rw [show vHb V d y = true from (b2i_ne0 _).mp c_30] at z; exact z)
        · refine gw_ii2 d_S_countSiblings_33 ?_; rw [n_s]
          have z := h36 y hy; rw [take_s hy, List.countP_append, List.countP_singleton] at z; first | (rw [show vHb V d y = false from (b2i_eq0 _).mp c_30] at z; exact z) | (rw [show vHb V d y = true from (b2i_ne0 _).mp c_30] at z; exact z)
  refine gw_push d_S_countSiblings_0 ?_
  refine gw_is2 d_S_countSiblings_1 ?_
  refine gw_push d_S_countSiblings_2 ?_
  refine gw_is3 d_S_countSiblings_3 ?_
  exact loop (L.length + 1) 0 (by omega) (by omega)
theorem c_S_countMarks (hV : SV G V h s i a e L t c f) : SM G l 4 y_S_countMarks M_S_countMarks [.ref s] h sz 0 0 (qR (.int (nI (L.countP (vMk V)))) h sz) := by
  obtain ⟨hs, hL, hT, hi, hA⟩ := hV
  obtain ⟨mo, ha⟩ := hL.1
  have h48 := hL.2.1
  refine SM.of (lv0 := [some (.ref s), none, none]) (by decide +kernel) rfl ⟨rfl, rfl⟩ rfl (by simp [Value.category]) (Nat.le_of_ble_eq_true rfl) ?_
  have loop : ∀ m j, j ≤ L.length → L.length - j < m → GM G l 4 0 0 (qR (.int (nI (L.countP (vMk V)))) h sz) M_S_countMarks 4 [some (.ref s), some (.int (nI ((L.take j).countP (vMk V)))), some (.int (nI j))] [] h sz 0 0 := by
    intro m
    induction m with
    | zero => intro j _ hj; exact absurd hj (Nat.not_lt_zero _)
    | succ m ih =>
      intro j hj hm
      have h36 : ∀ y, L[j]? = some y → GM G l 4 0 0 (qR (.int (nI (L.countP (vMk V)))) h sz) M_S_countMarks 35 [some (.ref s), some (.int (nI ((L.take (j + 1)).countP (vMk V)))), some (.int (nI j))] [] h sz 0 0 := fun y hy => gw_ii2 d_S_countMarks_35 (by rw [n_s]; exact gw_goto d_S_countMarks_38 (ih (j + 1) (by have := (List.getElem?_eq_some_iff.mp hy).1; omega) (by have := (List.getElem?_eq_some_iff.mp hy).1; omega)))
      refine gw_il2 d_S_countMarks_4 ?_
      refine gw_al0 d_S_countMarks_5 ?_
      refine gw_get d_S_countMarks_6 (by assumption) (by rfl) ?_
      refine gw_rV0 d_S_countMarks_9 cs_S_countMarks_9 ha (c_A_size hL) ?_
      refine gw_icge d_S_countMarks_12 (fun c_12 => ?_) (fun c_12 => ?_)
      · refine gw_il1 d_S_countMarks_41 ?_
        have q4 := n_le c_12 (by omega) (by omega); obtain rfl : j = L.length := (by omega); exact gw_iret d_S_countMarks_42 rfl (Nat.le_refl _) (Nat.le_refl _) ⟨by rw [List.take_length], rfl, rfl⟩
      · refine gw_al0 d_S_countMarks_15 ?_
        refine gw_get d_S_countMarks_16 (by assumption) (by rfl) ?_
        refine gw_il2 d_S_countMarks_19 ?_
        have hlt := n_nle c_12 (by omega) (by omega); obtain ⟨y, hy⟩ := get_ex hlt; have hyA := hA y (List.mem_of_getElem? hy); have hy1 := hyA.1; refine gw_rV1 d_S_countMarks_20 cs_S_countMarks_20 ha (c_A_get hL hy) ?_
        refine gw_castV d_S_countMarks_23 cl_S_countMarks_23 (by assumption) ?_
        refine gw_rV0 d_S_countMarks_26 cs_S_countMarks_26 hy1 (c_V_isMark hyA.1) ?_
        refine gw_ifeq d_S_countMarks_29 (fun c_29 => ?_) (fun c_29 => ?_)
        · have z := h36 y hy; rw [take_s hy, List.countP_append, List.countP_singleton] at z; first | (rw [show vMk V y = false from (b2i_eq0 _).mp c_29] at z; exact z) | (rw [show vMk V y = true from (b2i_ne0 _).mp c_29] at z; exact z)
        · refine gw_ii1 d_S_countMarks_32 ?_; rw [n_s]
          have z := h36 y hy; rw [take_s hy, List.countP_append, List.countP_singleton] at z; first | (rw [show vMk V y = false from (b2i_eq0 _).mp c_29] at z; exact z) | (rw [show vMk V y = true from (b2i_ne0 _).mp c_29] at z; exact z)
  refine gw_push d_S_countMarks_0 ?_
  refine gw_is1 d_S_countMarks_1 ?_
  refine gw_push d_S_countMarks_2 ?_
  refine gw_is2 d_S_countMarks_3 ?_
  exact loop (L.length + 1) 0 (by omega) (by omega)
theorem c_S_countBytes (hV : SV G V h s i a e L t c f) : SM G l 4 y_S_countBytes M_S_countBytes [.ref s] h sz 0 0 (qR (.int (L.foldl (fun b y => b + vBy V y) 0)) h sz) := by
  obtain ⟨hs, hL, hT, hi, hA⟩ := hV
  obtain ⟨mo, ha⟩ := hL.1
  have h48 := hL.2.1
  refine SM.of (lv0 := [some (.ref s), none, none]) (by decide +kernel) rfl ⟨rfl, rfl⟩ rfl (by simp [Value.category]) (Nat.le_of_ble_eq_true rfl) ?_
  have loop : ∀ m j, j ≤ L.length → L.length - j < m → GM G l 4 0 0 (qR (.int (L.foldl (fun b y => b + vBy V y) 0)) h sz) M_S_countBytes 4 [some (.ref s), some (.int ((L.take j).foldl (fun b y => b + vBy V y) 0)), some (.int (nI j))] [] h sz 0 0 := by
    intro m
    induction m with
    | zero => intro j _ hj; exact absurd hj (Nat.not_lt_zero _)
    | succ m ih =>
      intro j hj hm
      refine gw_il2 d_S_countBytes_4 ?_
      refine gw_al0 d_S_countBytes_5 ?_
      refine gw_get d_S_countBytes_6 (by assumption) (by rfl) ?_
      refine gw_rV0 d_S_countBytes_9 cs_S_countBytes_9 ha (c_A_size hL) ?_
      refine gw_icge d_S_countBytes_12 (fun c_12 => ?_) (fun c_12 => ?_)
      · refine gw_il1 d_S_countBytes_38 ?_
        have q4 := n_le c_12 (by omega) (by omega); obtain rfl : j = L.length := (by omega); exact gw_iret d_S_countBytes_39 rfl (Nat.le_refl _) (Nat.le_refl _) ⟨by rw [List.take_length], rfl, rfl⟩
      · refine gw_il1 d_S_countBytes_15 ?_
        refine gw_al0 d_S_countBytes_16 ?_
        refine gw_get d_S_countBytes_17 (by assumption) (by rfl) ?_
        refine gw_il2 d_S_countBytes_20 ?_
        have hlt := n_nle c_12 (by omega) (by omega); obtain ⟨y, hy⟩ := get_ex hlt; have hyA := hA y (List.mem_of_getElem? hy); have hy1 := hyA.1; refine gw_rV1 d_S_countBytes_21 cs_S_countBytes_21 ha (c_A_get hL hy) ?_
        refine gw_castV d_S_countBytes_24 cl_S_countBytes_24 (by assumption) ?_
        refine gw_rV0 d_S_countBytes_27 cs_S_countBytes_27 hy1 (c_V_byteCount hyA.1) ?_
        refine gw_iadd d_S_countBytes_30 ?_
        refine gw_is1 d_S_countBytes_31 ?_
        refine gw_ii2 d_S_countBytes_32 (by rw [n_s]; refine gw_goto d_S_countBytes_35 ?_; have z := ih (j + 1) (by omega) (by omega); rw [take_s hy, List.foldl_append, List.foldl_cons, List.foldl_nil] at z; exact z)
  refine gw_push d_S_countBytes_0 ?_
  refine gw_is1 d_S_countBytes_1 ?_
  refine gw_push d_S_countBytes_2 ?_
  refine gw_is2 d_S_countBytes_3 ?_
  exact loop (L.length + 1) 0 (by omega) (by omega)
/-- the k-th of those that p holds of, b ahead -/
def kth (p : Nat → Bool) (k : Int32) : List Nat → Nat → Option Nat
  | [], _ => none
  | y :: r, b => if p y then (if nI b = k then some y else kth p k r (b + 1)) else kth p k r b
theorem c_S_findSibling (hV : SV G V h s i a e L t c f) {d k : Int32} : SM G l 4 y_S_findSibling M_S_findSibling [.ref s, .int d, .int k] h sz 0 0 (qR (va_rf (kth (vHb V d) k L 0)) h sz) := by
  obtain ⟨hs, hL, hT, hi, hA⟩ := hV
  obtain ⟨mo, ha⟩ := hL.1
  have h48 := hL.2.1
  refine SM.of (lv0 := [some (.ref s), some (.int d), some (.int k), none, none, none]) (by decide +kernel) rfl ⟨rfl, rfl⟩ rfl (by simp [Value.category]) (Nat.le_of_ble_eq_true rfl) ?_
  have loop : ∀ m j b q5, j ≤ L.length → L.length - j < m → b ≤ j → kth (vHb V d) k L 0 = kth (vHb V d) k (L.drop j) b → GM G l 4 0 0 (qR (va_rf (kth (vHb V d) k L 0)) h sz) M_S_findSibling 5 [some (.ref s), some (.int d), some (.int k), some (.int (nI b)), some (.int (nI j)), q5] [] h sz 0 0 := by
    intro m
    induction m with
    | zero => intro j _ _ _ hj; exact absurd hj (Nat.not_lt_zero _)
    | succ m ih =>
      intro j b q5 hj hm hb hk
      have hcons : ∀ y, L[j]? = some y → L.drop j = y :: L.drop (j + 1) := fun y hy => by
        obtain ⟨hlt, e1⟩ := List.getElem?_eq_some_iff.mp hy
        rw [List.drop_eq_getElem_cons hlt, e1]
      refine gw_il4 d_S_findSibling_5 ?_
      refine gw_al0 d_S_findSibling_7 ?_
      refine gw_get d_S_findSibling_8 (by assumption) (by rfl) ?_
      refine gw_rV0 d_S_findSibling_11 cs_S_findSibling_11 ha (c_A_size hL) ?_
      refine gw_icge d_S_findSibling_14 (fun c_14 => ?_) (fun c_14 => ?_)
      · refine gw_null d_S_findSibling_57 ?_
        have q4 := n_le c_14 (by omega) (by omega); obtain rfl : j = L.length := (by omega); rw [List.drop_length] at hk; exact gw_aret d_S_findSibling_58 rfl (Or.inl ⟨_, rfl⟩) (Or.inl rfl) (Nat.le_refl _) (Nat.le_refl _) ⟨by rw [hk]; rfl, rfl, rfl⟩
      · refine gw_al0 d_S_findSibling_17 ?_
        refine gw_get d_S_findSibling_18 (by assumption) (by rfl) ?_
        refine gw_il4 d_S_findSibling_21 ?_
        have hlt := n_nle c_14 (by omega) (by omega); obtain ⟨y, hy⟩ := get_ex hlt; have hyA := hA y (List.mem_of_getElem? hy); have hy1 := hyA.1; rw [hcons y hy, kth] at hk; refine gw_rV1 d_S_findSibling_23 cs_S_findSibling_23 ha (c_A_get hL hy) ?_
        refine gw_castV d_S_findSibling_26 cl_S_findSibling_26 (by assumption) ?_
        refine gw_as5 d_S_findSibling_29 ?_
        refine gw_al5 d_S_findSibling_31 ?_
        refine gw_il1 d_S_findSibling_33 ?_
        refine gw_rV1 d_S_findSibling_34 cs_S_findSibling_34 hy1 (c_V_hasBytesOf hyA.1) ?_
        refine gw_ifeq d_S_findSibling_37 (fun c_37 => ?_) (fun c_37 => ?_)
        · first | (rw [show vHb V d y = false from (b2i_eq0 _).mp c_37] at hk; exact gw_ii4 d_S_findSibling_51 (by rw [n_s]; exact gw_goto d_S_findSibling_54 (ih (j + 1) b _ (by omega) (by omega) (by omega) hk))) | (rw [show vHb V d y = true from (b2i_ne0 _).mp c_37, if_pos rfl, if_neg c_42] at hk; exact gw_ii4 d_S_findSibling_51 (by rw [n_s]; exact gw_goto d_S_findSibling_54 (ih (j + 1) (b + 1) _ (by omega) (by omega) (by omega) hk)))
        · refine gw_il3 d_S_findSibling_40 ?_
          refine gw_il2 d_S_findSibling_41 ?_
          refine gw_icne d_S_findSibling_42 (fun c_42 => ?_) (fun c_42 => ?_)
          · refine gw_ii3 d_S_findSibling_48 ?_; rw [n_s]
            first | (rw [show vHb V d y = false from (b2i_eq0 _).mp c_37] at hk; exact gw_ii4 d_S_findSibling_51 (by rw [n_s]; exact gw_goto d_S_findSibling_54 (ih (j + 1) b _ (by omega) (by omega) (by omega) hk))) | (rw [show vHb V d y = true from (b2i_ne0 _).mp c_37, if_pos rfl, if_neg c_42] at hk; exact gw_ii4 d_S_findSibling_51 (by rw [n_s]; exact gw_goto d_S_findSibling_54 (ih (j + 1) (b + 1) _ (by omega) (by omega) (by omega) hk)))
          · refine gw_al5 d_S_findSibling_45 ?_
            rw [show vHb V d y = true from (b2i_ne0 _).mp c_37, if_pos rfl, if_pos c_42] at hk; exact gw_aret d_S_findSibling_47 rfl (Or.inl ⟨_, rfl⟩) (Or.inr ⟨_, rfl⟩) (Nat.le_refl _) (Nat.le_refl _) ⟨by rw [hk]; rfl, rfl, rfl⟩
  refine gw_push d_S_findSibling_0 ?_
  refine gw_is3 d_S_findSibling_1 ?_
  refine gw_push d_S_findSibling_2 ?_
  refine gw_is4 d_S_findSibling_3 ?_
  exact loop (L.length + 1) 0 0 _ (by omega) (by omega) (by omega) rfl
end Sta
end
section
/-! ===== Station: contracts that change it ===== -/
/-- a cell that is neither a list nor a list's array stays when a list changes -/
theorem LV.fr {G : gG} {h h1 : gHp} {sz a e : Nat} {L : List Nat} (hL : LV G h a e L) (wf : ∀ a e, h a = some e → gBase G ≤ a ∧ a < sz) (hdce : gDce G < gBase G) (hF : Fr h h1 sz [a, e]) {b : Nat} {E : gE} (hb : h b = some E) (h0 : ∀ fs, E ≠ gO 0 fs) (h4 : ∀ n g, E ≠ gR 4 n g) : h1 b = some E := by
  rw [hF b (wf b _ hb).2]
  · exact hb
  · intro q
    simp only [List.mem_cons, List.not_mem_nil, or_false] at q
    rcases q with rfl | rfl
    · obtain ⟨⟨mo, ha⟩, -⟩ := hL
      rw [ha] at hb
      exact h0 _ (Option.some.inj hb).symm
    · obtain ⟨-, -, -, h3⟩ := hL
      rcases h3 with ⟨rfl, -⟩ | ⟨cap, g, q1, -⟩
      · have := (wf _ _ hb).1; omega
      · rw [q1] at hb
        exact h4 _ _ (Option.some.inj hb).symm
theorem VA.fr {G : gG} {V : gV} {h h1 : gHp} {sz a e : Nat} {L : List Nat} (hL : LV G h a e L) (wf : ∀ a e, h a = some e → gBase G ≤ a ∧ a < sz) (hdce : gDce G < gBase G) (hF : Fr h h1 sz [a, e]) {y : Nat} (hy : VA h V y) : VA h1 V y :=
  ⟨hL.fr wf hdce hF hy.1 (by simp) (by simp), hL.fr wf hdce hF hy.2.1 (by simp) (by simp), hy.2.2⟩
theorem TV.fr {G : gG} {h h1 : gHp} {sz a e t c : Nat} {f : Nat → Int32} {L : List Nat} (hL : LV G h a e L) (wf : ∀ a e, h a = some e → gBase G ≤ a ∧ a < sz) (hdce : gDce G < gBase G) (hF : Fr h h1 sz [a, e]) (hT : TV h t c f) : TV h1 t c f :=
  ⟨hL.fr wf hdce hF hT.1 (by simp) (by simp), hL.fr wf hdce hF hT.2 (by simp) (by simp)⟩
def skp (V : gV) (L : List Nat) (j : Nat) : Nat := j + ((L.drop j).takeWhile (vMk V)).length
theorem drop_c {L : List Nat} {j y : Nat} (hy : L[j]? = some y) : L.drop j = y :: L.drop (j + 1) := by
  obtain ⟨hlt, e1⟩ := List.getElem?_eq_some_iff.mp hy
  rw [List.drop_eq_getElem_cons hlt, e1]
theorem skp_end {V : gV} {L : List Nat} {j : Nat} (h : L.length ≤ j) : skp V L j = j := by
  unfold skp
  rw [List.drop_eq_nil_of_le h]; rfl
theorem skp_mk {V : gV} {L : List Nat} {j y : Nat} (hy : L[j]? = some y) (hm : vMk V y = true) : skp V L j = skp V L (j + 1) := by
  unfold skp
  rw [drop_c hy, List.takeWhile_cons, if_pos hm, List.length_cons]; omega
theorem skp_no {V : gV} {L : List Nat} {j y : Nat} (hy : L[j]? = some y) (hm : vMk V y = false) : skp V L j = j := by
  unfold skp
  rw [drop_c hy, List.takeWhile_cons, if_neg (by rw [hm]; decide)]; rfl
/-- the same, two by two -/
def smL (V : gV) : List Nat → List Nat → Bool
  | [], [] => true
  | x :: r, y :: r' => decide (vCm V x y = 0) && smL V r r'
  | _, _ => false
theorem smL_cc (V : gV) (x y : Nat) (r r' : List Nat) : smL V (x :: r) (y :: r') = (decide (vCm V x y = 0) && smL V r r') := rfl
theorem smL_cn (V : gV) (x : Nat) (r : List Nat) : smL V (x :: r) [] = false := rfl
theorem smL_nc (V : gV) (y : Nat) (r : List Nat) : smL V [] (y :: r) = false := rfl
theorem smL_nn (V : gV) : smL V [] [] = true := rfl
/-- those without marks from j on, by the first place behind marks -/
theorem skp_f {V : gV} {L : List Nat} : ∀ (n j : Nat), L.length - j = n → j ≤ L.length → skp V L j ≤ L.length ∧ (L.drop j).filter (fun y => !vMk V y) = (L.drop (skp V L j)).filter (fun y => !vMk V y) ∧ (∀ y, L[skp V L j]? = some y → vMk V y = false) := by
  intro n
  induction n with
  | zero =>
    intro j hn hj
    have : j = L.length := by omega
    subst this
    rw [skp_end (Nat.le_refl _)]
    exact ⟨Nat.le_refl _, rfl, fun y hy => by simp at hy⟩
  | succ n ih =>
    intro j hn hj
    obtain ⟨y, hy⟩ := get_ex (L := L) (j := j) (by omega)
    cases hm : vMk V y
    · rw [skp_no hy hm]
      exact ⟨hj, rfl, fun z hz => by rw [hy] at hz; cases hz; exact hm⟩
    · obtain ⟨i1, i2, i3⟩ := ih (j + 1) (by omega) (by omega)
      rw [skp_mk hy hm]
      refine ⟨i1, ?_, i3⟩
      rw [← i2, drop_c hy, List.filter_cons, if_neg (by rw [hm]; decide)]
/-- where x is put -/
def plc (V : gV) (x : Nat) (L : List Nat) : Nat → Nat
  | 0 => 0
  | k + 1 => if 0 < vCm V (L.getD k 0) x then plc V x L k else k + 1
theorem plc_le {V : gV} {x : Nat} {L : List Nat} : ∀ k, plc V x L k ≤ k
  | 0 => Nat.le_refl _
  | k + 1 => by
    unfold plc
    have := plc_le (V := V) (x := x) (L := L) k
    split <;> omega
def insS (V : gV) (x : Nat) (L : List Nat) : List Nat := insA L (plc V x L L.length) x
def lrn (f f2 : Nat → Int32) (i : Nat) : Nat → Nat → Int32
  | 0 => f
  | n + 1 => if n = i then lrn f f2 i n else jnV (lrn f f2 i n) (n * 40) (fun k => f2 (n * 40 + k)) 40
theorem n_km1 {k : Nat} (hk : 0 < k) : nI k - 1 + (-1) = nI (k - 1) - 1 := by
  rw [n_m1 hk]
  obtain ⟨k, rfl⟩ : ∃ m, k = m + 1 := ⟨k - 1, by omega⟩
  show nI k + (-1) = nI k - 1
  rw [Int32.sub_eq_add_neg]
theorem n_neg1 : nI 0 - 1 < 0 := by decide
section Sta2
variable {G : gG} {l : Launch} {h : gHp} {sz : Nat} {V : gV} {s i a e t c : Nat} {L : List Nat} {f : Nat → Int32} {x : Nat}
theorem c_S_skipMarks (hV : SV G V h s i a e L t c f) {j : Nat} (hj : j ≤ L.length) : SM G l 4 y_S_skipMarks M_S_skipMarks [.ref s, .int (nI j)] h sz 0 0 (qR (.int (nI (skp V L j))) h sz) := by
  obtain ⟨hs, hL, hT, hi, hA⟩ := hV
  obtain ⟨mo, ha⟩ := hL.1
  have h48 := hL.2.1
  refine SM.of (lv0 := [some (.ref s), some (.int (nI j)), none]) (by decide +kernel) rfl ⟨rfl, rfl⟩ rfl (by simp [Value.category]) (Nat.le_of_ble_eq_true rfl) ?_
  have loop : ∀ m k, k ≤ L.length → L.length - k < m → skp V L j = skp V L k → GM G l 4 0 0 (qR (.int (nI (skp V L j))) h sz) M_S_skipMarks 2 [some (.ref s), some (.int (nI j)), some (.int (nI k))] [] h sz 0 0 := by
    intro m
    induction m with
    | zero => intro j _ hj; exact absurd hj (Nat.not_lt_zero _)
    | succ m ih =>
      intro k hk hm hI
      refine gw_il2 d_S_skipMarks_2 ?_
      refine gw_al0 d_S_skipMarks_3 ?_
      refine gw_get d_S_skipMarks_4 (by assumption) (by rfl) ?_
      refine gw_rV0 d_S_skipMarks_7 cs_S_skipMarks_7 ha (c_A_size hL) ?_
      refine gw_icge d_S_skipMarks_10 (fun c_10 => ?_) (fun c_10 => ?_)
      · refine gw_il2 d_S_skipMarks_36 ?_
        first | (have q4 := n_le c_10 (by omega) (by omega); exact gw_iret d_S_skipMarks_37 rfl (Nat.le_refl _) (Nat.le_refl _) ⟨by rw [hI, skp_end q4], rfl, rfl⟩) | exact gw_iret d_S_skipMarks_37 rfl (Nat.le_refl _) (Nat.le_refl _) ⟨by rw [hI, skp_no hy ((b2i_eq0 _).mp c_27)], rfl, rfl⟩
      · refine gw_al0 d_S_skipMarks_13 ?_
        refine gw_get d_S_skipMarks_14 (by assumption) (by rfl) ?_
        refine gw_il2 d_S_skipMarks_17 ?_
        have hlt := n_nle c_10 (by omega) (by omega); obtain ⟨y, hy⟩ := get_ex hlt; have hyA := hA y (List.mem_of_getElem? hy); have hy1 := hyA.1; refine gw_rV1 d_S_skipMarks_18 cs_S_skipMarks_18 ha (c_A_get hL hy) ?_
        refine gw_castV d_S_skipMarks_21 cl_S_skipMarks_21 (by assumption) ?_
        refine gw_rV0 d_S_skipMarks_24 cs_S_skipMarks_24 hy1 (c_V_isMark hyA.1) ?_
        refine gw_ifeq d_S_skipMarks_27 (fun c_27 => ?_) (fun c_27 => ?_)
        · refine gw_il2 d_S_skipMarks_36 ?_
          first | (have q4 := n_le c_10 (by omega) (by omega); exact gw_iret d_S_skipMarks_37 rfl (Nat.le_refl _) (Nat.le_refl _) ⟨by rw [hI, skp_end q4], rfl, rfl⟩) | exact gw_iret d_S_skipMarks_37 rfl (Nat.le_refl _) (Nat.le_refl _) ⟨by rw [hI, skp_no hy ((b2i_eq0 _).mp c_27)], rfl, rfl⟩
        · refine gw_ii2 d_S_skipMarks_30 (by rw [n_s]; exact gw_goto d_S_skipMarks_33 (ih (k + 1) (by omega) (by omega) (by rw [hI, skp_mk hy ((b2i_ne0 _).mp c_27)])))
  refine gw_il1 d_S_skipMarks_0 ?_
  refine gw_is2 d_S_skipMarks_1 ?_
  exact loop (L.length + 1) j hj (by omega) rfl
theorem c_S_hasSameSiblingsAs (hV : SV G V h s i a e L t c f) {s2 i2 a2 e2 t2 c2 : Nat} {L2 : List Nat} {f2 : Nat → Int32} (hV2 : SV G V h s2 i2 a2 e2 L2 t2 c2 f2) : SM G l 5 y_S_hasSameSiblingsAs M_S_hasSameSiblingsAs [.ref s, .ref s2] h sz 0 0 (qR (.int (b2i (smL V (L.filter (fun y => !vMk V y)) (L2.filter (fun y => !vMk V y))))) h sz) := by
  have hVb := hV2
  obtain ⟨hs, hL, hT, hi, hA⟩ := hV
  obtain ⟨hs2, hL2, hT2, hi2, hA2⟩ := hV2
  obtain ⟨mo, ha⟩ := hL.1
  obtain ⟨mo2, ha2⟩ := hL2.1
  have h48 := hL.2.1
  have h482 := hL2.2.1
  refine SM.of (lv0 := [some (.ref s), some (.ref s2), none, none, none]) (by decide +kernel) rfl ⟨rfl, rfl⟩ rfl (by simp [Value.category]) (Nat.le_of_ble_eq_true rfl) ?_
  have loop : ∀ m j k q4, j ≤ L.length → L.length - j < m → k ≤ L2.length → (∀ y, L2[k]? = some y → vMk V y = false) → smL V (L.filter (fun y => !vMk V y)) (L2.filter (fun y => !vMk V y)) = smL V ((L.drop j).filter (fun y => !vMk V y)) ((L2.drop k).filter (fun y => !vMk V y)) → GM G l 5 0 0 (qR (.int (b2i (smL V (L.filter (fun y => !vMk V y)) (L2.filter (fun y => !vMk V y))))) h sz) M_S_hasSameSiblingsAs 8 [some (.ref s), some (.ref s2), some (.int (nI k)), some (.int (nI j)), q4] [] h sz 0 0 := by
    intro m
    induction m with
    | zero => intro j _ _ _ hj; exact absurd hj (Nat.not_lt_zero _)
    | succ m ih =>
      intro j k q4 hj hm hk hnm hI
      refine gw_il3 d_S_hasSameSiblingsAs_8 ?_
      refine gw_al0 d_S_hasSameSiblingsAs_9 ?_
      refine gw_get d_S_hasSameSiblingsAs_10 (by assumption) (by rfl) ?_
      refine gw_rV0 d_S_hasSameSiblingsAs_13 cs_S_hasSameSiblingsAs_13 ha (c_A_size hL) ?_
      refine gw_icge d_S_hasSameSiblingsAs_16 (fun c_16 => ?_) (fun c_16 => ?_)
      · refine gw_il2 d_S_hasSameSiblingsAs_89 ?_
        refine gw_al1 d_S_hasSameSiblingsAs_90 ?_
        refine gw_get d_S_hasSameSiblingsAs_91 (by assumption) (by rfl) ?_
        have q4 := n_le c_16 (by omega) (by omega); rw [List.drop_eq_nil_of_le q4, List.filter_nil] at hI; refine gw_rV0 d_S_hasSameSiblingsAs_94 cs_S_hasSameSiblingsAs_94 ha2 (c_A_size hL2) ?_
        refine gw_iclt d_S_hasSameSiblingsAs_97 (fun c_97 => ?_) (fun c_97 => ?_)
        · refine gw_push d_S_hasSameSiblingsAs_104 ?_
          first | (have q9 := n_lt c_97 (by omega) (by omega); obtain ⟨z, hz⟩ := get_ex q9; rw [drop_c hz, List.filter_cons, if_pos (by rw [hnm z hz]; rfl), smL_nc] at hI; exact gw_zret d_S_hasSameSiblingsAs_105 rfl (Or.inl rfl) (Nat.le_refl _) (Nat.le_refl _) ⟨by rw [hI]; rfl, rfl, rfl⟩) | (have q9 := n_nlt c_97 (by omega) (by omega); rw [List.drop_eq_nil_of_le q9, List.filter_nil, smL_nn] at hI; exact gw_zret d_S_hasSameSiblingsAs_105 rfl (Or.inr rfl) (Nat.le_refl _) (Nat.le_refl _) ⟨by rw [hI]; rfl, rfl, rfl⟩)
        · refine gw_push d_S_hasSameSiblingsAs_100 ?_
          refine gw_goto d_S_hasSameSiblingsAs_101 ?_
          first | (have q9 := n_lt c_97 (by omega) (by omega); obtain ⟨z, hz⟩ := get_ex q9; rw [drop_c hz, List.filter_cons, if_pos (by rw [hnm z hz]; rfl), smL_nc] at hI; exact gw_zret d_S_hasSameSiblingsAs_105 rfl (Or.inl rfl) (Nat.le_refl _) (Nat.le_refl _) ⟨by rw [hI]; rfl, rfl, rfl⟩) | (have q9 := n_nlt c_97 (by omega) (by omega); rw [List.drop_eq_nil_of_le q9, List.filter_nil, smL_nn] at hI; exact gw_zret d_S_hasSameSiblingsAs_105 rfl (Or.inr rfl) (Nat.le_refl _) (Nat.le_refl _) ⟨by rw [hI]; rfl, rfl, rfl⟩)
      · refine gw_al0 d_S_hasSameSiblingsAs_19 ?_
        refine gw_get d_S_hasSameSiblingsAs_20 (by assumption) (by rfl) ?_
        refine gw_il3 d_S_hasSameSiblingsAs_23 ?_
        have hlt := n_nle c_16 (by omega) (by omega); obtain ⟨y, hy⟩ := get_ex hlt; have hyA := hA y (List.mem_of_getElem? hy); have hy1 := hyA.1; rw [drop_c hy, List.filter_cons] at hI; refine gw_rV1 d_S_hasSameSiblingsAs_24 cs_S_hasSameSiblingsAs_24 ha (c_A_get hL hy) ?_
        refine gw_castV d_S_hasSameSiblingsAs_27 cl_S_hasSameSiblingsAs_27 (by assumption) ?_
        refine gw_as4 d_S_hasSameSiblingsAs_30 ?_
        refine gw_al4 d_S_hasSameSiblingsAs_32 ?_
        refine gw_rV0 d_S_hasSameSiblingsAs_34 cs_S_hasSameSiblingsAs_34 hy1 (c_V_isMark hyA.1) ?_
        refine gw_ifeq d_S_hasSameSiblingsAs_37 (fun c_37 => ?_) (fun c_37 => ?_)
        · refine gw_il2 d_S_hasSameSiblingsAs_43 ?_
          refine gw_al1 d_S_hasSameSiblingsAs_44 ?_
          refine gw_get d_S_hasSameSiblingsAs_45 (by assumption) (by rfl) ?_
          refine gw_rV0 d_S_hasSameSiblingsAs_48 cs_S_hasSameSiblingsAs_48 ha2 (c_A_size hL2) ?_
          refine gw_icge d_S_hasSameSiblingsAs_51 (fun c_51 => ?_) (fun c_51 => ?_)
          · refine gw_push d_S_hasSameSiblingsAs_73 ?_
            first | (rw [show vMk V y = false from (b2i_eq0 _).mp c_37, if_pos (show (!false) = true from rfl), drop_c hz, List.filter_cons, if_pos (by rw [hnm z hz]; rfl), smL_cc, decide_eq_false c_70, Bool.false_and] at hI; exact gw_zret d_S_hasSameSiblingsAs_74 rfl (Or.inl rfl) (Nat.le_refl _) (Nat.le_refl _) ⟨by rw [hI]; rfl, rfl, rfl⟩) | (have q9 := n_le c_51 (by omega) (by omega); rw [show vMk V y = false from (b2i_eq0 _).mp c_37, if_pos (show (!false) = true from rfl), List.drop_eq_nil_of_le q9, List.filter_nil, smL_cn] at hI; exact gw_zret d_S_hasSameSiblingsAs_74 rfl (Or.inl rfl) (Nat.le_refl _) (Nat.le_refl _) ⟨by rw [hI]; rfl, rfl, rfl⟩)
          · refine gw_al4 d_S_hasSameSiblingsAs_54 ?_
            refine gw_al1 d_S_hasSameSiblingsAs_56 ?_
            refine gw_get d_S_hasSameSiblingsAs_57 (by assumption) (by rfl) ?_
            refine gw_il2 d_S_hasSameSiblingsAs_60 ?_
            have hlt2 := n_nle c_51 (by omega) (by omega); obtain ⟨z, hz⟩ := get_ex hlt2; have hzA := hA2 z (List.mem_of_getElem? hz); have hz1 := hzA.1; refine gw_rV1 d_S_hasSameSiblingsAs_61 cs_S_hasSameSiblingsAs_61 ha2 (c_A_get hL2 hz) ?_
            refine gw_castV d_S_hasSameSiblingsAs_64 cl_S_hasSameSiblingsAs_64 (by assumption) ?_
            refine gw_rV1 d_S_hasSameSiblingsAs_67 cs_S_hasSameSiblingsAs_67 hy1 (c_V_compareWith hyA.1 hyA.2.1 hzA.1 hzA.2.1) ?_; rw [show lxs (vVec V y) (vVec V z) (cmpI (nI (vDoc V y)) (nI (vDoc V z))) 4 = vCm V y z from rfl]
            refine gw_ifeq d_S_hasSameSiblingsAs_70 (fun c_70 => ?_) (fun c_70 => ?_)
            · refine gw_al1 d_S_hasSameSiblingsAs_75 ?_
              refine gw_il2 d_S_hasSameSiblingsAs_76 ?_
              refine gw_push d_S_hasSameSiblingsAs_77 ?_
              refine gw_iadd d_S_hasSameSiblingsAs_78 ?_; rw [n_s]
              refine gw_rV1 d_S_hasSameSiblingsAs_79 cs_S_hasSameSiblingsAs_79 hs2 (c_S_skipMarks hVb (j := k + 1) (by omega)) ?_
              refine gw_is2 d_S_hasSameSiblingsAs_82 ?_
              first | (rw [show vMk V y = true from (b2i_ne0 _).mp c_37] at hI; exact gw_ii3 d_S_hasSameSiblingsAs_83 (by rw [n_s]; exact gw_goto d_S_hasSameSiblingsAs_86 (ih (j + 1) k _ (by omega) (by omega) hk hnm hI))) | (obtain ⟨g1, g2, g3⟩ := skp_f (V := V) (L := L2) _ (k + 1) rfl (by omega); rw [show vMk V y = false from (b2i_eq0 _).mp c_37, drop_c hz, List.filter_cons, if_pos (show (!false) = true from rfl), if_pos (by rw [hnm z hz]; rfl), smL_cc, decide_eq_true c_70, Bool.true_and, g2] at hI; exact gw_ii3 d_S_hasSameSiblingsAs_83 (by rw [n_s]; exact gw_goto d_S_hasSameSiblingsAs_86 (ih (j + 1) (skp V L2 (k + 1)) _ (by omega) (by omega) g1 g3 hI)))
            · refine gw_push d_S_hasSameSiblingsAs_73 ?_
              first | (rw [show vMk V y = false from (b2i_eq0 _).mp c_37, if_pos (show (!false) = true from rfl), drop_c hz, List.filter_cons, if_pos (by rw [hnm z hz]; rfl), smL_cc, decide_eq_false c_70, Bool.false_and] at hI; exact gw_zret d_S_hasSameSiblingsAs_74 rfl (Or.inl rfl) (Nat.le_refl _) (Nat.le_refl _) ⟨by rw [hI]; rfl, rfl, rfl⟩) | (have q9 := n_le c_51 (by omega) (by omega); rw [show vMk V y = false from (b2i_eq0 _).mp c_37, if_pos (show (!false) = true from rfl), List.drop_eq_nil_of_le q9, List.filter_nil, smL_cn] at hI; exact gw_zret d_S_hasSameSiblingsAs_74 rfl (Or.inl rfl) (Nat.le_refl _) (Nat.le_refl _) ⟨by rw [hI]; rfl, rfl, rfl⟩)
        · refine gw_goto d_S_hasSameSiblingsAs_40 ?_
          first | (rw [show vMk V y = true from (b2i_ne0 _).mp c_37] at hI; exact gw_ii3 d_S_hasSameSiblingsAs_83 (by rw [n_s]; exact gw_goto d_S_hasSameSiblingsAs_86 (ih (j + 1) k _ (by omega) (by omega) hk hnm hI))) | (obtain ⟨g1, g2, g3⟩ := skp_f (V := V) (L := L2) _ (k + 1) rfl (by omega); rw [show vMk V y = false from (b2i_eq0 _).mp c_37, drop_c hz, List.filter_cons, if_pos (show (!false) = true from rfl), if_pos (by rw [hnm z hz]; rfl), smL_cc, decide_eq_true c_70, Bool.true_and, g2] at hI; exact gw_ii3 d_S_hasSameSiblingsAs_83 (by rw [n_s]; exact gw_goto d_S_hasSameSiblingsAs_86 (ih (j + 1) (skp V L2 (k + 1)) _ (by omega) (by omega) g1 g3 hI)))
  refine gw_al1 d_S_hasSameSiblingsAs_0 ?_
  refine gw_push d_S_hasSameSiblingsAs_1 ?_
  refine gw_rV1 d_S_hasSameSiblingsAs_2 cs_S_hasSameSiblingsAs_2 hs2 (c_S_skipMarks hVb (j := 0) (by omega)) ?_
  refine gw_is2 d_S_hasSameSiblingsAs_5 ?_
  refine gw_push d_S_hasSameSiblingsAs_6 ?_
  refine gw_is3 d_S_hasSameSiblingsAs_7 ?_
  obtain ⟨g1, g2, g3⟩ := skp_f (V := V) (L := L2) _ 0 rfl (by omega); exact loop (L.length + 1) 0 (skp V L2 0) _ (by omega) (by omega) g1 g3 (by rw [← g2]; rfl)
end Sta2
end
section
/-! ===== Station: contracts that change it (2) ===== -/
theorem del_take {L F : List Nat} {k y : Nat} (hk : 0 < k) (hkL : k ≤ L.length) (hy : L[k - 1]? = some y) : delA (L.take k ++ F) (k - 1) = L.take (k - 1) ++ F := by
  have h1 : L.take k = L.take (k - 1) ++ [y] := by
    have := take_s hy
    rwa [show k - 1 + 1 = k by omega] at this
  unfold delA
  have hl : (L.take (k - 1)).length = k - 1 := by simp; omega
  have hl2 : (L.take k).length = k := by simp; omega
  rw [show k - 1 + 1 = k by omega, List.take_append_of_le_length (by rw [hl2]; omega), List.take_take, Nat.min_eq_left (by omega), List.drop_append_of_le_length (by rw [hl2]; omega), List.drop_eq_nil_of_le (by rw [hl2]; omega), List.nil_append]
theorem keep_take {L : List Nat} {p : Nat → Bool} {k y : Nat} (hk : 0 < k) (hy : L[k - 1]? = some y) (hp : p y = true) : L.take k ++ (L.drop k).filter p = L.take (k - 1) ++ (L.drop (k - 1)).filter p := by
  have h1 : L.take k = L.take (k - 1) ++ [y] := by
    have := take_s hy
    rwa [show k - 1 + 1 = k by omega] at this
  rw [drop_c hy, List.filter_cons, if_pos hp, h1, show k - 1 + 1 = k by omega, List.append_assoc]; rfl
theorem gone_take {L : List Nat} {p : Nat → Bool} {k y : Nat} (hk : 0 < k) (hy : L[k - 1]? = some y) (hp : p y = false) : L.take (k - 1) ++ (L.drop k).filter p = L.take (k - 1) ++ (L.drop (k - 1)).filter p := by
  rw [drop_c hy, List.filter_cons, if_neg (by rw [hp]; decide), show k - 1 + 1 = k by omega]
theorem cur_get {L F : List Nat} {k y : Nat} (hk : 0 < k) (hkL : k ≤ L.length) (hy : L[k - 1]? = some y) : (L.take k ++ F)[k - 1]? = some y := by
  rw [List.getElem?_append_left (by simp; omega), List.getElem?_take_of_lt (by omega)]; exact hy
/-- a list stays when another kind of cell changes -/
theorem LV.other {G : gG} {h : gHp} {a e b : Nat} {L : List Nat} {E E' : gE} (hL : LV G h a e L) (hb : h b = some E) (h0 : ∀ fs, E ≠ gO 0 fs ∧ E ≠ gO 4 fs) (h4 : ∀ n g, E ≠ gR 4 n g) : LV G (gUp h b E') a e L := by
  obtain ⟨⟨mo, ha⟩, h48, hel, h3⟩ := hL
  have hab : a ≠ b := by rintro rfl; rw [ha] at hb; exact (h0 _).1 (Option.some.inj hb).symm
  refine ⟨⟨mo, by rw [gUp_ne _ _ hab]; exact ha⟩, h48, fun y hy => ?_, ?_⟩
  · obtain ⟨fs, hfs⟩ := hel y hy
    refine ⟨fs, ?_⟩
    rw [gUp_ne]
    · exact hfs
    · rintro rfl; rw [hfs] at hb; exact (h0 _).2 (Option.some.inj hb).symm
  · rcases h3 with q | ⟨cap, g, q1, q2⟩
    · exact Or.inl q
    · refine Or.inr ⟨cap, g, ?_, q2⟩
      rw [gUp_ne]
      · exact q1
      · rintro rfl; rw [q1] at hb; exact h4 _ _ (Option.some.inj hb).symm
section Sta3
variable {G : gG} {l : Launch} {h : gHp} {sz : Nat} {V : gV} {s i a e t c : Nat} {L : List Nat} {f : Nat → Int32} {x : Nat}
theorem c_S_removeReplaced (hV : SV G V h s i a e L t c f) (hx : VA h V x) : SM G l 4 y_S_removeReplaced M_S_removeReplaced [.ref s, .ref x] h sz 0 0 (qV (fun h' sz' => LV G h' a e (L.filter (fun y => !vRp V x y)) ∧ Fr h h' sz [a, e] ∧ sz' = sz)) := by
  obtain ⟨hs, hL, hT, hi, hA⟩ := hV
  obtain ⟨mo, ha⟩ := hL.1
  have h48 := hL.2.1
  refine SM.of (lv0 := [some (.ref s), some (.ref x), none]) (by decide +kernel) rfl ⟨rfl, rfl⟩ rfl (by simp [Value.category]) (Nat.le_of_ble_eq_true rfl) ?_
  refine GW.dce (fun hdce => ?_)
  refine GW.wf (fun wf => ?_)
  have loop : ∀ m k (h1 : gHp), k ≤ L.length → k < m → LV G h1 a e (L.take k ++ (L.drop k).filter (fun y => !vRp V x y)) → Fr h h1 sz [a, e] → GM G l 4 0 0 (qV (fun h' sz' => LV G h' a e (L.filter (fun y => !vRp V x y)) ∧ Fr h h' sz [a, e] ∧ sz' = sz)) M_S_removeReplaced 10 [some (.ref s), some (.ref x), some (.int (nI k - 1))] [] h1 sz 0 0 := by
    intro m
    induction m with
    | zero => intro k _ _ hk; exact absurd hk (Nat.not_lt_zero _)
    | succ m ih =>
      intro k h1 hk hm hL1 hF
      have hs1 := hL.fr wf hdce hF hs (by simp) (by simp)
      obtain ⟨mo1, ha1⟩ := hL1.1
      have hx1 := hx.fr hL wf hdce hF
      have hxo := hx1.1
      by_cases hk0 : k = 0
      · subst hk0
        refine gw_il2 d_S_removeReplaced_10 ?_
        refine gw_iflt d_S_removeReplaced_11 (fun c_11 => ?_) (fun c_11 => absurd n_neg1 c_11)
        exact gw_vret d_S_removeReplaced_47 rfl (Nat.le_refl _) (Nat.le_refl _) ⟨rfl, by simpa using hL1, hF, rfl⟩
      · obtain ⟨y, hy⟩ := get_ex (L := L) (j := k - 1) (by omega)
        have hyA := (hA y (List.mem_of_getElem? hy)).fr hL wf hdce hF
        have hy1 := hyA.1
        have hcur := cur_get (F := (L.drop k).filter (fun y => !vRp V x y)) (by omega) hk hy
        have e1 : nI k - 1 = nI (k - 1) := n_m1 (by omega)
        have e2 : nI (k - 1) + (-1) = nI (k - 1) - 1 := by rw [Int32.sub_eq_add_neg]
        rw [e1]
        refine gw_il2 d_S_removeReplaced_10 ?_
        refine gw_iflt d_S_removeReplaced_11 (fun c_11 => absurd c_11 (nI_pos (by omega))) (fun c_11 => ?_)
        refine gw_al1 d_S_removeReplaced_14 ?_
        refine gw_al0 d_S_removeReplaced_15 ?_
        refine gw_get d_S_removeReplaced_16 (by assumption) (by rfl) ?_
        refine gw_il2 d_S_removeReplaced_19 ?_
        refine gw_rV1 d_S_removeReplaced_20 cs_S_removeReplaced_20 ha1 (c_A_get hL1 hcur) ?_
        refine gw_castV d_S_removeReplaced_23 cl_S_removeReplaced_23 (by assumption) ?_
        refine gw_rV1 d_S_removeReplaced_26 cs_S_removeReplaced_26 hxo (c_V_replaces hx1.1 hx1.2.1 hyA.1 hyA.2.1) ?_; rw [show (decide (nI (vDoc V x) = nI (vDoc V y)) && cov4 (vVec V x) (vVec V y)) = vRp V x y from by rw [vRp, decide_eq_decide.mpr (nI_eq (by have := hx.2.2; omega) (by have := hyA.2.2; omega))]]
        refine gw_ifeq d_S_removeReplaced_29 (fun c_29 => ?_) (fun c_29 => ?_)
        · first | exact gw_ii2 d_S_removeReplaced_41 (by rw [e2]; exact gw_goto d_S_removeReplaced_44 (ih (k - 1) _ (by omega) (by omega) w2 (hF.trans w3 (Nat.le_refl _)))) | exact gw_ii2 d_S_removeReplaced_41 (by rw [e2]; exact gw_goto d_S_removeReplaced_44 (ih (k - 1) _ (by omega) (by omega) (by rw [← keep_take (p := fun y => !vRp V x y) (by omega) hy (by rw [(b2i_eq0 _).mp c_29]; rfl)]; exact hL1) hF))
        · refine gw_al0 d_S_removeReplaced_32 ?_
          refine gw_get d_S_removeReplaced_33 (by assumption) (by rfl) ?_
          refine gw_il2 d_S_removeReplaced_36 ?_
          refine gw_cV1 d_S_removeReplaced_37 cs_S_removeReplaced_37 ha1 (c_A_remove hL1 hcur) (fun v h' sz' hp hz => ?_) (fun E h' sz' hp _ => by cases hp.1); obtain ⟨w1, w2, w3, rfl⟩ := hp; cases w1; rw [del_take (by omega) hk hy, gone_take (p := fun y => !vRp V x y) (by omega) hy (by rw [(b2i_ne0 _).mp c_29]; rfl)] at w2
          refine gw_pop d_S_removeReplaced_40 rfl ?_
          first | exact gw_ii2 d_S_removeReplaced_41 (by rw [e2]; exact gw_goto d_S_removeReplaced_44 (ih (k - 1) _ (by omega) (by omega) w2 (hF.trans w3 (Nat.le_refl _)))) | exact gw_ii2 d_S_removeReplaced_41 (by rw [e2]; exact gw_goto d_S_removeReplaced_44 (ih (k - 1) _ (by omega) (by omega) (by rw [← keep_take (p := fun y => !vRp V x y) (by omega) hy (by rw [(b2i_eq0 _).mp c_29]; rfl)]; exact hL1) hF))
  refine gw_al0 d_S_removeReplaced_0 ?_
  refine gw_get d_S_removeReplaced_1 (by assumption) (by rfl) ?_
  refine gw_rV0 d_S_removeReplaced_4 cs_S_removeReplaced_4 ha (c_A_size hL) ?_
  refine gw_push d_S_removeReplaced_7 ?_
  refine gw_isub d_S_removeReplaced_8 ?_
  refine gw_is2 d_S_removeReplaced_9 ?_
  exact loop (L.length + 1) L.length h (Nat.le_refl _) (by omega) (by simpa using hL) Fr.refl
theorem c_S_dropMarks (hV : SV G V h s i a e L t c f) : SM G l 4 y_S_dropMarksThatAllHave M_S_dropMarksThatAllHave [.ref s] h sz 0 0 (qV (fun h' sz' => LV G h' a e (L.filter (fun y => !(vMk V y && (tCv V f 0 y && (tCv V f 1 y && (tCv V f 2 y && tCv V f 3 y)))))) ∧ Fr h h' sz [a, e] ∧ sz' = sz)) := by
  obtain ⟨hs, hL, hT, hi, hA⟩ := hV
  obtain ⟨mo, ha⟩ := hL.1
  have h48 := hL.2.1
  obtain ⟨p, hp⟩ : ∃ p : Nat → Bool, p = fun y => !(vMk V y && (tCv V f 0 y && (tCv V f 1 y && (tCv V f 2 y && tCv V f 3 y)))) := ⟨_, rfl⟩
  rw [← hp]
  refine SM.of (lv0 := [some (.ref s), none, none]) (by decide +kernel) rfl ⟨rfl, rfl⟩ rfl (by simp [Value.category]) (Nat.le_of_ble_eq_true rfl) ?_
  refine GW.dce (fun hdce => ?_)
  refine GW.wf (fun wf => ?_)
  have loop : ∀ m k (h1 : gHp) q2, k ≤ L.length → k < m → LV G h1 a e (L.take k ++ (L.drop k).filter p) → Fr h h1 sz [a, e] → GM G l 4 0 0 (qV (fun h' sz' => LV G h' a e (L.filter p) ∧ Fr h h' sz [a, e] ∧ sz' = sz)) M_S_dropMarksThatAllHave 10 [some (.ref s), some (.int (nI k - 1)), q2] [] h1 sz 0 0 := by
    intro m
    induction m with
    | zero => intro k _ _ _ hk; exact absurd hk (Nat.not_lt_zero _)
    | succ m ih =>
      intro k h1 q2 hk hm hL1 hF
      have hs1 := hL.fr wf hdce hF hs (by simp) (by simp)
      obtain ⟨mo1, ha1⟩ := hL1.1
      have hT1 := TV.fr hL wf hdce hF hT
      by_cases hk0 : k = 0
      · subst hk0
        refine gw_il1 d_S_dropMarksThatAllHave_10 ?_
        refine gw_iflt d_S_dropMarksThatAllHave_11 (fun c_11 => ?_) (fun c_11 => absurd n_neg1 c_11)
        exact gw_vret d_S_dropMarksThatAllHave_56 rfl (Nat.le_refl _) (Nat.le_refl _) ⟨rfl, by simpa using hL1, hF, rfl⟩
      · obtain ⟨y, hy⟩ := get_ex (L := L) (j := k - 1) (by omega)
        have hyA := (hA y (List.mem_of_getElem? hy)).fr hL wf hdce hF
        have hy1 := hyA.1
        have hcur := cur_get (F := (L.drop k).filter p) (by omega) hk hy
        have e1 : nI k - 1 = nI (k - 1) := n_m1 (by omega)
        have e2 : nI (k - 1) + (-1) = nI (k - 1) - 1 := by rw [Int32.sub_eq_add_neg]
        have hV1 : SV G V h1 s i a e (L.take k ++ (L.drop k).filter p) t c f := ⟨hs1, hL1, hT1, hi, fun z hz => by
          refine (hA z ?_).fr hL wf hdce hF
          rcases List.mem_append.mp hz with q | q
          · exact List.mem_of_mem_take q
          · exact List.mem_of_mem_drop (List.mem_filter.mp q).1⟩
        rw [e1]
        refine gw_il1 d_S_dropMarksThatAllHave_10 ?_
        refine gw_iflt d_S_dropMarksThatAllHave_11 (fun c_11 => absurd c_11 (nI_pos (by omega))) (fun c_11 => ?_)
        refine gw_al0 d_S_dropMarksThatAllHave_14 ?_
        refine gw_get d_S_dropMarksThatAllHave_15 (by assumption) (by rfl) ?_
        refine gw_il1 d_S_dropMarksThatAllHave_18 ?_
        refine gw_rV1 d_S_dropMarksThatAllHave_19 cs_S_dropMarksThatAllHave_19 ha1 (c_A_get hL1 hcur) ?_
        refine gw_castV d_S_dropMarksThatAllHave_22 cl_S_dropMarksThatAllHave_22 (by assumption) ?_
        refine gw_as2 d_S_dropMarksThatAllHave_25 ?_
        refine gw_al2 d_S_dropMarksThatAllHave_26 ?_
        refine gw_rV0 d_S_dropMarksThatAllHave_27 cs_S_dropMarksThatAllHave_27 hy1 (c_V_isMark hyA.1) ?_
        refine gw_ifeq d_S_dropMarksThatAllHave_30 (fun c_30 => ?_) (fun c_30 => ?_)
        · first | exact gw_ii1 d_S_dropMarksThatAllHave_50 (by rw [e2]; exact gw_goto d_S_dropMarksThatAllHave_53 (ih (k - 1) _ _ (by omega) (by omega) w2 (hF.trans w3 (Nat.le_refl _)))) | exact gw_ii1 d_S_dropMarksThatAllHave_50 (by rw [e2]; exact gw_goto d_S_dropMarksThatAllHave_53 (ih (k - 1) _ _ (by omega) (by omega) (by rw [← keep_take (p := p) (by omega) hy (by rw [hp]; show (!(vMk V y && _)) = true; first | rw [show vMk V y = false from (b2i_eq0 _).mp c_30]; rfl | rw [(b2i_eq0 _).mp c_38, Bool.and_false]; rfl)]; exact hL1) hF))
        · refine gw_al0 d_S_dropMarksThatAllHave_33 ?_
          refine gw_al2 d_S_dropMarksThatAllHave_34 ?_
          refine gw_rV1 d_S_dropMarksThatAllHave_35 cs_S_dropMarksThatAllHave_35 hs1 (c_S_allHave hV1 hyA) ?_
          refine gw_ifeq d_S_dropMarksThatAllHave_38 (fun c_38 => ?_) (fun c_38 => ?_)
          · first | exact gw_ii1 d_S_dropMarksThatAllHave_50 (by rw [e2]; exact gw_goto d_S_dropMarksThatAllHave_53 (ih (k - 1) _ _ (by omega) (by omega) w2 (hF.trans w3 (Nat.le_refl _)))) | exact gw_ii1 d_S_dropMarksThatAllHave_50 (by rw [e2]; exact gw_goto d_S_dropMarksThatAllHave_53 (ih (k - 1) _ _ (by omega) (by omega) (by rw [← keep_take (p := p) (by omega) hy (by rw [hp]; show (!(vMk V y && _)) = true; first | rw [show vMk V y = false from (b2i_eq0 _).mp c_30]; rfl | rw [(b2i_eq0 _).mp c_38, Bool.and_false]; rfl)]; exact hL1) hF))
          · refine gw_al0 d_S_dropMarksThatAllHave_41 ?_
            refine gw_get d_S_dropMarksThatAllHave_42 (by assumption) (by rfl) ?_
            refine gw_il1 d_S_dropMarksThatAllHave_45 ?_
            refine gw_cV1 d_S_dropMarksThatAllHave_46 cs_S_dropMarksThatAllHave_46 ha1 (c_A_remove hL1 hcur) (fun v h' sz' hp9 hz => ?_) (fun E h' sz' hp9 _ => by cases hp9.1); obtain ⟨w1, w2, w3, rfl⟩ := hp9; cases w1; rw [del_take (by omega) hk hy, gone_take (p := p) (by omega) hy (by rw [hp]; show (!(vMk V y && _)) = false; rw [show vMk V y = true from (b2i_ne0 _).mp c_30, (b2i_ne0 _).mp c_38]; rfl)] at w2
            refine gw_pop d_S_dropMarksThatAllHave_49 rfl ?_
            first | exact gw_ii1 d_S_dropMarksThatAllHave_50 (by rw [e2]; exact gw_goto d_S_dropMarksThatAllHave_53 (ih (k - 1) _ _ (by omega) (by omega) w2 (hF.trans w3 (Nat.le_refl _)))) | exact gw_ii1 d_S_dropMarksThatAllHave_50 (by rw [e2]; exact gw_goto d_S_dropMarksThatAllHave_53 (ih (k - 1) _ _ (by omega) (by omega) (by rw [← keep_take (p := p) (by omega) hy (by rw [hp]; show (!(vMk V y && _)) = true; first | rw [show vMk V y = false from (b2i_eq0 _).mp c_30]; rfl | rw [(b2i_eq0 _).mp c_38, Bool.and_false]; rfl)]; exact hL1) hF))
  refine gw_al0 d_S_dropMarksThatAllHave_0 ?_
  refine gw_get d_S_dropMarksThatAllHave_1 (by assumption) (by rfl) ?_
  refine gw_rV0 d_S_dropMarksThatAllHave_4 cs_S_dropMarksThatAllHave_4 ha (c_A_size hL) ?_
  refine gw_push d_S_dropMarksThatAllHave_7 ?_
  refine gw_isub d_S_dropMarksThatAllHave_8 ?_
  refine gw_is1 d_S_dropMarksThatAllHave_9 ?_
  exact loop (L.length + 1) L.length h _ (Nat.le_refl _) (by omega) (by simpa using hL) Fr.refl
theorem c_S_insert (hV : SV G V h s i a e L t c f) (h47 : L.length < 48) (hx : VA h V x) : SM G l 7 y_S_insert M_S_insert [.ref s, .ref x] h sz 1 72 (qV (gLP G h sz a e (insS V x L))) := by
  obtain ⟨hs, hL, hT, hi, hA⟩ := hV
  obtain ⟨mo, ha⟩ := hL.1
  have h48 := hL.2.1
  refine SM.of (lv0 := [some (.ref s), some (.ref x), none]) (by decide +kernel) rfl ⟨rfl, rfl⟩ rfl (by simp [Value.category]) (Nat.le_of_ble_eq_true rfl) ?_
  have loop : ∀ m k, k ≤ L.length → k < m → plc V x L L.length = plc V x L k → GM G l 7 1 72 (qV (gLP G h sz a e (insS V x L))) M_S_insert 8 [some (.ref s), some (.ref x), some (.int (nI k))] [] h sz 0 0 := by
    intro m
    induction m with
    | zero => intro k _ hk; exact absurd hk (Nat.not_lt_zero _)
    | succ m ih =>
      intro k hk hm hI
      have hend : plc V x L L.length = k → GM G l 7 1 72 (qV (gLP G h sz a e (insS V x L))) M_S_insert 38 [some (.ref s), some (.ref x), some (.int (nI k))] [] h sz 0 0 := by
        intro hpk
        refine gw_al0 d_S_insert_38 ?_
        refine gw_get d_S_insert_39 (by assumption) (by rfl) ?_
        refine gw_il2 d_S_insert_42 ?_
        refine gw_al1 d_S_insert_43 ?_
        refine gw_vV2 d_S_insert_44 cs_S_insert_44 ha (c_A_addAt hL h47 hk hx.1) (fun h' sz' hp hz => ?_)
        exact gw_vret d_S_insert_47 rfl (by omega) (by omega) ⟨rfl, by rw [insS, hpk]; exact hp⟩
      by_cases hk0 : k = 0
      · subst hk0
        refine gw_il2 d_S_insert_8 ?_
        refine gw_ifle d_S_insert_9 (fun c_9 => ?_) (fun c_9 => absurd (Int32.le_refl _) c_9)
        exact hend hI
      · obtain ⟨y, hy⟩ := get_ex (L := L) (j := k - 1) (by omega)
        have hyA := hA y (List.mem_of_getElem? hy)
        have hy1 := hyA.1
        have hpk : plc V x L k = if 0 < vCm V y x then plc V x L (k - 1) else k := by
          obtain ⟨k', rfl⟩ : ∃ m, k = m + 1 := ⟨k - 1, by omega⟩
          show (if 0 < vCm V (L.getD k' 0) x then plc V x L k' else k' + 1) = _
          have hgd : L.getD k' 0 = y := by rw [List.getD_eq_getElem?_getD]; simp at hy; simp [hy]
          rw [hgd]; rfl
        refine gw_il2 d_S_insert_8 ?_
        refine gw_ifle d_S_insert_9 (fun c_9 => absurd (n_le (b := 0) c_9 (by omega) (by omega)) (by omega)) (fun c_9 => ?_)
        refine gw_al0 d_S_insert_12 ?_
        refine gw_get d_S_insert_13 (by assumption) (by rfl) ?_
        refine gw_il2 d_S_insert_16 ?_
        refine gw_push d_S_insert_17 ?_
        refine gw_isub d_S_insert_18 ?_; rw [n_m1 (by omega)]
        refine gw_rV1 d_S_insert_19 cs_S_insert_19 ha (c_A_get hL hy) ?_
        refine gw_castV d_S_insert_22 cl_S_insert_22 (by assumption) ?_
        refine gw_al1 d_S_insert_25 ?_
        refine gw_rV1 d_S_insert_26 cs_S_insert_26 hy1 (c_V_compareWith hyA.1 hyA.2.1 hx.1 hx.2.1) ?_; rw [show lxs (vVec V y) (vVec V x) (cmpI (nI (vDoc V y)) (nI (vDoc V x))) 4 = vCm V y x from rfl]
        refine gw_ifle d_S_insert_29 (fun c_29 => ?_) (fun c_29 => ?_)
        · exact hend (by rw [hI, hpk, if_neg (Int32.not_lt.mpr c_29)])
        · refine gw_ii2 d_S_insert_32 (by rw [n_p (by omega)]; exact gw_goto d_S_insert_35 (ih (k - 1) (by omega) (by omega) (by rw [hI, hpk, if_pos (Int32.not_le.mp c_29)])))
  refine gw_al0 d_S_insert_0 ?_
  refine gw_get d_S_insert_1 (by assumption) (by rfl) ?_
  refine gw_rV0 d_S_insert_4 cs_S_insert_4 ha (c_A_size hL) ?_
  refine gw_is2 d_S_insert_7 ?_
  exact loop (L.length + 1) L.length (Nat.le_refl _) (by omega) rfl
/-- what takeIn leaves: the list, the table -/
theorem c_S_takeIn (hV : SV G V h s i a e L t c f) (h47 : L.length < 48) (hx : VA h V x) : SM G l 8 y_S_takeIn M_S_takeIn [.ref s, .ref x] h sz 1 72 (fun r h' sz' => (300 < L.foldl (fun b y => if vRp V x y then b else b + vBy V y) (vBy V x) ∧ r = .inl (some (.int 0)) ∧ h' = h ∧ sz' = sz) ∨ (¬ 300 < L.foldl (fun b y => if vRp V x y then b else b + vBy V y) (vBy V x) ∧ r = .inl (some (.int 1)) ∧ ∃ e', LV G h' a e' (insS V x (L.filter (fun y => !vRp V x y))) ∧ TV h' t c (jnV f ((i * 10 + vDoc V x) * 4) (vVec V x) 4) ∧ Fr h h' sz [a, e, c] ∧ (e' = e ∨ (sz ≤ e' ∧ e' < sz')) ∧ sz ≤ sz')) := by
  have hV0 := hV
  obtain ⟨hs, hL, hT, hi, hA⟩ := hV
  obtain ⟨mo, ha⟩ := hL.1
  have h48 := hL.2.1
  refine SM.of (lv0 := [some (.ref s), some (.ref x)]) (by decide +kernel) rfl ⟨rfl, rfl⟩ rfl (by simp [Value.category]) (Nat.le_of_ble_eq_true rfl) ?_
  refine GW.dce (fun hdce => ?_)
  refine GW.wf (fun wf => ?_)
  refine gw_al0 d_S_takeIn_0 ?_
  refine gw_al1 d_S_takeIn_1 ?_
  refine gw_rV1 d_S_takeIn_2 cs_S_takeIn_2 hs (c_S_bytesWith hV0 hx) ?_
  refine gw_push d_S_takeIn_5 ?_
  refine gw_icle d_S_takeIn_8 (fun c_8 => ?_) (fun c_8 => ?_)
  · refine gw_al0 d_S_takeIn_13 ?_
    refine gw_al1 d_S_takeIn_14 ?_
    refine gw_vV1 d_S_takeIn_15 cs_S_takeIn_15 hs (c_S_removeReplaced hV0 hx) (fun h1 sz1 hp hz => ?_); obtain ⟨hL1, hF1, w9⟩ := hp; subst w9; have hs1 := hL.fr wf hdce hF1 hs (by simp) (by simp); have hx1 := hx.fr hL wf hdce hF1; have hT1 := TV.fr hL wf hdce hF1 hT; have hV1 : SV G V h1 s i a e (L.filter (fun y => !vRp V x y)) t c f := ⟨hs1, hL1, hT1, hi, fun z hz => (hA z (List.mem_filter.mp hz).1).fr hL wf hdce hF1⟩
    refine gw_al0 d_S_takeIn_18 ?_
    refine gw_al1 d_S_takeIn_19 ?_
    refine GW.wf (fun wf1 => ?_); refine gw_vV1 d_S_takeIn_20 cs_S_takeIn_20 hs1 (c_S_insert hV1 (Nat.lt_of_le_of_lt (List.length_filter_le _ _) h47) hx1) (fun h2 sz2 hp hz2 => ?_); obtain ⟨e', hL2, hF2, he2, hsz2⟩ := hp; have hs2 := hL1.fr wf1 hdce hF2 hs1 (by simp) (by simp); have hx2 := hx1.fr hL1 wf1 hdce hF2; have hT2 := TV.fr hL1 wf1 hdce hF2 hT1; have ht2 := hT2.1
    refine gw_al0 d_S_takeIn_23 ?_
    refine gw_get d_S_takeIn_24 (by assumption) (by rfl) ?_
    refine gw_al0 d_S_takeIn_27 ?_
    refine gw_get d_S_takeIn_28 (by assumption) (by rfl) ?_
    refine gw_al1 d_S_takeIn_31 ?_
    refine gw_vV2 d_S_takeIn_32 cs_S_takeIn_32 ht2 (c_T_joinVersion hT2 hi hx2.2.2 hx2.1 hx2.2.1) (fun h3 sz3 hp hz3 => ?_); obtain ⟨w8, w9⟩ := hp; subst w8; subst w9
    refine gw_push d_S_takeIn_35 ?_
    refine gw_zret d_S_takeIn_36 rfl (Or.inr rfl) (by omega) (by omega) (Or.inr ⟨Int32.not_lt.mpr c_8, rfl, e', ?_, ?_, ?_, he2, hsz2⟩)
    · exact LV.other hL2 hT2.2 (by simp) (by simp)
    · exact ⟨by rw [gUp_ne _ _ (by intro q; have z1 := hT2.1; have z2 := hT2.2; rw [q, z2] at z1; simp at z1)]; exact hT2.1, gUp_self _ _ _⟩
    · exact (((hF1.trans hF2 (Nat.le_refl _)).mono (by simp)).up (Or.inl (by simp)))
  · refine gw_push d_S_takeIn_11 ?_
    exact gw_zret d_S_takeIn_12 rfl (Or.inl rfl) (by omega) (by omega) (Or.inl ⟨Int32.not_le.mp c_8, rfl, rfl, rfl⟩)
end Sta3
end
section
/-! ===== Station: nextVersion, learn, constructor; Cartridge ===== -/
section Sta4
variable {G : gG} {l : Launch} {h : gHp} {sz : Nat} {V : gV} {s i a e t c : Nat} {L : List Nat} {f : Nat → Int32} {x : Nat}
theorem c_S_nextVersion (hV : SV G V h s i a e L t c f) {d : Nat} {n fl : Int32} (hd : d < 10) : SM G l 5 y_S_nextVersion M_S_nextVersion [.ref s, .int (nI d), .int n, .int fl] h sz 2 8 (fun r h' sz' => r = .inl (some (.ref (sz + 1))) ∧ h' = gUp (gUp h sz (gI 4 (upd (va_cpy f (fun _ => 0) ((i * 10 + d) * 4) 0 4) i (va_cpy f (fun _ => 0) ((i * 10 + d) * 4) 0 4 i + 1)))) (sz + 1) (gO 4 [.int (nI d), .int n, .int fl, .ref sz]) ∧ sz' = sz + 2) := by
  obtain ⟨hs, hL, hT, hi, hA⟩ := hV
  have ht := hT.1
  refine SM.of (lv0 := [some (.ref s), some (.int (nI d)), some (.int n), some (.int fl), none]) (by decide +kernel) rfl ⟨rfl, rfl⟩ rfl (by simp [Value.category]) (Nat.le_of_ble_eq_true rfl) ?_
  refine GW.wf (fun wf => ?_)
  have hss := (wf s _ hs).2
  refine gw_al0 d_S_nextVersion_0 ?_
  refine gw_get d_S_nextVersion_1 (by assumption) (by rfl) ?_
  refine gw_al0 d_S_nextVersion_4 ?_
  refine gw_get d_S_nextVersion_5 (by assumption) (by rfl) ?_
  refine gw_il1 d_S_nextVersion_8 ?_
  refine gw_cV2 d_S_nextVersion_9 cs_S_nextVersion_9 ht (c_T_vectorAt hT hi hd) (fun v h1 sz1 hp hz => ?_) (fun E h1 sz1 hp _ => by cases hp.1); obtain ⟨w1, w2, w3⟩ := hp; cases w1; subst w2; subst w3
  refine gw_as4 d_S_nextVersion_12 ?_
  refine gw_al4 d_S_nextVersion_14 ?_
  refine gw_al0 d_S_nextVersion_16 ?_
  refine gw_get d_S_nextVersion_17 ((gUp_ne _ _ (by omega)).trans hs) (by rfl) ?_
  refine gw_dup2 d_S_nextVersion_20 rfl rfl ?_
  refine gw_iald d_S_nextVersion_21 (gUp_self _ _ _) i rfl (by omega) (by omega) ?_
  refine gw_push d_S_nextVersion_22 ?_
  refine gw_iadd d_S_nextVersion_23 ?_
  refine gw_iast d_S_nextVersion_24 (gUp_self _ _ _) i rfl (by omega) (by omega) ?_; rw [gUp_gUp]
  refine gw_new [.int 0, .int 0, .int 0, .null] d_S_nextVersion_25 nw_S_nextVersion_25 (Nat.le_of_ble_eq_true rfl) (Nat.le_of_ble_eq_true rfl) ?_
  refine gw_dup d_S_nextVersion_28 rfl ?_
  refine gw_il1 d_S_nextVersion_29 ?_
  refine gw_il2 d_S_nextVersion_30 ?_
  refine gw_il3 d_S_nextVersion_31 ?_
  refine gw_al4 d_S_nextVersion_32 ?_
  refine gw_cI4 d_S_nextVersion_34 cs_S_nextVersion_34 (c_V_init (gUp_self _ _ _)) (fun h2 sz2 hp hz2 => ?_); obtain ⟨w4, w5⟩ := hp; subst w4; subst w5
  exact gw_aret d_S_nextVersion_37 rfl (Or.inl ⟨_, rfl⟩) (Or.inr ⟨_, rfl⟩) (by decide) (by decide) ⟨rfl, by rw [gUp_gUp], rfl⟩
theorem lrn_keep {h : gHp} {t c : Nat} {g : Nat → Int32} (ht : h t = some (gO 3 [.ref c])) (hc : ∃ g', h c = some (gI 160 g')) : TV (gUp h c (gI 160 g)) t c g := by
  obtain ⟨g', hc⟩ := hc
  refine ⟨?_, gUp_self _ _ _⟩
  rw [gUp_ne]
  · exact ht
  · rintro rfl; rw [ht] at hc; simp at hc
theorem c_S_learn (hV : SV G V h s i a e L t c f) {t2 c2 : Nat} {f2 : Nat → Int32} (hT2 : TV h t2 c2 f2) (hcc : c2 ≠ c) : SM G l 3 y_S_learn M_S_learn [.ref s, .ref t2] h sz 0 0 (qV (fun h' sz' => h' = gUp h c (gI 160 (lrn f f2 i 4)) ∧ sz' = sz)) := by
  obtain ⟨hs, hL, hT, hi, hA⟩ := hV
  have hsc : s ≠ c := by rintro rfl; have q := hT.2; rw [hs] at q; simp at q
  have ht2c : t2 ≠ c := by rintro rfl; have q := hT.2; have q2 := hT2.1; rw [q] at q2; simp at q2
  refine SM.of (lv0 := [some (.ref s), some (.ref t2), none]) (by decide +kernel) rfl ⟨rfl, rfl⟩ rfl (by simp [Value.category]) (Nat.le_of_ble_eq_true rfl) ?_
  have loop : ∀ m j, j ≤ 4 → 4 - j < m → GM G l 3 0 0 (qV (fun h' sz' => h' = gUp h c (gI 160 (lrn f f2 i 4)) ∧ sz' = sz)) M_S_learn 2 [some (.ref s), some (.ref t2), some (.int (nI j))] [] (gUp h c (gI 160 (lrn f f2 i j))) sz 0 0 := by
    intro m
    induction m with
    | zero => intro j _ hj; exact absurd hj (Nat.not_lt_zero _)
    | succ m ih =>
      intro j hj hm
      have p1 := (gUp_ne h (gI 160 (lrn f f2 i j)) hsc).trans hs
      have p2 : TV (gUp h c (gI 160 (lrn f f2 i j))) t c (lrn f f2 i j) := lrn_keep hT.1 ⟨_, hT.2⟩
      have p3 : TV (gUp h c (gI 160 (lrn f f2 i j))) t2 c2 f2 := ⟨(gUp_ne h _ ht2c).trans hT2.1, (gUp_ne h _ hcc).trans hT2.2⟩
      have p4 := p2.1
      refine gw_il2 d_S_learn_2 ?_
      refine gw_push d_S_learn_3 ?_
      refine gw_icge d_S_learn_4 (fun c_4 => ?_) (fun c_4 => ?_)
      · have q4 := n_le (a := 4) c_4 (by decide) (by omega); obtain rfl : j = 4 := (by omega); exact gw_vret d_S_learn_30 rfl (Nat.le_refl _) (Nat.le_refl _) ⟨rfl, rfl, rfl⟩
      · refine gw_il2 d_S_learn_7 ?_
        refine gw_al0 d_S_learn_8 ?_
        refine gw_get d_S_learn_9 (by assumption) (by rfl) ?_
        have hj4 := n_nle (a := 4) c_4 (by decide) (by omega); refine gw_iceq d_S_learn_12 (fun c_12 => ?_) (fun c_12 => ?_)
        · first | (refine gw_ii2 d_S_learn_24 (by rw [n_s]; refine gw_goto d_S_learn_27 ?_; have z := ih (j + 1) (by omega) (by omega); rw [show lrn f f2 i (j + 1) = lrn f f2 i j from by rw [lrn, if_pos (n_eq c_12 (by omega) (by omega))]] at z; exact z); done) | (refine gw_ii2 d_S_learn_24 (by rw [n_s]; refine gw_goto d_S_learn_27 ?_; have z := ih (j + 1) (by omega) (by omega); rw [show lrn f f2 i (j + 1) = jnV (lrn f f2 i j) (j * 40) (fun k => f2 (j * 40 + k)) 40 from by rw [lrn, if_neg (fun q => c_12 (by rw [q]))]] at z; exact z))
        · refine gw_al0 d_S_learn_15 ?_
          refine gw_get d_S_learn_16 (by assumption) (by rfl) ?_
          refine gw_il2 d_S_learn_19 ?_
          refine gw_al1 d_S_learn_20 ?_
          refine gw_vV2 d_S_learn_21 cs_S_learn_21 p4 (c_T_joinStation p2 p3 hcc hj4) (fun h1 sz1 hp hz => ?_); obtain ⟨w4, w5⟩ := hp; subst w4; subst w5; rw [gUp_gUp]
          first | (refine gw_ii2 d_S_learn_24 (by rw [n_s]; refine gw_goto d_S_learn_27 ?_; have z := ih (j + 1) (by omega) (by omega); rw [show lrn f f2 i (j + 1) = lrn f f2 i j from by rw [lrn, if_pos (n_eq c_12 (by omega) (by omega))]] at z; exact z); done) | (refine gw_ii2 d_S_learn_24 (by rw [n_s]; refine gw_goto d_S_learn_27 ?_; have z := ih (j + 1) (by omega) (by omega); rw [show lrn f f2 i (j + 1) = jnV (lrn f f2 i j) (j * 40) (fun k => f2 (j * 40 + k)) 40 from by rw [lrn, if_neg (fun q => c_12 (by rw [q]))]] at z; exact z))
  have h0 : h = gUp h c (gI 160 (lrn f f2 i 0)) := by
    funext b
    by_cases hb : b = c
    · subst hb; rw [gUp_self]; exact hT.2
    · rw [gUp_ne _ _ hb]
  refine gw_push d_S_learn_0 ?_
  refine gw_is2 d_S_learn_1 ?_
  have z := loop 5 0 (by omega) (by omega); rw [← h0] at z; exact z
theorem c_S_init {v0 v1 v2 : Value} {n : Int32} (hs : h s = some (gO 2 [v0, v1, v2])) : SM G l 4 y_S_init M_S_init [.ref s, .int n] h sz 3 164 (qV (fun h' sz' => h' s = some (gO 2 [.int n, .ref sz, .ref (sz + 1)]) ∧ LV G h' sz (gDce G) [] ∧ TV h' (sz + 1) (sz + 2) (fun _ => 0) ∧ Fr h h' sz [s] ∧ sz' = sz + 3)) := by
  refine SM.of (lv0 := [some (.ref s), some (.int n)]) (by decide +kernel) rfl ⟨rfl, rfl⟩ rfl (by simp [Value.category]) (Nat.le_of_ble_eq_true rfl) ?_
  refine GW.wf (fun wf => ?_)
  have hss := (wf s _ hs).2
  refine gw_al0 d_S_init_0 ?_
  refine gw_objInit d_S_init_1 oi_S_init_1 (by decide) (Nat.le_of_ble_eq_true rfl) ?_
  refine gw_al0 d_S_init_4 ?_
  refine gw_il1 d_S_init_5 ?_
  refine gw_pf0 d_S_init_6 hs rfl rfl ?_
  refine gw_al0 d_S_init_9 ?_
  refine gw_new [.int 0, .null, .int 0] d_S_init_10 nw_S_init_10 (Nat.le_of_ble_eq_true rfl) (Nat.le_of_ble_eq_true rfl) ?_
  refine gw_dup d_S_init_13 rfl ?_
  refine gw_cI0 d_S_init_14 cs_S_init_14 (c_A_init (v2 := .null) (gUp_self _ _ _)) (fun h1 sz1 hp hz => ?_); obtain ⟨w4, w5⟩ := hp; subst w4; subst w5; rw [gUp_gUp]
  refine gw_pf1 d_S_init_17 ((gUp_ne _ _ (by omega)).trans (gUp_self _ _ _)) rfl rfl ?_
  refine gw_al0 d_S_init_20 ?_
  refine gw_new [.null] d_S_init_21 nw_S_init_21 (Nat.le_of_ble_eq_true rfl) (Nat.le_of_ble_eq_true rfl) ?_
  refine gw_dup d_S_init_24 rfl ?_
  refine gw_cI0 d_S_init_25 cs_S_init_25 (c_T_init (gUp_self _ _ _)) (fun h1 sz1 hp hz => ?_); obtain ⟨w4, w5⟩ := hp; subst w4; subst w5
  refine gw_pf2 d_S_init_28 ((gUp_ne _ _ (by omega)).trans ((gUp_ne _ _ (by omega)).trans ((gUp_ne _ _ (by omega)).trans (gUp_self _ _ _)))) rfl rfl ?_
  refine gw_vret d_S_init_31 rfl (by decide) (by decide) ⟨rfl, gUp_self _ _ _, ⟨⟨0, ?_⟩, by simp, by simp, Or.inl ⟨rfl, rfl⟩⟩, ⟨?_, ?_⟩, ?_, rfl⟩
  · simp [gUp, show sz ≠ s by omega, show sz ≠ sz + 1 + 1 by omega]; rfl
  · simp [gUp, show sz + 1 ≠ s by omega]
  · simp [gUp, show sz + 2 ≠ s by omega, show sz + 1 + 1 = sz + 2 by omega]
  · refine ((((((Fr.refl.up ?_).up ?_).up ?_).up ?_).up ?_).up ?_).up ?_ <;> first | (right; omega) | (left; simp)
/-- a cartridge -/
def CV (G : gG) (V : gV) (h : gHp) (o a e : Nat) (L : List Nat) (t c : Nat) (f : Nat → Int32) : Prop := h o = some (gO 1 [.ref a, .ref t]) ∧ LV G h a e L ∧ TV h t c f ∧ ∀ x ∈ L, VA h V x
theorem c_C_init {v0 v1 : Value} (hs : h s = some (gO 1 [v0, v1])) : SM G l 4 y_C_init M_C_init [.ref s] h sz 3 164 (qV (fun h' sz' => h' s = some (gO 1 [.ref sz, .ref (sz + 1)]) ∧ LV G h' sz (gDce G) [] ∧ TV h' (sz + 1) (sz + 2) (fun _ => 0) ∧ Fr h h' sz [s] ∧ sz' = sz + 3)) := by
  refine SM.of (lv0 := [some (.ref s)]) (by decide +kernel) rfl ⟨rfl, rfl⟩ rfl (by simp [Value.category]) (Nat.le_of_ble_eq_true rfl) ?_
  refine GW.wf (fun wf => ?_)
  have hss := (wf s _ hs).2
  refine gw_al0 d_C_init_0 ?_
  refine gw_objInit d_C_init_1 oi_C_init_1 (by decide) (Nat.le_of_ble_eq_true rfl) ?_
  refine gw_al0 d_C_init_4 ?_
  refine gw_new [.int 0, .null, .int 0] d_C_init_5 nw_C_init_5 (Nat.le_of_ble_eq_true rfl) (Nat.le_of_ble_eq_true rfl) ?_
  refine gw_dup d_C_init_8 rfl ?_
  refine gw_cI0 d_C_init_9 cs_C_init_9 (c_A_init (v2 := .null) (gUp_self _ _ _)) (fun h1 sz1 hp hz => ?_); obtain ⟨w4, w5⟩ := hp; subst w4; subst w5; rw [gUp_gUp]
  refine gw_pf0 d_C_init_12 ((gUp_ne _ _ (by omega)).trans hs) rfl rfl ?_
  refine gw_al0 d_C_init_15 ?_
  refine gw_new [.null] d_C_init_16 nw_C_init_16 (Nat.le_of_ble_eq_true rfl) (Nat.le_of_ble_eq_true rfl) ?_
  refine gw_dup d_C_init_19 rfl ?_
  refine gw_cI0 d_C_init_20 cs_C_init_20 (c_T_init (gUp_self _ _ _)) (fun h1 sz1 hp hz => ?_); obtain ⟨w4, w5⟩ := hp; subst w4; subst w5
  refine gw_pf1 d_C_init_23 ((gUp_ne _ _ (by omega)).trans ((gUp_ne _ _ (by omega)).trans ((gUp_ne _ _ (by omega)).trans (gUp_self _ _ _)))) rfl rfl ?_
  refine gw_vret d_C_init_26 rfl (by decide) (by decide) ⟨rfl, gUp_self _ _ _, ⟨⟨0, ?_⟩, by simp, by simp, Or.inl ⟨rfl, rfl⟩⟩, ⟨?_, ?_⟩, ?_, rfl⟩
  · simp [gUp, show sz ≠ s by omega, show sz ≠ sz + 1 + 1 by omega]; rfl
  · simp [gUp, show sz + 1 ≠ s by omega]
  · simp [gUp, show sz + 2 ≠ s by omega, show sz + 1 + 1 = sz + 2 by omega]
  · refine (((((Fr.refl.up ?_).up ?_).up ?_).up ?_).up ?_).up ?_ <;> first | (right; omega) | (left; simp)
theorem c_C_roomLeft (hV : CV G V h s a e L t c f) : SM G l 4 y_C_roomLeft M_C_roomLeft [.ref s] h sz 0 0 (qR (.int (L.foldl (fun b y => b - (8 + vBy V y)) 100)) h sz) := by
  obtain ⟨hs, hL, hT, hA⟩ := hV
  obtain ⟨mo, ha⟩ := hL.1
  have h48 := hL.2.1
  refine SM.of (lv0 := [some (.ref s), none, none]) (by decide +kernel) rfl ⟨rfl, rfl⟩ rfl (by simp [Value.category]) (Nat.le_of_ble_eq_true rfl) ?_
  have loop : ∀ m j, j ≤ L.length → L.length - j < m → GM G l 4 0 0 (qR (.int (L.foldl (fun b y => b - (8 + vBy V y)) 100)) h sz) M_C_roomLeft 5 [some (.ref s), some (.int ((L.take j).foldl (fun b y => b - (8 + vBy V y)) 100)), some (.int (nI j))] [] h sz 0 0 := by
    intro m
    induction m with
    | zero => intro j _ hj; exact absurd hj (Nat.not_lt_zero _)
    | succ m ih =>
      intro j hj hm
      refine gw_il2 d_C_roomLeft_5 ?_
      refine gw_al0 d_C_roomLeft_6 ?_
      refine gw_get d_C_roomLeft_7 (by assumption) (by rfl) ?_
      refine gw_rV0 d_C_roomLeft_10 cs_C_roomLeft_10 ha (c_A_size hL) ?_
      refine gw_icge d_C_roomLeft_13 (fun c_13 => ?_) (fun c_13 => ?_)
      · refine gw_il1 d_C_roomLeft_39 ?_
        have q4 := n_le c_13 (by omega) (by omega); obtain rfl : j = L.length := (by omega); exact gw_iret d_C_roomLeft_40 rfl (Nat.le_refl _) (Nat.le_refl _) ⟨by rw [List.take_length], rfl, rfl⟩
      · refine gw_il1 d_C_roomLeft_16 ?_
        refine gw_al0 d_C_roomLeft_17 ?_
        refine gw_get d_C_roomLeft_18 (by assumption) (by rfl) ?_
        refine gw_il2 d_C_roomLeft_21 ?_
        have hlt := n_nle c_13 (by omega) (by omega); obtain ⟨y, hy⟩ := get_ex hlt; have hyA := hA y (List.mem_of_getElem? hy); have hy1 := hyA.1; refine gw_rV1 d_C_roomLeft_22 cs_C_roomLeft_22 ha (c_A_get hL hy) ?_
        refine gw_castV d_C_roomLeft_25 cl_C_roomLeft_25 (by assumption) ?_
        refine gw_rV0 d_C_roomLeft_28 cs_C_roomLeft_28 hy1 (c_V_roomTaken hyA.1) ?_
        refine gw_isub d_C_roomLeft_31 ?_
        refine gw_is1 d_C_roomLeft_32 ?_
        refine gw_ii2 d_C_roomLeft_33 (by rw [n_s]; refine gw_goto d_C_roomLeft_36 ?_; have z := ih (j + 1) (by omega) (by omega); rw [take_s hy, List.foldl_append, List.foldl_cons, List.foldl_nil] at z; exact z)
  refine gw_push d_C_roomLeft_0 ?_
  refine gw_is1 d_C_roomLeft_2 ?_
  refine gw_push d_C_roomLeft_3 ?_
  refine gw_is2 d_C_roomLeft_4 ?_
  exact loop (L.length + 1) 0 (by omega) (by omega)
end Sta4
end
