-- ===== PART A: goes FIRST, ahead of the names: the tables' words, and 'selects' of the private methods out of them =====
/-- a private method of a class that the tables say can be made, by its rows of tables_1 -/
def lw_okq (q : MethodName × Nat) : Prop := (q.1.cls ≠ "java/lang/invoke/MethodHandle" ∧ q.1.cls ≠ "java/lang/invoke/VarHandle") ∧ Cond.instantiable q.1.cls q.2 ∈ tables_1 ∧ Cond.privateMethod q.1 ∈ tables_1 ∧ Cond.instanceMethod q.1 ∈ tables_1
theorem lw_p0 : lw_okq (⟨"StatueCoats", "textAt", "(I)LStatueCoats$Text;"⟩, 11) := ⟨⟨by decide +kernel, by decide +kernel⟩, List.mem_of_getElem? (i := 17) (by decide +kernel), List.mem_of_getElem? (i := 314) (by decide +kernel), List.mem_of_getElem? (i := 315) (by decide +kernel)⟩
theorem lw_p1 : lw_okq (⟨"StatueCoats", "isBehind", "(I)Z"⟩, 11) := ⟨⟨by decide +kernel, by decide +kernel⟩, List.mem_of_getElem? (i := 17) (by decide +kernel), List.mem_of_getElem? (i := 493) (by decide +kernel), List.mem_of_getElem? (i := 494) (by decide +kernel)⟩
theorem lw_p2 : lw_okq (⟨"StatueCoats$Wardrobe", "hang", "(I)V"⟩, 11) := ⟨⟨by decide +kernel, by decide +kernel⟩, List.mem_of_getElem? (i := 101) (by decide +kernel), List.mem_of_getElem? (i := 501) (by decide +kernel), List.mem_of_getElem? (i := 502) (by decide +kernel)⟩
theorem lw_p3 : lw_okq (⟨"StatueCoats$Wardrobe", "measure", "(I)V"⟩, 11) := ⟨⟨by decide +kernel, by decide +kernel⟩, List.mem_of_getElem? (i := 101) (by decide +kernel), List.mem_of_getElem? (i := 511) (by decide +kernel), List.mem_of_getElem? (i := 512) (by decide +kernel)⟩
theorem lw_p4 : lw_okq (⟨"StatueCoats$Wardrobe", "dress", "(I)I"⟩, 11) := ⟨⟨by decide +kernel, by decide +kernel⟩, List.mem_of_getElem? (i := 101) (by decide +kernel), List.mem_of_getElem? (i := 517) (by decide +kernel), List.mem_of_getElem? (i := 518) (by decide +kernel)⟩
theorem lw_p5 : lw_okq (⟨"StatueCoats$Wardrobe", "dressOne", "(III)I"⟩, 11) := ⟨⟨by decide +kernel, by decide +kernel⟩, List.mem_of_getElem? (i := 101) (by decide +kernel), List.mem_of_getElem? (i := 521) (by decide +kernel), List.mem_of_getElem? (i := 522) (by decide +kernel)⟩
theorem lw_p6 : lw_okq (⟨"StatueCoats$Wardrobe", "age", "(III)V"⟩, 11) := ⟨⟨by decide +kernel, by decide +kernel⟩, List.mem_of_getElem? (i := 101) (by decide +kernel), List.mem_of_getElem? (i := 532) (by decide +kernel), List.mem_of_getElem? (i := 533) (by decide +kernel)⟩
theorem lw_p7 : lw_okq (⟨"StatueCoats$Dressing", "fillFor", "(II)V"⟩, 4) := ⟨⟨by decide +kernel, by decide +kernel⟩, List.mem_of_getElem? (i := 144) (by decide +kernel), List.mem_of_getElem? (i := 625) (by decide +kernel), List.mem_of_getElem? (i := 626) (by decide +kernel)⟩
theorem lw_p8 : lw_okq (⟨"StatueCoats$Dressing", "leastChoice", "(III)I"⟩, 4) := ⟨⟨by decide +kernel, by decide +kernel⟩, List.mem_of_getElem? (i := 144) (by decide +kernel), List.mem_of_getElem? (i := 630) (by decide +kernel), List.mem_of_getElem? (i := 631) (by decide +kernel)⟩
theorem lw_p9 : lw_okq (⟨"StatueCoats$Ladder", "climb", "(IIIII)V"⟩, 7) := ⟨⟨by decide +kernel, by decide +kernel⟩, List.mem_of_getElem? (i := 164) (by decide +kernel), List.mem_of_getElem? (i := 651) (by decide +kernel), List.mem_of_getElem? (i := 652) (by decide +kernel)⟩
theorem lw_p10 : lw_okq (⟨"StatueCoats$Wardrobe", "largeTogether", "(II)I"⟩, 11) := ⟨⟨by decide +kernel, by decide +kernel⟩, List.mem_of_getElem? (i := 101) (by decide +kernel), List.mem_of_getElem? (i := 675) (by decide +kernel), List.mem_of_getElem? (i := 676) (by decide +kernel)⟩
theorem lw_p11 : lw_okq (⟨"StatueCoats$Wardrobe", "clothTogether", "(II)I"⟩, 11) := ⟨⟨by decide +kernel, by decide +kernel⟩, List.mem_of_getElem? (i := 101) (by decide +kernel), List.mem_of_getElem? (i := 680) (by decide +kernel), List.mem_of_getElem? (i := 681) (by decide +kernel)⟩
theorem lw_p12 : lw_okq (⟨"StatueCoats", "sheetAt", "(I)LStatueCoats$Sheet;"⟩, 11) := ⟨⟨by decide +kernel, by decide +kernel⟩, List.mem_of_getElem? (i := 17) (by decide +kernel), List.mem_of_getElem? (i := 708) (by decide +kernel), List.mem_of_getElem? (i := 709) (by decide +kernel)⟩
theorem lw_p13 : lw_okq (⟨"StatueCoats", "found", "(I)I"⟩, 11) := ⟨⟨by decide +kernel, by decide +kernel⟩, List.mem_of_getElem? (i := 17) (by decide +kernel), List.mem_of_getElem? (i := 716) (by decide +kernel), List.mem_of_getElem? (i := 717) (by decide +kernel)⟩
theorem lw_p14 : lw_okq (⟨"StatueCoats$Night", "agrees", "(II)Z"⟩, 10) := ⟨⟨by decide +kernel, by decide +kernel⟩, List.mem_of_getElem? (i := 192) (by decide +kernel), List.mem_of_getElem? (i := 736) (by decide +kernel), List.mem_of_getElem? (i := 737) (by decide +kernel)⟩
theorem lw_p15 : lw_okq (⟨"StatueCoats$Night", "wornHadChanged", "(IIII)I"⟩, 10) := ⟨⟨by decide +kernel, by decide +kernel⟩, List.mem_of_getElem? (i := 192) (by decide +kernel), List.mem_of_getElem? (i := 741) (by decide +kernel), List.mem_of_getElem? (i := 742) (by decide +kernel)⟩
def lw_privs_1 : List (MethodName × Nat) := [(⟨"StatueCoats", "textAt", "(I)LStatueCoats$Text;"⟩, 11), (⟨"StatueCoats", "isBehind", "(I)Z"⟩, 11), (⟨"StatueCoats$Wardrobe", "hang", "(I)V"⟩, 11), (⟨"StatueCoats$Wardrobe", "measure", "(I)V"⟩, 11), (⟨"StatueCoats$Wardrobe", "dress", "(I)I"⟩, 11), (⟨"StatueCoats$Wardrobe", "dressOne", "(III)I"⟩, 11), (⟨"StatueCoats$Wardrobe", "age", "(III)V"⟩, 11), (⟨"StatueCoats$Dressing", "fillFor", "(II)V"⟩, 4), (⟨"StatueCoats$Dressing", "leastChoice", "(III)I"⟩, 4), (⟨"StatueCoats$Ladder", "climb", "(IIIII)V"⟩, 7), (⟨"StatueCoats$Wardrobe", "largeTogether", "(II)I"⟩, 11), (⟨"StatueCoats$Wardrobe", "clothTogether", "(II)I"⟩, 11), (⟨"StatueCoats", "sheetAt", "(I)LStatueCoats$Sheet;"⟩, 11), (⟨"StatueCoats", "found", "(I)I"⟩, 11), (⟨"StatueCoats$Night", "agrees", "(II)Z"⟩, 10), (⟨"StatueCoats$Night", "wornHadChanged", "(IIII)I"⟩, 10)]
theorem lw_r1 : ∀ q ∈ lw_privs_1, lw_okq q := List.forall_mem_cons.mpr ⟨lw_p0, List.forall_mem_cons.mpr ⟨lw_p1, List.forall_mem_cons.mpr ⟨lw_p2, List.forall_mem_cons.mpr ⟨lw_p3, List.forall_mem_cons.mpr ⟨lw_p4, List.forall_mem_cons.mpr ⟨lw_p5, List.forall_mem_cons.mpr ⟨lw_p6, List.forall_mem_cons.mpr ⟨lw_p7, List.forall_mem_cons.mpr ⟨lw_p8, List.forall_mem_cons.mpr ⟨lw_p9, List.forall_mem_cons.mpr ⟨lw_p10, List.forall_mem_cons.mpr ⟨lw_p11, List.forall_mem_cons.mpr ⟨lw_p12, List.forall_mem_cons.mpr ⟨lw_p13, List.forall_mem_cons.mpr ⟨lw_p14, List.forall_mem_cons.mpr ⟨lw_p15, fun _ h => absurd h List.not_mem_nil⟩⟩⟩⟩⟩⟩⟩⟩⟩⟩⟩⟩⟩⟩⟩⟩
theorem lw_p16 : lw_okq (⟨"StatueCoats$Night", "mostAlike", "(II)I"⟩, 10) := ⟨⟨by decide +kernel, by decide +kernel⟩, List.mem_of_getElem? (i := 192) (by decide +kernel), List.mem_of_getElem? (i := 758) (by decide +kernel), List.mem_of_getElem? (i := 759) (by decide +kernel)⟩
theorem lw_p17 : lw_okq (⟨"StatueCoats$Chances", "begin", "(I)V"⟩, 5) := ⟨⟨by decide +kernel, by decide +kernel⟩, List.mem_of_getElem? (i := 231) (by decide +kernel), List.mem_of_getElem? (i := 773) (by decide +kernel), List.mem_of_getElem? (i := 774) (by decide +kernel)⟩
theorem lw_p18 : lw_okq (⟨"StatueCoats$Chances", "passMoths", "(II)V"⟩, 5) := ⟨⟨by decide +kernel, by decide +kernel⟩, List.mem_of_getElem? (i := 231) (by decide +kernel), List.mem_of_getElem? (i := 780) (by decide +kernel), List.mem_of_getElem? (i := 781) (by decide +kernel)⟩
theorem lw_p19 : lw_okq (⟨"StatueCoats$Chances", "toLowestTerms", "()V"⟩, 5) := ⟨⟨by decide +kernel, by decide +kernel⟩, List.mem_of_getElem? (i := 231) (by decide +kernel), List.mem_of_getElem? (i := 786) (by decide +kernel), List.mem_of_getElem? (i := 787) (by decide +kernel)⟩
theorem lw_p20 : lw_okq (⟨"StatueCoats", "withStatues", "(J)J"⟩, 11) := ⟨⟨by decide +kernel, by decide +kernel⟩, List.mem_of_getElem? (i := 17) (by decide +kernel), List.mem_of_getElem? (i := 872) (by decide +kernel), List.mem_of_getElem? (i := 873) (by decide +kernel)⟩
theorem lw_p21 : lw_okq (⟨"StatueCoats", "withClothes", "(J)J"⟩, 11) := ⟨⟨by decide +kernel, by decide +kernel⟩, List.mem_of_getElem? (i := 17) (by decide +kernel), List.mem_of_getElem? (i := 879) (by decide +kernel), List.mem_of_getElem? (i := 880) (by decide +kernel)⟩
theorem lw_p22 : lw_okq (⟨"StatueCoats", "withAllBehind", "(JI)J"⟩, 11) := ⟨⟨by decide +kernel, by decide +kernel⟩, List.mem_of_getElem? (i := 17) (by decide +kernel), List.mem_of_getElem? (i := 886) (by decide +kernel), List.mem_of_getElem? (i := 887) (by decide +kernel)⟩
theorem lw_p23 : lw_okq (⟨"StatueCoatsModel", "finds", "(I)I"⟩, 22) := ⟨⟨by decide +kernel, by decide +kernel⟩, List.mem_of_getElem? (i := 899) (by decide +kernel), List.mem_of_getElem? (i := 984) (by decide +kernel), List.mem_of_getElem? (i := 985) (by decide +kernel)⟩
theorem lw_p24 : lw_okq (⟨"StatueCoatsModel", "lacks", "(III)I"⟩, 22) := ⟨⟨by decide +kernel, by decide +kernel⟩, List.mem_of_getElem? (i := 899) (by decide +kernel), List.mem_of_getElem? (i := 996) (by decide +kernel), List.mem_of_getElem? (i := 997) (by decide +kernel)⟩
theorem lw_p25 : lw_okq (⟨"StatueCoatsModel", "readsText", "(I)I"⟩, 22) := ⟨⟨by decide +kernel, by decide +kernel⟩, List.mem_of_getElem? (i := 899) (by decide +kernel), List.mem_of_getElem? (i := 1032) (by decide +kernel), List.mem_of_getElem? (i := 1033) (by decide +kernel)⟩
theorem lw_p26 : lw_okq (⟨"StatueCoatsModel", "readsMonths", "()I"⟩, 22) := ⟨⟨by decide +kernel, by decide +kernel⟩, List.mem_of_getElem? (i := 899) (by decide +kernel), List.mem_of_getElem? (i := 1036) (by decide +kernel), List.mem_of_getElem? (i := 1037) (by decide +kernel)⟩
theorem lw_p27 : lw_okq (⟨"StatueCoatsModel", "readsThing", "(I)Z"⟩, 22) := ⟨⟨by decide +kernel, by decide +kernel⟩, List.mem_of_getElem? (i := 899) (by decide +kernel), List.mem_of_getElem? (i := 1040) (by decide +kernel), List.mem_of_getElem? (i := 1041) (by decide +kernel)⟩
theorem lw_p28 : lw_okq (⟨"StatueCoatsModel", "readsStatue", "()Z"⟩, 22) := ⟨⟨by decide +kernel, by decide +kernel⟩, List.mem_of_getElem? (i := 899) (by decide +kernel), List.mem_of_getElem? (i := 1044) (by decide +kernel), List.mem_of_getElem? (i := 1045) (by decide +kernel)⟩
theorem lw_p29 : lw_okq (⟨"StatueCoatsModel", "readsCloth", "()Z"⟩, 22) := ⟨⟨by decide +kernel, by decide +kernel⟩, List.mem_of_getElem? (i := 899) (by decide +kernel), List.mem_of_getElem? (i := 1055) (by decide +kernel), List.mem_of_getElem? (i := 1056) (by decide +kernel)⟩
theorem lw_p30 : lw_okq (⟨"StatueCoatsModel", "reads", "()V"⟩, 22) := ⟨⟨by decide +kernel, by decide +kernel⟩, List.mem_of_getElem? (i := 899) (by decide +kernel), List.mem_of_getElem? (i := 1066) (by decide +kernel), List.mem_of_getElem? (i := 1067) (by decide +kernel)⟩
theorem lw_p31 : lw_okq (⟨"StatueCoatsModel", "isStatue", "(I)Z"⟩, 22) := ⟨⟨by decide +kernel, by decide +kernel⟩, List.mem_of_getElem? (i := 899) (by decide +kernel), List.mem_of_getElem? (i := 1070) (by decide +kernel), List.mem_of_getElem? (i := 1071) (by decide +kernel)⟩
def lw_privs_2 : List (MethodName × Nat) := [(⟨"StatueCoats$Night", "mostAlike", "(II)I"⟩, 10), (⟨"StatueCoats$Chances", "begin", "(I)V"⟩, 5), (⟨"StatueCoats$Chances", "passMoths", "(II)V"⟩, 5), (⟨"StatueCoats$Chances", "toLowestTerms", "()V"⟩, 5), (⟨"StatueCoats", "withStatues", "(J)J"⟩, 11), (⟨"StatueCoats", "withClothes", "(J)J"⟩, 11), (⟨"StatueCoats", "withAllBehind", "(JI)J"⟩, 11), (⟨"StatueCoatsModel", "finds", "(I)I"⟩, 22), (⟨"StatueCoatsModel", "lacks", "(III)I"⟩, 22), (⟨"StatueCoatsModel", "readsText", "(I)I"⟩, 22), (⟨"StatueCoatsModel", "readsMonths", "()I"⟩, 22), (⟨"StatueCoatsModel", "readsThing", "(I)Z"⟩, 22), (⟨"StatueCoatsModel", "readsStatue", "()Z"⟩, 22), (⟨"StatueCoatsModel", "readsCloth", "()Z"⟩, 22), (⟨"StatueCoatsModel", "reads", "()V"⟩, 22), (⟨"StatueCoatsModel", "isStatue", "(I)Z"⟩, 22)]
theorem lw_r2 : ∀ q ∈ lw_privs_2, lw_okq q := List.forall_mem_cons.mpr ⟨lw_p16, List.forall_mem_cons.mpr ⟨lw_p17, List.forall_mem_cons.mpr ⟨lw_p18, List.forall_mem_cons.mpr ⟨lw_p19, List.forall_mem_cons.mpr ⟨lw_p20, List.forall_mem_cons.mpr ⟨lw_p21, List.forall_mem_cons.mpr ⟨lw_p22, List.forall_mem_cons.mpr ⟨lw_p23, List.forall_mem_cons.mpr ⟨lw_p24, List.forall_mem_cons.mpr ⟨lw_p25, List.forall_mem_cons.mpr ⟨lw_p26, List.forall_mem_cons.mpr ⟨lw_p27, List.forall_mem_cons.mpr ⟨lw_p28, List.forall_mem_cons.mpr ⟨lw_p29, List.forall_mem_cons.mpr ⟨lw_p30, List.forall_mem_cons.mpr ⟨lw_p31, fun _ h => absurd h List.not_mem_nil⟩⟩⟩⟩⟩⟩⟩⟩⟩⟩⟩⟩⟩⟩⟩⟩
theorem lw_p32 : lw_okq (⟨"StatueCoatsModel", "isCloth", "(I)Z"⟩, 22) := ⟨⟨by decide +kernel, by decide +kernel⟩, List.mem_of_getElem? (i := 899) (by decide +kernel), List.mem_of_getElem? (i := 1078) (by decide +kernel), List.mem_of_getElem? (i := 1079) (by decide +kernel)⟩
theorem lw_p33 : lw_okq (⟨"StatueCoatsModel", "areMonths", "(I)Z"⟩, 22) := ⟨⟨by decide +kernel, by decide +kernel⟩, List.mem_of_getElem? (i := 899) (by decide +kernel), List.mem_of_getElem? (i := 1099) (by decide +kernel), List.mem_of_getElem? (i := 1100) (by decide +kernel)⟩
theorem lw_p34 : lw_okq (⟨"StatueCoatsModel", "isOf", "(III)I"⟩, 22) := ⟨⟨by decide +kernel, by decide +kernel⟩, List.mem_of_getElem? (i := 899) (by decide +kernel), List.mem_of_getElem? (i := 1103) (by decide +kernel), List.mem_of_getElem? (i := 1104) (by decide +kernel)⟩
theorem lw_p35 : lw_okq (⟨"StatueCoatsModel", "lives", "(I)V"⟩, 22) := ⟨⟨by decide +kernel, by decide +kernel⟩, List.mem_of_getElem? (i := 899) (by decide +kernel), List.mem_of_getElem? (i := 1107) (by decide +kernel), List.mem_of_getElem? (i := 1108) (by decide +kernel)⟩
theorem lw_p36 : lw_okq (⟨"StatueCoatsModel", "begins", "()V"⟩, 22) := ⟨⟨by decide +kernel, by decide +kernel⟩, List.mem_of_getElem? (i := 899) (by decide +kernel), List.mem_of_getElem? (i := 1111) (by decide +kernel), List.mem_of_getElem? (i := 1112) (by decide +kernel)⟩
theorem lw_p37 : lw_okq (⟨"StatueCoatsModel", "goes", "(I)V"⟩, 22) := ⟨⟨by decide +kernel, by decide +kernel⟩, List.mem_of_getElem? (i := 899) (by decide +kernel), List.mem_of_getElem? (i := 1115) (by decide +kernel), List.mem_of_getElem? (i := 1116) (by decide +kernel)⟩
theorem lw_p38 : lw_okq (⟨"StatueCoatsModel", "weathers", "(II)V"⟩, 22) := ⟨⟨by decide +kernel, by decide +kernel⟩, List.mem_of_getElem? (i := 899) (by decide +kernel), List.mem_of_getElem? (i := 1119) (by decide +kernel), List.mem_of_getElem? (i := 1120) (by decide +kernel)⟩
theorem lw_p39 : lw_okq (⟨"StatueCoatsModel", "tailors", "()V"⟩, 22) := ⟨⟨by decide +kernel, by decide +kernel⟩, List.mem_of_getElem? (i := 899) (by decide +kernel), List.mem_of_getElem? (i := 1126) (by decide +kernel), List.mem_of_getElem? (i := 1127) (by decide +kernel)⟩
theorem lw_p40 : lw_okq (⟨"StatueCoatsModel", "dresses", "(II)I"⟩, 22) := ⟨⟨by decide +kernel, by decide +kernel⟩, List.mem_of_getElem? (i := 899) (by decide +kernel), List.mem_of_getElem? (i := 1130) (by decide +kernel), List.mem_of_getElem? (i := 1131) (by decide +kernel)⟩
theorem lw_p41 : lw_okq (⟨"StatueCoatsModel", "fitsNow", "(II)Z"⟩, 22) := ⟨⟨by decide +kernel, by decide +kernel⟩, List.mem_of_getElem? (i := 899) (by decide +kernel), List.mem_of_getElem? (i := 1137) (by decide +kernel), List.mem_of_getElem? (i := 1138) (by decide +kernel)⟩
theorem lw_p42 : lw_okq (⟨"StatueCoatsModel", "fitsOf", "(II)I"⟩, 22) := ⟨⟨by decide +kernel, by decide +kernel⟩, List.mem_of_getElem? (i := 899) (by decide +kernel), List.mem_of_getElem? (i := 1145) (by decide +kernel), List.mem_of_getElem? (i := 1146) (by decide +kernel)⟩
theorem lw_p43 : lw_okq (⟨"StatueCoatsModel", "wearsOf", "(II)I"⟩, 22) := ⟨⟨by decide +kernel, by decide +kernel⟩, List.mem_of_getElem? (i := 899) (by decide +kernel), List.mem_of_getElem? (i := 1153) (by decide +kernel), List.mem_of_getElem? (i := 1154) (by decide +kernel)⟩
theorem lw_p44 : lw_okq (⟨"StatueCoatsModel", "behindOf", "(II)I"⟩, 22) := ⟨⟨by decide +kernel, by decide +kernel⟩, List.mem_of_getElem? (i := 899) (by decide +kernel), List.mem_of_getElem? (i := 1161) (by decide +kernel), List.mem_of_getElem? (i := 1162) (by decide +kernel)⟩
theorem lw_p45 : lw_okq (⟨"StatueCoatsModel", "bareNow", "()I"⟩, 22) := ⟨⟨by decide +kernel, by decide +kernel⟩, List.mem_of_getElem? (i := 899) (by decide +kernel), List.mem_of_getElem? (i := 1165) (by decide +kernel), List.mem_of_getElem? (i := 1166) (by decide +kernel)⟩
theorem lw_p46 : lw_okq (⟨"StatueCoatsModel", "freezesOf", "(I)I"⟩, 22) := ⟨⟨by decide +kernel, by decide +kernel⟩, List.mem_of_getElem? (i := 899) (by decide +kernel), List.mem_of_getElem? (i := 1173) (by decide +kernel), List.mem_of_getElem? (i := 1174) (by decide +kernel)⟩
theorem lw_p47 : lw_okq (⟨"StatueCoatsModel", "changesOf", "(I)I"⟩, 22) := ⟨⟨by decide +kernel, by decide +kernel⟩, List.mem_of_getElem? (i := 899) (by decide +kernel), List.mem_of_getElem? (i := 1181) (by decide +kernel), List.mem_of_getElem? (i := 1182) (by decide +kernel)⟩
def lw_privs_3 : List (MethodName × Nat) := [(⟨"StatueCoatsModel", "isCloth", "(I)Z"⟩, 22), (⟨"StatueCoatsModel", "areMonths", "(I)Z"⟩, 22), (⟨"StatueCoatsModel", "isOf", "(III)I"⟩, 22), (⟨"StatueCoatsModel", "lives", "(I)V"⟩, 22), (⟨"StatueCoatsModel", "begins", "()V"⟩, 22), (⟨"StatueCoatsModel", "goes", "(I)V"⟩, 22), (⟨"StatueCoatsModel", "weathers", "(II)V"⟩, 22), (⟨"StatueCoatsModel", "tailors", "()V"⟩, 22), (⟨"StatueCoatsModel", "dresses", "(II)I"⟩, 22), (⟨"StatueCoatsModel", "fitsNow", "(II)Z"⟩, 22), (⟨"StatueCoatsModel", "fitsOf", "(II)I"⟩, 22), (⟨"StatueCoatsModel", "wearsOf", "(II)I"⟩, 22), (⟨"StatueCoatsModel", "behindOf", "(II)I"⟩, 22), (⟨"StatueCoatsModel", "bareNow", "()I"⟩, 22), (⟨"StatueCoatsModel", "freezesOf", "(I)I"⟩, 22), (⟨"StatueCoatsModel", "changesOf", "(I)I"⟩, 22)]
theorem lw_r3 : ∀ q ∈ lw_privs_3, lw_okq q := List.forall_mem_cons.mpr ⟨lw_p32, List.forall_mem_cons.mpr ⟨lw_p33, List.forall_mem_cons.mpr ⟨lw_p34, List.forall_mem_cons.mpr ⟨lw_p35, List.forall_mem_cons.mpr ⟨lw_p36, List.forall_mem_cons.mpr ⟨lw_p37, List.forall_mem_cons.mpr ⟨lw_p38, List.forall_mem_cons.mpr ⟨lw_p39, List.forall_mem_cons.mpr ⟨lw_p40, List.forall_mem_cons.mpr ⟨lw_p41, List.forall_mem_cons.mpr ⟨lw_p42, List.forall_mem_cons.mpr ⟨lw_p43, List.forall_mem_cons.mpr ⟨lw_p44, List.forall_mem_cons.mpr ⟨lw_p45, List.forall_mem_cons.mpr ⟨lw_p46, List.forall_mem_cons.mpr ⟨lw_p47, fun _ h => absurd h List.not_mem_nil⟩⟩⟩⟩⟩⟩⟩⟩⟩⟩⟩⟩⟩⟩⟩⟩
theorem lw_p48 : lw_okq (⟨"StatueCoatsModel", "mostOf", "(II)I"⟩, 22) := ⟨⟨by decide +kernel, by decide +kernel⟩, List.mem_of_getElem? (i := 899) (by decide +kernel), List.mem_of_getElem? (i := 1191) (by decide +kernel), List.mem_of_getElem? (i := 1192) (by decide +kernel)⟩
theorem lw_p49 : lw_okq (⟨"StatueCoatsModel", "roundOf", "(III)I"⟩, 22) := ⟨⟨by decide +kernel, by decide +kernel⟩, List.mem_of_getElem? (i := 899) (by decide +kernel), List.mem_of_getElem? (i := 1201) (by decide +kernel), List.mem_of_getElem? (i := 1202) (by decide +kernel)⟩
theorem lw_p50 : lw_okq (⟨"StatueCoatsModel", "unfolds", "(II)V"⟩, 22) := ⟨⟨by decide +kernel, by decide +kernel⟩, List.mem_of_getElem? (i := 899) (by decide +kernel), List.mem_of_getElem? (i := 1208) (by decide +kernel), List.mem_of_getElem? (i := 1209) (by decide +kernel)⟩
theorem lw_p51 : lw_okq (⟨"StatueCoatsModel", "sewOf", "(II)I"⟩, 22) := ⟨⟨by decide +kernel, by decide +kernel⟩, List.mem_of_getElem? (i := 899) (by decide +kernel), List.mem_of_getElem? (i := 1221) (by decide +kernel), List.mem_of_getElem? (i := 1222) (by decide +kernel)⟩
theorem lw_p52 : lw_okq (⟨"StatueCoatsModel", "swappedOf", "(I)I"⟩, 22) := ⟨⟨by decide +kernel, by decide +kernel⟩, List.mem_of_getElem? (i := 899) (by decide +kernel), List.mem_of_getElem? (i := 1246) (by decide +kernel), List.mem_of_getElem? (i := 1247) (by decide +kernel)⟩
theorem lw_p53 : lw_okq (⟨"StatueCoatsModel", "findAll", "()V"⟩, 22) := ⟨⟨by decide +kernel, by decide +kernel⟩, List.mem_of_getElem? (i := 899) (by decide +kernel), List.mem_of_getElem? (i := 1250) (by decide +kernel), List.mem_of_getElem? (i := 1251) (by decide +kernel)⟩
theorem lw_p54 : lw_okq (⟨"StatueCoatsModel", "isSeen", "(II)Z"⟩, 22) := ⟨⟨by decide +kernel, by decide +kernel⟩, List.mem_of_getElem? (i := 899) (by decide +kernel), List.mem_of_getElem? (i := 1254) (by decide +kernel), List.mem_of_getElem? (i := 1255) (by decide +kernel)⟩
theorem lw_p55 : lw_okq (⟨"StatueCoatsModel", "lookOf", "(I)I"⟩, 22) := ⟨⟨by decide +kernel, by decide +kernel⟩, List.mem_of_getElem? (i := 899) (by decide +kernel), List.mem_of_getElem? (i := 1265) (by decide +kernel), List.mem_of_getElem? (i := 1266) (by decide +kernel)⟩
theorem lw_p56 : lw_okq (⟨"StatueCoatsModel", "mostAlike", "(II)I"⟩, 22) := ⟨⟨by decide +kernel, by decide +kernel⟩, List.mem_of_getElem? (i := 899) (by decide +kernel), List.mem_of_getElem? (i := 1269) (by decide +kernel), List.mem_of_getElem? (i := 1270) (by decide +kernel)⟩
theorem lw_p57 : lw_okq (⟨"StatueCoatsModel", "mothsOf", "(IIII)J"⟩, 22) := ⟨⟨by decide +kernel, by decide +kernel⟩, List.mem_of_getElem? (i := 899) (by decide +kernel), List.mem_of_getElem? (i := 1278) (by decide +kernel), List.mem_of_getElem? (i := 1279) (by decide +kernel)⟩
theorem lw_p58 : lw_okq (⟨"StatueCoatsModel", "weatherOf", "(III)I"⟩, 22) := ⟨⟨by decide +kernel, by decide +kernel⟩, List.mem_of_getElem? (i := 899) (by decide +kernel), List.mem_of_getElem? (i := 1293) (by decide +kernel), List.mem_of_getElem? (i := 1294) (by decide +kernel)⟩
theorem lw_p59 : lw_okq (⟨"StatueCoatsModel", "tellsMonths", "(JI)J"⟩, 22) := ⟨⟨by decide +kernel, by decide +kernel⟩, List.mem_of_getElem? (i := 899) (by decide +kernel), List.mem_of_getElem? (i := 1314) (by decide +kernel), List.mem_of_getElem? (i := 1315) (by decide +kernel)⟩
def lw_privs_4 : List (MethodName × Nat) := [(⟨"StatueCoatsModel", "mostOf", "(II)I"⟩, 22), (⟨"StatueCoatsModel", "roundOf", "(III)I"⟩, 22), (⟨"StatueCoatsModel", "unfolds", "(II)V"⟩, 22), (⟨"StatueCoatsModel", "sewOf", "(II)I"⟩, 22), (⟨"StatueCoatsModel", "swappedOf", "(I)I"⟩, 22), (⟨"StatueCoatsModel", "findAll", "()V"⟩, 22), (⟨"StatueCoatsModel", "isSeen", "(II)Z"⟩, 22), (⟨"StatueCoatsModel", "lookOf", "(I)I"⟩, 22), (⟨"StatueCoatsModel", "mostAlike", "(II)I"⟩, 22), (⟨"StatueCoatsModel", "mothsOf", "(IIII)J"⟩, 22), (⟨"StatueCoatsModel", "weatherOf", "(III)I"⟩, 22), (⟨"StatueCoatsModel", "tellsMonths", "(JI)J"⟩, 22)]
theorem lw_r4 : ∀ q ∈ lw_privs_4, lw_okq q := List.forall_mem_cons.mpr ⟨lw_p48, List.forall_mem_cons.mpr ⟨lw_p49, List.forall_mem_cons.mpr ⟨lw_p50, List.forall_mem_cons.mpr ⟨lw_p51, List.forall_mem_cons.mpr ⟨lw_p52, List.forall_mem_cons.mpr ⟨lw_p53, List.forall_mem_cons.mpr ⟨lw_p54, List.forall_mem_cons.mpr ⟨lw_p55, List.forall_mem_cons.mpr ⟨lw_p56, List.forall_mem_cons.mpr ⟨lw_p57, List.forall_mem_cons.mpr ⟨lw_p58, List.forall_mem_cons.mpr ⟨lw_p59, fun _ h => absurd h List.not_mem_nil⟩⟩⟩⟩⟩⟩⟩⟩⟩⟩⟩⟩
def lw_privs : List (MethodName × Nat) := lw_privs_1 ++ (lw_privs_2 ++ (lw_privs_3 ++ (lw_privs_4)))
def lw_tbl : List Cond := k2_sels lw_privs ++ tables_1
theorem lw_privs_ok : ∀ q ∈ lw_privs, lw_okq q := by
  show ∀ q ∈ lw_privs_1 ++ (lw_privs_2 ++ (lw_privs_3 ++ (lw_privs_4))), lw_okq q
  exact List.forall_mem_append.mpr ⟨lw_r1, List.forall_mem_append.mpr ⟨lw_r2, List.forall_mem_append.mpr ⟨lw_r3, lw_r4⟩⟩⟩
/-! ===== BEGIN words of one list among another's, by their places ===== -/
theorem goodIn_r {big : List Cond} (ws : List Cond) (ps : List Nat) (hp : ws = ps.filterMap (fun i => big[i]?)) (h : ws.all goodWord = true) : GoodIn big ws := by
  intro w hw
  have h1 := List.all_eq_true.mp h w hw
  rw [hp] at hw
  obtain ⟨i, -, hi⟩ := List.mem_filterMap.mp hw
  have hm : w ∈ big := by first | exact List.mem_of_getElem? hi | exact List.getElem?_mem hi
  exact ⟨hm, good_of_word h1⟩
theorem goodIn_app {big a b : List Cond} (ha : GoodIn big a) (hb : GoodIn big b) : GoodIn big (a ++ b) := fun w h => (List.mem_append.mp h).elim (ha w) (hb w)
theorem goodIn_ca {big a b : List Cond} {c : Cond} (ha : GoodIn big (c :: a)) (hb : GoodIn big b) : GoodIn big (c :: (a ++ b)) := fun w h => (List.mem_cons.mp h).elim (fun e => ha w (List.mem_cons.mpr (Or.inl e))) (fun h => (List.mem_append.mp h).elim (fun h => ha w (List.mem_cons.mpr (Or.inr h))) (hb w))
theorem goodIn_sub {big ws : List Cond} (hm : ∀ w ∈ ws, w ∈ big) (h : ws.all goodWord = true) : GoodIn big ws := fun w hw => ⟨hm w hw, good_of_word (List.all_eq_true.mp h w hw)⟩
/-! ===== END ===== -/


/-! ===== BEGIN printed: names, fields, word lists, decode rows ===== -/
def RX0 : String := "StatueCoats$Chances"
def TX0 : u_T := fun k => match k with
  | 0 => ("StatueCoats$Chances", "clothes", "LStatueCoats$Clothes;", true)
  | 1 => ("StatueCoats$Chances", "seasons", "LStatueCoats$Seasons;", true)
  | 2 => ("StatueCoats$Chances", "left", "[J", true)
  | 3 => ("StatueCoats$Chances", "above", "J", false)
  | _ => ("StatueCoats$Chances", "below", "J", false)
def tyX0 : Nat → FieldType := fun k => match k with
  | 0 => .object "StatueCoats$Clothes"
  | 1 => .object "StatueCoats$Seasons"
  | 2 => .array .long
  | 3 => .long
  | _ => .long
abbrev wsX00 : List Cond := u_ws RX0 TX0 5
theorem nmX0 : ∀ a, a < 5 → ∀ b, b < 5 → a ≠ b → (TX0 a).2.1 ≠ (TX0 b).2.1 := by decide +kernel
theorem tyX0_ok : ∀ k, k < 5 → parseFieldDescriptor (TX0 k).2.2.1 = some (tyX0 k) := by decide +kernel
abbrev cX0_init : ByteArray := prog_2_method_1_code
def yX0_init : MethodName := ⟨RX0, "<init>", "(LStatueCoats$Clothes;LStatueCoats$Seasons;)V"⟩
abbrev cX0_weigh : ByteArray := prog_2_method_2_code
def yX0_weigh : MethodName := ⟨RX0, "weigh", "(III)V"⟩
abbrev cX0_begin : ByteArray := prog_2_method_3_code
def yX0_begin : MethodName := ⟨RX0, "begin", "(I)V"⟩
abbrev cX0_passMoths : ByteArray := prog_2_method_4_code
def yX0_passMoths : MethodName := ⟨RX0, "passMoths", "(II)V"⟩
abbrev cX0_toLowestTerms : ByteArray := prog_2_method_5_code
def yX0_toLowestTerms : MethodName := ⟨RX0, "toLowestTerms", "()V"⟩
def RX1 : String := "StatueCoats$Clothes"
def TX1 : u_T := fun k => match k with
  | 0 => ("StatueCoats$Text", "bytes", "[I", true)
  | 1 => ("StatueCoats$Text", "limit", "I", true)
  | 2 => ("StatueCoats$Text", "length", "I", false)
  | 3 => ("StatueCoats$Text", "firstFault", "I", false)
  | _ => ("StatueCoats$Text", "things", "I", false)
def tyX1 : Nat → FieldType := fun k => match k with
  | 0 => .array .int
  | 1 => .int
  | 2 => .int
  | 3 => .int
  | _ => .int
abbrev wsX10 : List Cond := u_ws RX1 TX1 5
theorem nmX1 : ∀ a, a < 5 → ∀ b, b < 5 → a ≠ b → (TX1 a).2.1 ≠ (TX1 b).2.1 := by decide +kernel
theorem tyX1_ok : ∀ k, k < 5 → parseFieldDescriptor (TX1 k).2.2.1 = some (tyX1 k) := by decide +kernel
abbrev cX1_init : ByteArray := prog_3_method_1_code
def yX1_init : MethodName := ⟨RX1, "<init>", "()V"⟩
abbrev cX1_goesOnAt : ByteArray := prog_3_method_2_code
def yX1_goesOnAt : MethodName := ⟨RX1, "goesOnAt", "(I)Z"⟩
abbrev cX1_wholeThings : ByteArray := prog_3_method_3_code
def yX1_wholeThings : MethodName := ⟨RX1, "wholeThings", "()I"⟩
abbrev cX1_largeOf : ByteArray := prog_3_method_4_code
def yX1_largeOf : MethodName := ⟨RX1, "largeOf", "(I)I"⟩
abbrev cX1_stuffOf : ByteArray := prog_3_method_5_code
def yX1_stuffOf : MethodName := ⟨RX1, "stuffOf", "(I)I"⟩
abbrev cX1_buttonsOf : ByteArray := prog_3_method_6_code
def yX1_buttonsOf : MethodName := ⟨RX1, "buttonsOf", "(I)I"⟩
abbrev cX1_amountOf : ByteArray := prog_3_method_7_code
def yX1_amountOf : MethodName := ⟨RX1, "amountOf", "(I)I"⟩
def RX2 : String := "StatueCoats$Dressing"
def TX2 : u_T := fun k => match k with
  | 0 => ("StatueCoats$Dressing", "wardrobe", "LStatueCoats$Wardrobe;", true)
  | 1 => ("StatueCoats$Dressing", "clothes", "LStatueCoats$Clothes;", true)
  | 2 => ("StatueCoats$Dressing", "dressable", "[[I", true)
  | _ => ("StatueCoats$Dressing", "chosen", "[I", true)
def tyX2 : Nat → FieldType := fun k => match k with
  | 0 => .object "StatueCoats$Wardrobe"
  | 1 => .object "StatueCoats$Clothes"
  | 2 => .array (.array .int)
  | _ => .array .int
abbrev wsX20 : List Cond := u_ws RX2 TX2 4
theorem nmX2 : ∀ a, a < 4 → ∀ b, b < 4 → a ≠ b → (TX2 a).2.1 ≠ (TX2 b).2.1 := by decide +kernel
theorem tyX2_ok : ∀ k, k < 4 → parseFieldDescriptor (TX2 k).2.2.1 = some (tyX2 k) := by decide +kernel
abbrev cX2_init : ByteArray := prog_4_method_1_code
def yX2_init : MethodName := ⟨RX2, "<init>", "(LStatueCoats$Wardrobe;LStatueCoats$Clothes;)V"⟩
abbrev cX2_dressed : ByteArray := prog_4_method_2_code
def yX2_dressed : MethodName := ⟨RX2, "dressed", "()I"⟩
abbrev cX2_chosenFor : ByteArray := prog_4_method_3_code
def yX2_chosenFor : MethodName := ⟨RX2, "chosenFor", "(I)I"⟩
abbrev cX2_plan : ByteArray := prog_4_method_4_code
def yX2_plan : MethodName := ⟨RX2, "plan", "(I)V"⟩
abbrev cX2_fillFor : ByteArray := prog_4_method_5_code
def yX2_fillFor : MethodName := ⟨RX2, "fillFor", "(II)V"⟩
abbrev cX2_leastChoice : ByteArray := prog_4_method_6_code
def yX2_leastChoice : MethodName := ⟨RX2, "leastChoice", "(III)I"⟩
def RX3 : String := "StatueCoats$Ladder"
def TX3 : u_T := fun k => match k with
  | 0 => ("StatueCoats$Ladder", "statues", "LStatueCoats$Statues;", true)
  | 1 => ("StatueCoats$Ladder", "row", "[I", true)
  | 2 => ("StatueCoats$Ladder", "best", "[I", true)
  | 3 => ("StatueCoats$Ladder", "stops", "I", false)
  | 4 => ("StatueCoats$Ladder", "told", "I", false)
  | 5 => ("StatueCoats$Ladder", "deadline", "I", false)
  | _ => ("StatueCoats$Ladder", "least", "I", false)
def tyX3 : Nat → FieldType := fun k => match k with
  | 0 => .object "StatueCoats$Statues"
  | 1 => .array .int
  | 2 => .array .int
  | 3 => .int
  | 4 => .int
  | 5 => .int
  | _ => .int
abbrev wsX30 : List Cond := u_ws RX3 TX3 7
theorem nmX3 : ∀ a, a < 7 → ∀ b, b < 7 → a ≠ b → (TX3 a).2.1 ≠ (TX3 b).2.1 := by decide +kernel
theorem tyX3_ok : ∀ k, k < 7 → parseFieldDescriptor (TX3 k).2.2.1 = some (tyX3 k) := by decide +kernel
abbrev cX3_init : ByteArray := prog_5_method_1_code
def yX3_init : MethodName := ⟨RX3, "<init>", "(LStatueCoats$Statues;)V"⟩
abbrev cX3_plan : ByteArray := prog_5_method_2_code
def yX3_plan : MethodName := ⟨RX3, "plan", "(II)I"⟩
abbrev cX3_stopAt : ByteArray := prog_5_method_3_code
def yX3_stopAt : MethodName := ⟨RX3, "stopAt", "(I)I"⟩
abbrev cX3_climb : ByteArray := prog_5_method_4_code
def yX3_climb : MethodName := ⟨RX3, "climb", "(IIIII)V"⟩
def RX4 : String := "StatueCoats$Night"
def TX4 : u_T := fun k => match k with
  | 0 => ("StatueCoats$Night", "wardrobe", "LStatueCoats$Wardrobe;", true)
  | 1 => ("StatueCoats$Night", "statues", "LStatueCoats$Statues;", true)
  | 2 => ("StatueCoats$Night", "seasons", "LStatueCoats$Seasons;", true)
  | 3 => ("StatueCoats$Night", "monthsSeen", "[I", true)
  | 4 => ("StatueCoats$Night", "statueSeen", "[I", true)
  | 5 => ("StatueCoats$Night", "clothSeen", "[I", true)
  | 6 => ("StatueCoats$Night", "pairs", "[I", true)
  | 7 => ("StatueCoats$Night", "alike", "[I", true)
  | 8 => ("StatueCoats$Night", "sightings", "I", false)
  | _ => ("StatueCoats$Night", "pairsFound", "I", false)
def tyX4 : Nat → FieldType := fun k => match k with
  | 0 => .object "StatueCoats$Wardrobe"
  | 1 => .object "StatueCoats$Statues"
  | 2 => .object "StatueCoats$Seasons"
  | 3 => .array .int
  | 4 => .array .int
  | 5 => .array .int
  | 6 => .array .int
  | 7 => .array .int
  | 8 => .int
  | _ => .int
abbrev wsX40 : List Cond := u_ws RX4 TX4 10
theorem nmX4 : ∀ a, a < 10 → ∀ b, b < 10 → a ≠ b → (TX4 a).2.1 ≠ (TX4 b).2.1 := by decide +kernel
theorem tyX4_ok : ∀ k, k < 10 → parseFieldDescriptor (TX4 k).2.2.1 = some (tyX4 k) := by decide +kernel
abbrev cX4_init : ByteArray := prog_6_method_1_code
def yX4_init : MethodName := ⟨RX4, "<init>", "(LStatueCoats$Wardrobe;LStatueCoats$Statues;LStatueCoats$Seasons;)V"⟩
abbrev cX4_mayBe : ByteArray := prog_6_method_2_code
def yX4_mayBe : MethodName := ⟨RX4, "mayBe", "(III)Z"⟩
abbrev cX4_isFull : ByteArray := prog_6_method_3_code
def yX4_isFull : MethodName := ⟨RX4, "isFull", "()Z"⟩
abbrev cX4_note : ByteArray := prog_6_method_4_code
def yX4_note : MethodName := ⟨RX4, "note", "(III)V"⟩
abbrev cX4_findPairs : ByteArray := prog_6_method_5_code
def yX4_findPairs : MethodName := ⟨RX4, "findPairs", "()V"⟩
abbrev cX4_leastPair : ByteArray := prog_6_method_6_code
def yX4_leastPair : MethodName := ⟨RX4, "leastPair", "()I"⟩
abbrev cX4_monthsToLook : ByteArray := prog_6_method_7_code
def yX4_monthsToLook : MethodName := ⟨RX4, "monthsToLook", "(I)I"⟩
abbrev cX4_agrees : ByteArray := prog_6_method_8_code
def yX4_agrees : MethodName := ⟨RX4, "agrees", "(II)Z"⟩
abbrev cX4_wornHadChanged : ByteArray := prog_6_method_9_code
def yX4_wornHadChanged : MethodName := ⟨RX4, "wornHadChanged", "(IIII)I"⟩
abbrev cX4_mostAlike : ByteArray := prog_6_method_10_code
def yX4_mostAlike : MethodName := ⟨RX4, "mostAlike", "(II)I"⟩
def RX5 : String := "StatueCoats$Seasons"
def TX5 : u_T := fun k => match k with
  | 0 => ("StatueCoats$Text", "bytes", "[I", true)
  | 1 => ("StatueCoats$Text", "limit", "I", true)
  | 2 => ("StatueCoats$Text", "length", "I", false)
  | 3 => ("StatueCoats$Text", "firstFault", "I", false)
  | _ => ("StatueCoats$Text", "things", "I", false)
def tyX5 : Nat → FieldType := fun k => match k with
  | 0 => .array .int
  | 1 => .int
  | 2 => .int
  | 3 => .int
  | _ => .int
abbrev wsX50 : List Cond := u_ws RX5 TX5 5
theorem nmX5 : ∀ a, a < 5 → ∀ b, b < 5 → a ≠ b → (TX5 a).2.1 ≠ (TX5 b).2.1 := by decide +kernel
theorem tyX5_ok : ∀ k, k < 5 → parseFieldDescriptor (TX5 k).2.2.1 = some (tyX5 k) := by decide +kernel
abbrev cX5_init : ByteArray := prog_7_method_1_code
def yX5_init : MethodName := ⟨RX5, "<init>", "()V"⟩
abbrev cX5_goesOnAt : ByteArray := prog_7_method_2_code
def yX5_goesOnAt : MethodName := ⟨RX5, "goesOnAt", "(I)Z"⟩
abbrev cX5_wholeThings : ByteArray := prog_7_method_3_code
def yX5_wholeThings : MethodName := ⟨RX5, "wholeThings", "()I"⟩
abbrev cX5_broughtBy : ByteArray := prog_7_method_4_code
def yX5_broughtBy : MethodName := ⟨RX5, "broughtBy", "(I)I"⟩
def RX6 : String := "StatueCoats$Sheet"
def TX6 : u_T := fun k => match k with
  | 0 => ("StatueCoats$Sheet", "items", "[I", true)
  | 1 => ("StatueCoats$Sheet", "form", "I", false)
  | _ => ("StatueCoats$Sheet", "size", "I", false)
def tyX6 : Nat → FieldType := fun k => match k with
  | 0 => .array .int
  | 1 => .int
  | _ => .int
abbrev wsX60 : List Cond := u_ws RX6 TX6 3
theorem nmX6 : ∀ a, a < 3 → ∀ b, b < 3 → a ≠ b → (TX6 a).2.1 ≠ (TX6 b).2.1 := by decide +kernel
theorem tyX6_ok : ∀ k, k < 3 → parseFieldDescriptor (TX6 k).2.2.1 = some (tyX6 k) := by decide +kernel
abbrev cX6_init : ByteArray := prog_8_method_1_code
def yX6_init : MethodName := ⟨RX6, "<init>", "()V"⟩
abbrev cX6_isLost : ByteArray := prog_8_method_2_code
def yX6_isLost : MethodName := ⟨RX6, "isLost", "()Z"⟩
abbrev cX6_begin : ByteArray := prog_8_method_3_code
def yX6_begin : MethodName := ⟨RX6, "begin", "(II)V"⟩
abbrev cX6_drop : ByteArray := prog_8_method_4_code
def yX6_drop : MethodName := ⟨RX6, "drop", "()V"⟩
abbrev cX6_has : ByteArray := prog_8_method_5_code
def yX6_has : MethodName := ⟨RX6, "has", "(I)Z"⟩
abbrev cX6_hasRun : ByteArray := prog_8_method_6_code
def yX6_hasRun : MethodName := ⟨RX6, "hasRun", "(II)Z"⟩
abbrev cX6_put : ByteArray := prog_8_method_7_code
def yX6_put : MethodName := ⟨RX6, "put", "(II)V"⟩
abbrev cX6_itemAt : ByteArray := prog_8_method_8_code
def yX6_itemAt : MethodName := ⟨RX6, "itemAt", "(I)I"⟩
def RX7 : String := "StatueCoats$Statues"
def TX7 : u_T := fun k => match k with
  | 0 => ("StatueCoats$Text", "bytes", "[I", true)
  | 1 => ("StatueCoats$Text", "limit", "I", true)
  | 2 => ("StatueCoats$Text", "length", "I", false)
  | 3 => ("StatueCoats$Text", "firstFault", "I", false)
  | _ => ("StatueCoats$Text", "things", "I", false)
def tyX7 : Nat → FieldType := fun k => match k with
  | 0 => .array .int
  | 1 => .int
  | 2 => .int
  | 3 => .int
  | _ => .int
abbrev wsX70 : List Cond := u_ws RX7 TX7 5
theorem nmX7 : ∀ a, a < 5 → ∀ b, b < 5 → a ≠ b → (TX7 a).2.1 ≠ (TX7 b).2.1 := by decide +kernel
theorem tyX7_ok : ∀ k, k < 5 → parseFieldDescriptor (TX7 k).2.2.1 = some (tyX7 k) := by decide +kernel
abbrev cX7_init : ByteArray := prog_9_method_1_code
def yX7_init : MethodName := ⟨RX7, "<init>", "()V"⟩
abbrev cX7_goesOnAt : ByteArray := prog_9_method_2_code
def yX7_goesOnAt : MethodName := ⟨RX7, "goesOnAt", "(I)Z"⟩
abbrev cX7_wholeThings : ByteArray := prog_9_method_3_code
def yX7_wholeThings : MethodName := ⟨RX7, "wholeThings", "()I"⟩
abbrev cX7_sizeOf : ByteArray := prog_9_method_4_code
def yX7_sizeOf : MethodName := ⟨RX7, "sizeOf", "(I)I"⟩
abbrev cX7_placeOf : ByteArray := prog_9_method_5_code
def yX7_placeOf : MethodName := ⟨RX7, "placeOf", "(I)I"⟩
abbrev cX7_buttonsOf : ByteArray := prog_9_method_6_code
def yX7_buttonsOf : MethodName := ⟨RX7, "buttonsOf", "(I)I"⟩
abbrev cX7_isNorthern : ByteArray := prog_9_method_7_code
def yX7_isNorthern : MethodName := ⟨RX7, "isNorthern", "(I)Z"⟩
def RX8 : String := "StatueCoats$Text"
def TX8 : u_T := fun k => match k with
  | _ => ("", "", "", false)
def tyX8 : Nat → FieldType := fun k => match k with
  | _ => .int
abbrev wsX80 : List Cond := u_ws RX8 TX8 0
theorem nmX8 : ∀ a, a < 0 → ∀ b, b < 0 → a ≠ b → (TX8 a).2.1 ≠ (TX8 b).2.1 := by decide +kernel
theorem tyX8_ok : ∀ k, k < 0 → parseFieldDescriptor (TX8 k).2.2.1 = some (tyX8 k) := by decide +kernel
abbrev cX8_init : ByteArray := prog_10_method_1_code
def yX8_init : MethodName := ⟨RX8, "<init>", "(I)V"⟩
abbrev cX8_isFull : ByteArray := prog_10_method_4_code
def yX8_isFull : MethodName := ⟨RX8, "isFull", "()Z"⟩
abbrev cX8_holds : ByteArray := prog_10_method_5_code
def yX8_holds : MethodName := ⟨RX8, "holds", "(I)Z"⟩
abbrev cX8_append : ByteArray := prog_10_method_6_code
def yX8_append : MethodName := ⟨RX8, "append", "(I)V"⟩
abbrev cX8_cutTo : ByteArray := prog_10_method_7_code
def yX8_cutTo : MethodName := ⟨RX8, "cutTo", "(I)V"⟩
abbrev cX8_byteAt : ByteArray := prog_10_method_8_code
def yX8_byteAt : MethodName := ⟨RX8, "byteAt", "(I)I"⟩
abbrev cX8_figureAt : ByteArray := prog_10_method_9_code
def yX8_figureAt : MethodName := ⟨RX8, "figureAt", "(I)I"⟩
abbrev cX8_judge : ByteArray := prog_10_method_10_code
def yX8_judge : MethodName := ⟨RX8, "judge", "()V"⟩
abbrev cX8_isFigure : ByteArray := prog_10_method_11_code
def yX8_isFigure : MethodName := ⟨RX8, "isFigure", "(II)Z"⟩
def RX9 : String := "StatueCoats$Wardrobe"
def TX9 : u_T := fun k => match k with
  | 0 => ("StatueCoats$Wardrobe", "statues", "LStatueCoats$Statues;", true)
  | 1 => ("StatueCoats$Wardrobe", "clothes", "LStatueCoats$Clothes;", true)
  | 2 => ("StatueCoats$Wardrobe", "seasons", "LStatueCoats$Seasons;", true)
  | 3 => ("StatueCoats$Wardrobe", "large", "[[I", true)
  | 4 => ("StatueCoats$Wardrobe", "buttons", "[[I", true)
  | 5 => ("StatueCoats$Wardrobe", "amount", "[[I", true)
  | 6 => ("StatueCoats$Wardrobe", "suiting", "[[I", true)
  | 7 => ("StatueCoats$Wardrobe", "worn", "[[I", true)
  | 8 => ("StatueCoats$Wardrobe", "slack", "I", false)
  | 9 => ("StatueCoats$Wardrobe", "way", "I", false)
  | _ => ("StatueCoats$Wardrobe", "isOutdated", "Z", false)
def tyX9 : Nat → FieldType := fun k => match k with
  | 0 => .object "StatueCoats$Statues"
  | 1 => .object "StatueCoats$Clothes"
  | 2 => .object "StatueCoats$Seasons"
  | 3 => .array (.array .int)
  | 4 => .array (.array .int)
  | 5 => .array (.array .int)
  | 6 => .array (.array .int)
  | 7 => .array (.array .int)
  | 8 => .int
  | 9 => .int
  | _ => .boolean
abbrev wsX90 : List Cond := u_ws RX9 TX9 11
theorem nmX9 : ∀ a, a < 11 → ∀ b, b < 11 → a ≠ b → (TX9 a).2.1 ≠ (TX9 b).2.1 := by decide +kernel
theorem tyX9_ok : ∀ k, k < 11 → parseFieldDescriptor (TX9 k).2.2.1 = some (tyX9 k) := by decide +kernel
abbrev cX9_init : ByteArray := prog_11_method_1_code
def yX9_init : MethodName := ⟨RX9, "<init>", "(LStatueCoats$Statues;LStatueCoats$Clothes;LStatueCoats$Seasons;)V"⟩
abbrev cX9_outdate : ByteArray := prog_11_method_2_code
def yX9_outdate : MethodName := ⟨RX9, "outdate", "()V"⟩
abbrev cX9_changeSlack : ByteArray := prog_11_method_3_code
def yX9_changeSlack : MethodName := ⟨RX9, "changeSlack", "(I)I"⟩
abbrev cX9_changeWay : ByteArray := prog_11_method_4_code
def yX9_changeWay : MethodName := ⟨RX9, "changeWay", "(I)I"⟩
abbrev cX9_update : ByteArray := prog_11_method_5_code
def yX9_update : MethodName := ⟨RX9, "update", "()V"⟩
abbrev cX9_largeAt : ByteArray := prog_11_method_6_code
def yX9_largeAt : MethodName := ⟨RX9, "largeAt", "(II)I"⟩
abbrev cX9_buttonsAt : ByteArray := prog_11_method_7_code
def yX9_buttonsAt : MethodName := ⟨RX9, "buttonsAt", "(II)I"⟩
abbrev cX9_amountAt : ByteArray := prog_11_method_8_code
def yX9_amountAt : MethodName := ⟨RX9, "amountAt", "(II)I"⟩
abbrev cX9_wornBy : ByteArray := prog_11_method_9_code
def yX9_wornBy : MethodName := ⟨RX9, "wornBy", "(II)I"⟩
abbrev cX9_suitingBits : ByteArray := prog_11_method_10_code
def yX9_suitingBits : MethodName := ⟨RX9, "suitingBits", "(II)I"⟩
abbrev cX9_suitedBits : ByteArray := prog_11_method_11_code
def yX9_suitedBits : MethodName := ⟨RX9, "suitedBits", "(II)I"⟩
abbrev cX9_bareBits : ByteArray := prog_11_method_12_code
def yX9_bareBits : MethodName := ⟨RX9, "bareBits", "(I)I"⟩
abbrev cX9_goneBits : ByteArray := prog_11_method_13_code
def yX9_goneBits : MethodName := ⟨RX9, "goneBits", "(I)I"⟩
abbrev cX9_frozenBits : ByteArray := prog_11_method_14_code
def yX9_frozenBits : MethodName := ⟨RX9, "frozenBits", "(I)I"⟩
abbrev cX9_firstFreeze : ByteArray := prog_11_method_15_code
def yX9_firstFreeze : MethodName := ⟨RX9, "firstFreeze", "()I"⟩
abbrev cX9_changesOf : ByteArray := prog_11_method_16_code
def yX9_changesOf : MethodName := ⟨RX9, "changesOf", "(I)I"⟩
abbrev cX9_leastClothFor : ByteArray := prog_11_method_17_code
def yX9_leastClothFor : MethodName := ⟨RX9, "leastClothFor", "(II)I"⟩
abbrev cX9_drawWeather : ByteArray := prog_11_method_18_code
def yX9_drawWeather : MethodName := ⟨RX9, "drawWeather", "(II)V"⟩
abbrev cX9_dressedInWeather : ByteArray := prog_11_method_19_code
def yX9_dressedInWeather : MethodName := ⟨RX9, "dressedInWeather", "()I"⟩
abbrev cX9_largeInWeather : ByteArray := prog_11_method_20_code
def yX9_largeInWeather : MethodName := ⟨RX9, "largeInWeather", "(I)I"⟩
abbrev cX9_isIn : ByteArray := prog_11_method_21_code
def yX9_isIn : MethodName := ⟨RX9, "isIn", "(II)Z"⟩
abbrev cX9_largeTogether : ByteArray := prog_11_method_22_code
def yX9_largeTogether : MethodName := ⟨RX9, "largeTogether", "(II)I"⟩
abbrev cX9_clothTogether : ByteArray := prog_11_method_23_code
def yX9_clothTogether : MethodName := ⟨RX9, "clothTogether", "(II)I"⟩
abbrev cX9_hang : ByteArray := prog_11_method_24_code
def yX9_hang : MethodName := ⟨RX9, "hang", "(I)V"⟩
abbrev cX9_age : ByteArray := prog_11_method_25_code
def yX9_age : MethodName := ⟨RX9, "age", "(III)V"⟩
abbrev cX9_shrinkage : ByteArray := prog_11_method_26_code
def yX9_shrinkage : MethodName := ⟨RX9, "shrinkage", "(II)I"⟩
abbrev cX9_eatenOf : ByteArray := prog_11_method_27_code
def yX9_eatenOf : MethodName := ⟨RX9, "eatenOf", "(I)I"⟩
abbrev cX9_measure : ByteArray := prog_11_method_28_code
def yX9_measure : MethodName := ⟨RX9, "measure", "(I)V"⟩
abbrev cX9_dress : ByteArray := prog_11_method_29_code
def yX9_dress : MethodName := ⟨RX9, "dress", "(I)I"⟩
abbrev cX9_dressOne : ByteArray := prog_11_method_30_code
def yX9_dressOne : MethodName := ⟨RX9, "dressOne", "(III)I"⟩
def RX10 : String := "StatueCoats"
def TX10 : u_T := fun k => match k with
  | 0 => ("StatueCoats", "statues", "LStatueCoats$Statues;", true)
  | 1 => ("StatueCoats", "clothes", "LStatueCoats$Clothes;", true)
  | 2 => ("StatueCoats", "seasons", "LStatueCoats$Seasons;", true)
  | 3 => ("StatueCoats", "texts", "[LStatueCoats$Text;", true)
  | 4 => ("StatueCoats", "wardrobe", "LStatueCoats$Wardrobe;", true)
  | 5 => ("StatueCoats", "dressing", "LStatueCoats$Dressing;", true)
  | 6 => ("StatueCoats", "ladder", "LStatueCoats$Ladder;", true)
  | 7 => ("StatueCoats", "night", "LStatueCoats$Night;", true)
  | 8 => ("StatueCoats", "chances", "LStatueCoats$Chances;", true)
  | 9 => ("StatueCoats", "sheets", "[LStatueCoats$Sheet;", true)
  | _ => ("StatueCoats", "latestFinding", "I", false)
def tyX10 : Nat → FieldType := fun k => match k with
  | 0 => .object "StatueCoats$Statues"
  | 1 => .object "StatueCoats$Clothes"
  | 2 => .object "StatueCoats$Seasons"
  | 3 => .array (.object "StatueCoats$Text")
  | 4 => .object "StatueCoats$Wardrobe"
  | 5 => .object "StatueCoats$Dressing"
  | 6 => .object "StatueCoats$Ladder"
  | 7 => .object "StatueCoats$Night"
  | 8 => .object "StatueCoats$Chances"
  | 9 => .array (.object "StatueCoats$Sheet")
  | _ => .int
abbrev wsX100 : List Cond := u_ws RX10 TX10 11
theorem nmX10 : ∀ a, a < 11 → ∀ b, b < 11 → a ≠ b → (TX10 a).2.1 ≠ (TX10 b).2.1 := by decide +kernel
theorem tyX10_ok : ∀ k, k < 11 → parseFieldDescriptor (TX10 k).2.2.1 = some (tyX10 k) := by decide +kernel
abbrev cX10_init : ByteArray := prog_1_method_1_code
def yX10_init : MethodName := ⟨RX10, "<init>", "()V"⟩
abbrev cX10_type : ByteArray := prog_1_method_2_code
def yX10_type : MethodName := ⟨RX10, "type", "(II)I"⟩
abbrev cX10_wipe : ByteArray := prog_1_method_3_code
def yX10_wipe : MethodName := ⟨RX10, "wipe", "(I)I"⟩
abbrev cX10_undo : ByteArray := prog_1_method_4_code
def yX10_undo : MethodName := ⟨RX10, "undo", "(I)I"⟩
abbrev cX10_fault : ByteArray := prog_1_method_5_code
def yX10_fault : MethodName := ⟨RX10, "fault", "(I)I"⟩
abbrev cX10_statue : ByteArray := prog_1_method_6_code
def yX10_statue : MethodName := ⟨RX10, "statue", "(II)I"⟩
abbrev cX10_cloth : ByteArray := prog_1_method_7_code
def yX10_cloth : MethodName := ⟨RX10, "cloth", "(II)I"⟩
abbrev cX10_season : ByteArray := prog_1_method_8_code
def yX10_season : MethodName := ⟨RX10, "season", "(I)I"⟩
abbrev cX10_set : ByteArray := prog_1_method_9_code
def yX10_set : MethodName := ⟨RX10, "set", "(II)I"⟩
abbrev cX10_is : ByteArray := prog_1_method_10_code
def yX10_is : MethodName := ⟨RX10, "is", "(III)I"⟩
abbrev cX10_fits : ByteArray := prog_1_method_11_code
def yX10_fits : MethodName := ⟨RX10, "fits", "(II)I"⟩
abbrev cX10_wears : ByteArray := prog_1_method_12_code
def yX10_wears : MethodName := ⟨RX10, "wears", "(II)I"⟩
abbrev cX10_behind : ByteArray := prog_1_method_13_code
def yX10_behind : MethodName := ⟨RX10, "behind", "(II)I"⟩
abbrev cX10_freezes : ByteArray := prog_1_method_14_code
def yX10_freezes : MethodName := ⟨RX10, "freezes", "(I)I"⟩
abbrev cX10_changes : ByteArray := prog_1_method_15_code
def yX10_changes : MethodName := ⟨RX10, "changes", "(I)I"⟩
abbrev cX10_most : ByteArray := prog_1_method_16_code
def yX10_most : MethodName := ⟨RX10, "most", "(II)I"⟩
abbrev cX10_round : ByteArray := prog_1_method_17_code
def yX10_round : MethodName := ⟨RX10, "round", "(III)I"⟩
abbrev cX10_sew : ByteArray := prog_1_method_18_code
def yX10_sew : MethodName := ⟨RX10, "sew", "(II)I"⟩
abbrev cX10_seen : ByteArray := prog_1_method_19_code
def yX10_seen : MethodName := ⟨RX10, "seen", "(III)I"⟩
abbrev cX10_forget : ByteArray := prog_1_method_20_code
def yX10_forget : MethodName := ⟨RX10, "forget", "()I"⟩
abbrev cX10_read : ByteArray := prog_1_method_21_code
def yX10_read : MethodName := ⟨RX10, "read", "(I)I"⟩
abbrev cX10_swapped : ByteArray := prog_1_method_22_code
def yX10_swapped : MethodName := ⟨RX10, "swapped", "(I)I"⟩
abbrev cX10_look : ByteArray := prog_1_method_23_code
def yX10_look : MethodName := ⟨RX10, "look", "(I)I"⟩
abbrev cX10_moths : ByteArray := prog_1_method_24_code
def yX10_moths : MethodName := ⟨RX10, "moths", "(IIII)J"⟩
abbrev cX10_weather : ByteArray := prog_1_method_25_code
def yX10_weather : MethodName := ⟨RX10, "weather", "(III)I"⟩
abbrev cX10_sheet : ByteArray := prog_1_method_26_code
def yX10_sheet : MethodName := ⟨RX10, "sheet", "(III)I"⟩
abbrev cX10_lose : ByteArray := prog_1_method_27_code
def yX10_lose : MethodName := ⟨RX10, "lose", "(I)I"⟩
abbrev cX10_lay : ByteArray := prog_1_method_28_code
def yX10_lay : MethodName := ⟨RX10, "lay", "(IIII)I"⟩
abbrev cX10_get : ByteArray := prog_1_method_29_code
def yX10_get : MethodName := ⟨RX10, "get", "(III)I"⟩
abbrev cX10_copy : ByteArray := prog_1_method_30_code
def yX10_copy : MethodName := ⟨RX10, "copy", "(IIIII)I"⟩
abbrev cX10_write : ByteArray := prog_1_method_31_code
def yX10_write : MethodName := ⟨RX10, "write", "(II)I"⟩
abbrev cX10_count : ByteArray := prog_1_method_32_code
def yX10_count : MethodName := ⟨RX10, "count", "(I)I"⟩
abbrev cX10_digest : ByteArray := prog_1_method_33_code
def yX10_digest : MethodName := ⟨RX10, "digest", "()J"⟩
abbrev cX10_withStatues : ByteArray := prog_1_method_34_code
def yX10_withStatues : MethodName := ⟨RX10, "withStatues", "(J)J"⟩
abbrev cX10_withClothes : ByteArray := prog_1_method_35_code
def yX10_withClothes : MethodName := ⟨RX10, "withClothes", "(J)J"⟩
abbrev cX10_withAllBehind : ByteArray := prog_1_method_36_code
def yX10_withAllBehind : MethodName := ⟨RX10, "withAllBehind", "(JI)J"⟩
abbrev cX10_textAt : ByteArray := prog_1_method_37_code
def yX10_textAt : MethodName := ⟨RX10, "textAt", "(I)LStatueCoats$Text;"⟩
abbrev cX10_sheetAt : ByteArray := prog_1_method_38_code
def yX10_sheetAt : MethodName := ⟨RX10, "sheetAt", "(I)LStatueCoats$Sheet;"⟩
abbrev cX10_isBehind : ByteArray := prog_1_method_39_code
def yX10_isBehind : MethodName := ⟨RX10, "isBehind", "(I)Z"⟩
abbrev cX10_isForm : ByteArray := prog_1_method_40_code
def yX10_isForm : MethodName := ⟨RX10, "isForm", "(I)Z"⟩
abbrev cX10_leastOf : ByteArray := prog_1_method_41_code
def yX10_leastOf : MethodName := ⟨RX10, "leastOf", "(I)I"⟩
abbrev cX10_found : ByteArray := prog_1_method_42_code
def yX10_found : MethodName := ⟨RX10, "found", "(I)I"⟩
abbrev cX10_itemFinding : ByteArray := prog_1_method_43_code
def yX10_itemFinding : MethodName := ⟨RX10, "itemFinding", "(LStatueCoats$Sheet;II)I"⟩
def RX11 : String := "StatueCoatsModel"
def TX11 : u_T := fun k => match k with
  | 0 => ("StatueCoatsModel", "forms", "[I", true)
  | 1 => ("StatueCoatsModel", "sizes", "[I", true)
  | 2 => ("StatueCoatsModel", "items", "[I", true)
  | 3 => ("StatueCoatsModel", "moved", "[I", true)
  | 4 => ("StatueCoatsModel", "latest", "I", false)
  | 5 => ("StatueCoatsModel", "bytes", "[I", true)
  | 6 => ("StatueCoatsModel", "typed", "[I", true)
  | 7 => ("StatueCoatsModel", "at", "I", false)
  | 8 => ("StatueCoatsModel", "many", "[I", true)
  | 9 => ("StatueCoatsModel", "statue", "[I", true)
  | 10 => ("StatueCoatsModel", "cloth", "[I", true)
  | 11 => ("StatueCoatsModel", "month", "[I", true)
  | 12 => ("StatueCoatsModel", "settings", "[I", true)
  | 13 => ("StatueCoatsModel", "now", "[I", true)
  | 14 => ("StatueCoatsModel", "worn", "[I", true)
  | 15 => ("StatueCoatsModel", "most", "[I", true)
  | 16 => ("StatueCoatsModel", "row", "[I", true)
  | 17 => ("StatueCoatsModel", "bestRow", "[I", true)
  | 18 => ("StatueCoatsModel", "sights", "I", false)
  | 19 => ("StatueCoatsModel", "sight", "[I", true)
  | 20 => ("StatueCoatsModel", "wore", "[I", true)
  | _ => ("StatueCoatsModel", "alike", "[I", true)
def tyX11 : Nat → FieldType := fun k => match k with
  | 0 => .array .int
  | 1 => .array .int
  | 2 => .array .int
  | 3 => .array .int
  | 4 => .int
  | 5 => .array .int
  | 6 => .array .int
  | 7 => .int
  | 8 => .array .int
  | 9 => .array .int
  | 10 => .array .int
  | 11 => .array .int
  | 12 => .array .int
  | 13 => .array .int
  | 14 => .array .int
  | 15 => .array .int
  | 16 => .array .int
  | 17 => .array .int
  | 18 => .int
  | 19 => .array .int
  | 20 => .array .int
  | _ => .array .int
abbrev wsX110 : List Cond := u_ws RX11 TX11 22
theorem nmX11 : ∀ a, a < 22 → ∀ b, b < 22 → a ≠ b → (TX11 a).2.1 ≠ (TX11 b).2.1 := by decide +kernel
theorem tyX11_ok : ∀ k, k < 22 → parseFieldDescriptor (TX11 k).2.2.1 = some (tyX11 k) := by decide +kernel
abbrev cX11_init : ByteArray := prog_13_method_1_code
def yX11_init : MethodName := ⟨RX11, "<init>", "()V"⟩
abbrev cX11_in : ByteArray := prog_13_method_3_code
def yX11_in : MethodName := ⟨RX11, "in", "(JJJ)Z"⟩
abbrev cX11_no : ByteArray := prog_13_method_4_code
def yX11_no : MethodName := ⟨RX11, "no", "(I)J"⟩
abbrev cX11_isTwo : ByteArray := prog_13_method_5_code
def yX11_isTwo : MethodName := ⟨RX11, "isTwo", "(I)Z"⟩
abbrev cX11_isIn : ByteArray := prog_13_method_6_code
def yX11_isIn : MethodName := ⟨RX11, "isIn", "(II)Z"⟩
abbrev cX11_ones : ByteArray := prog_13_method_7_code
def yX11_ones : MethodName := ⟨RX11, "ones", "(I)I"⟩
abbrev cX11_lesser : ByteArray := prog_13_method_8_code
def yX11_lesser : MethodName := ⟨RX11, "lesser", "(II)I"⟩
abbrev cX11_amount : ByteArray := prog_13_method_9_code
def yX11_amount : MethodName := ⟨RX11, "amount", "(I)I"⟩
abbrev cX11_part : ByteArray := prog_13_method_10_code
def yX11_part : MethodName := ⟨RX11, "part", "(JJI)J"⟩
abbrev cX11_finds : ByteArray := prog_13_method_11_code
def yX11_finds : MethodName := ⟨RX11, "finds", "(I)I"⟩
abbrev cX11_isSheet : ByteArray := prog_13_method_12_code
def yX11_isSheet : MethodName := ⟨RX11, "isSheet", "(I)Z"⟩
abbrev cX11_sheet : ByteArray := prog_13_method_13_code
def yX11_sheet : MethodName := ⟨RX11, "sheet", "(III)I"⟩
abbrev cX11_lose : ByteArray := prog_13_method_14_code
def yX11_lose : MethodName := ⟨RX11, "lose", "(I)I"⟩
abbrev cX11_lacks : ByteArray := prog_13_method_15_code
def yX11_lacks : MethodName := ⟨RX11, "lacks", "(III)I"⟩
abbrev cX11_cut : ByteArray := prog_13_method_16_code
def yX11_cut : MethodName := ⟨RX11, "cut", "(II)I"⟩
abbrev cX11_lay : ByteArray := prog_13_method_17_code
def yX11_lay : MethodName := ⟨RX11, "lay", "(IIII)I"⟩
abbrev cX11_get : ByteArray := prog_13_method_18_code
def yX11_get : MethodName := ⟨RX11, "get", "(III)I"⟩
abbrev cX11_copy : ByteArray := prog_13_method_19_code
def yX11_copy : MethodName := ⟨RX11, "copy", "(IIIII)I"⟩
abbrev cX11_isText : ByteArray := prog_13_method_20_code
def yX11_isText : MethodName := ⟨RX11, "isText", "(I)Z"⟩
abbrev cX11_type : ByteArray := prog_13_method_21_code
def yX11_type : MethodName := ⟨RX11, "type", "(II)I"⟩
abbrev cX11_wipe : ByteArray := prog_13_method_22_code
def yX11_wipe : MethodName := ⟨RX11, "wipe", "(I)I"⟩
abbrev cX11_undo : ByteArray := prog_13_method_23_code
def yX11_undo : MethodName := ⟨RX11, "undo", "(I)I"⟩
abbrev cX11_figureOf : ByteArray := prog_13_method_24_code
def yX11_figureOf : MethodName := ⟨RX11, "figureOf", "(II)I"⟩
abbrev cX11_statueOf : ByteArray := prog_13_method_25_code
def yX11_statueOf : MethodName := ⟨RX11, "statueOf", "(II)I"⟩
abbrev cX11_stuffOf : ByteArray := prog_13_method_26_code
def yX11_stuffOf : MethodName := ⟨RX11, "stuffOf", "(I)I"⟩
abbrev cX11_readsStatue : ByteArray := prog_13_method_27_code
def yX11_readsStatue : MethodName := ⟨RX11, "readsStatue", "()Z"⟩
abbrev cX11_readsCloth : ByteArray := prog_13_method_28_code
def yX11_readsCloth : MethodName := ⟨RX11, "readsCloth", "()Z"⟩
abbrev cX11_readsThing : ByteArray := prog_13_method_29_code
def yX11_readsThing : MethodName := ⟨RX11, "readsThing", "(I)Z"⟩
abbrev cX11_readsMonths : ByteArray := prog_13_method_30_code
def yX11_readsMonths : MethodName := ⟨RX11, "readsMonths", "()I"⟩
abbrev cX11_readsText : ByteArray := prog_13_method_31_code
def yX11_readsText : MethodName := ⟨RX11, "readsText", "(I)I"⟩
abbrev cX11_reads : ByteArray := prog_13_method_32_code
def yX11_reads : MethodName := ⟨RX11, "reads", "()V"⟩
abbrev cX11_fault : ByteArray := prog_13_method_33_code
def yX11_fault : MethodName := ⟨RX11, "fault", "(I)I"⟩
abbrev cX11_isStatue : ByteArray := prog_13_method_34_code
def yX11_isStatue : MethodName := ⟨RX11, "isStatue", "(I)Z"⟩
abbrev cX11_isCloth : ByteArray := prog_13_method_35_code
def yX11_isCloth : MethodName := ⟨RX11, "isCloth", "(I)Z"⟩
abbrev cX11_areMonths : ByteArray := prog_13_method_36_code
def yX11_areMonths : MethodName := ⟨RX11, "areMonths", "(I)Z"⟩
abbrev cX11_statue : ByteArray := prog_13_method_37_code
def yX11_statue : MethodName := ⟨RX11, "statue", "(II)I"⟩
abbrev cX11_cloth : ByteArray := prog_13_method_38_code
def yX11_cloth : MethodName := ⟨RX11, "cloth", "(II)I"⟩
abbrev cX11_season : ByteArray := prog_13_method_39_code
def yX11_season : MethodName := ⟨RX11, "season", "(I)I"⟩
abbrev cX11_set : ByteArray := prog_13_method_40_code
def yX11_set : MethodName := ⟨RX11, "set", "(II)I"⟩
abbrev cX11_begins : ByteArray := prog_13_method_41_code
def yX11_begins : MethodName := ⟨RX11, "begins", "()V"⟩
abbrev cX11_eats : ByteArray := prog_13_method_42_code
def yX11_eats : MethodName := ⟨RX11, "eats", "(I)I"⟩
abbrev cX11_weathers : ByteArray := prog_13_method_43_code
def yX11_weathers : MethodName := ⟨RX11, "weathers", "(II)V"⟩
abbrev cX11_goes : ByteArray := prog_13_method_44_code
def yX11_goes : MethodName := ⟨RX11, "goes", "(I)V"⟩
abbrev cX11_fitsNow : ByteArray := prog_13_method_45_code
def yX11_fitsNow : MethodName := ⟨RX11, "fitsNow", "(II)Z"⟩
abbrev cX11_dresses : ByteArray := prog_13_method_46_code
def yX11_dresses : MethodName := ⟨RX11, "dresses", "(II)I"⟩
abbrev cX11_tailors : ByteArray := prog_13_method_47_code
def yX11_tailors : MethodName := ⟨RX11, "tailors", "()V"⟩
abbrev cX11_lives : ByteArray := prog_13_method_48_code
def yX11_lives : MethodName := ⟨RX11, "lives", "(I)V"⟩
abbrev cX11_isOf : ByteArray := prog_13_method_49_code
def yX11_isOf : MethodName := ⟨RX11, "isOf", "(III)I"⟩
abbrev cX11_is : ByteArray := prog_13_method_50_code
def yX11_is : MethodName := ⟨RX11, "is", "(III)I"⟩
abbrev cX11_fitsOf : ByteArray := prog_13_method_51_code
def yX11_fitsOf : MethodName := ⟨RX11, "fitsOf", "(II)I"⟩
abbrev cX11_fits : ByteArray := prog_13_method_52_code
def yX11_fits : MethodName := ⟨RX11, "fits", "(II)I"⟩
abbrev cX11_wearsOf : ByteArray := prog_13_method_53_code
def yX11_wearsOf : MethodName := ⟨RX11, "wearsOf", "(II)I"⟩
abbrev cX11_wears : ByteArray := prog_13_method_54_code
def yX11_wears : MethodName := ⟨RX11, "wears", "(II)I"⟩
abbrev cX11_bareNow : ByteArray := prog_13_method_55_code
def yX11_bareNow : MethodName := ⟨RX11, "bareNow", "()I"⟩
abbrev cX11_behindOf : ByteArray := prog_13_method_56_code
def yX11_behindOf : MethodName := ⟨RX11, "behindOf", "(II)I"⟩
abbrev cX11_behind : ByteArray := prog_13_method_57_code
def yX11_behind : MethodName := ⟨RX11, "behind", "(II)I"⟩
abbrev cX11_freezesOf : ByteArray := prog_13_method_58_code
def yX11_freezesOf : MethodName := ⟨RX11, "freezesOf", "(I)I"⟩
abbrev cX11_freezes : ByteArray := prog_13_method_59_code
def yX11_freezes : MethodName := ⟨RX11, "freezes", "(I)I"⟩
abbrev cX11_changesOf : ByteArray := prog_13_method_60_code
def yX11_changesOf : MethodName := ⟨RX11, "changesOf", "(I)I"⟩
abbrev cX11_changes : ByteArray := prog_13_method_61_code
def yX11_changes : MethodName := ⟨RX11, "changes", "(I)I"⟩
abbrev cX11_mostOf : ByteArray := prog_13_method_62_code
def yX11_mostOf : MethodName := ⟨RX11, "mostOf", "(II)I"⟩
abbrev cX11_most : ByteArray := prog_13_method_63_code
def yX11_most : MethodName := ⟨RX11, "most", "(II)I"⟩
abbrev cX11_unfolds : ByteArray := prog_13_method_64_code
def yX11_unfolds : MethodName := ⟨RX11, "unfolds", "(II)V"⟩
abbrev cX11_roundOf : ByteArray := prog_13_method_65_code
def yX11_roundOf : MethodName := ⟨RX11, "roundOf", "(III)I"⟩
abbrev cX11_round : ByteArray := prog_13_method_66_code
def yX11_round : MethodName := ⟨RX11, "round", "(III)I"⟩
abbrev cX11_sewOf : ByteArray := prog_13_method_67_code
def yX11_sewOf : MethodName := ⟨RX11, "sewOf", "(II)I"⟩
abbrev cX11_sew : ByteArray := prog_13_method_68_code
def yX11_sew : MethodName := ⟨RX11, "sew", "(II)I"⟩
abbrev cX11_seen : ByteArray := prog_13_method_69_code
def yX11_seen : MethodName := ⟨RX11, "seen", "(III)I"⟩
abbrev cX11_forget : ByteArray := prog_13_method_70_code
def yX11_forget : MethodName := ⟨RX11, "forget", "()I"⟩
abbrev cX11_read : ByteArray := prog_13_method_71_code
def yX11_read : MethodName := ⟨RX11, "read", "(I)I"⟩
abbrev cX11_findAll : ByteArray := prog_13_method_72_code
def yX11_findAll : MethodName := ⟨RX11, "findAll", "()V"⟩
abbrev cX11_changed : ByteArray := prog_13_method_73_code
def yX11_changed : MethodName := ⟨RX11, "changed", "(III)I"⟩
abbrev cX11_isSeen : ByteArray := prog_13_method_74_code
def yX11_isSeen : MethodName := ⟨RX11, "isSeen", "(II)Z"⟩
abbrev cX11_swappedOf : ByteArray := prog_13_method_75_code
def yX11_swappedOf : MethodName := ⟨RX11, "swappedOf", "(I)I"⟩
abbrev cX11_swapped : ByteArray := prog_13_method_76_code
def yX11_swapped : MethodName := ⟨RX11, "swapped", "(I)I"⟩
abbrev cX11_mostAlike : ByteArray := prog_13_method_77_code
def yX11_mostAlike : MethodName := ⟨RX11, "mostAlike", "(II)I"⟩
abbrev cX11_lookOf : ByteArray := prog_13_method_78_code
def yX11_lookOf : MethodName := ⟨RX11, "lookOf", "(I)I"⟩
abbrev cX11_look : ByteArray := prog_13_method_79_code
def yX11_look : MethodName := ⟨RX11, "look", "(I)I"⟩
abbrev cX11_mothsOf : ByteArray := prog_13_method_80_code
def yX11_mothsOf : MethodName := ⟨RX11, "mothsOf", "(IIII)J"⟩
abbrev cX11_moths : ByteArray := prog_13_method_81_code
def yX11_moths : MethodName := ⟨RX11, "moths", "(IIII)J"⟩
abbrev cX11_weatherOf : ByteArray := prog_13_method_82_code
def yX11_weatherOf : MethodName := ⟨RX11, "weatherOf", "(III)I"⟩
abbrev cX11_weather : ByteArray := prog_13_method_83_code
def yX11_weather : MethodName := ⟨RX11, "weather", "(III)I"⟩
abbrev cX11_write : ByteArray := prog_13_method_84_code
def yX11_write : MethodName := ⟨RX11, "write", "(II)I"⟩
abbrev cX11_count : ByteArray := prog_13_method_85_code
def yX11_count : MethodName := ⟨RX11, "count", "(I)I"⟩
abbrev cX11_tellsMonths : ByteArray := prog_13_method_86_code
def yX11_tellsMonths : MethodName := ⟨RX11, "tellsMonths", "(JI)J"⟩
abbrev cX11_digest : ByteArray := prog_13_method_87_code
def yX11_digest : MethodName := ⟨RX11, "digest", "()J"⟩
def RJ6 : String := "java/lang/Integer"
def TJ6 : u_T := fun k => match k with
  | _ => ("", "", "", false)
def tyJ6 : Nat → FieldType := fun k => match k with
  | _ => .int
abbrev wsJ60 : List Cond := u_ws RJ6 TJ6 0
theorem nmJ6 : ∀ a, a < 0 → ∀ b, b < 0 → a ≠ b → (TJ6 a).2.1 ≠ (TJ6 b).2.1 := by decide +kernel
theorem tyJ6_ok : ∀ k, k < 0 → parseFieldDescriptor (TJ6 k).2.2.1 = some (tyJ6 k) := by decide +kernel
abbrev cJ6_bitCount_0f7a4 : ByteArray := prog_14_method_49_code
def yJ6_bitCount_0f7a4 : MethodName := ⟨RJ6, "bitCount", "(I)I"⟩
def RJ9 : String := "java/lang/Math"
def TJ9 : u_T := fun k => match k with
  | _ => ("", "", "", false)
def tyJ9 : Nat → FieldType := fun k => match k with
  | _ => .int
abbrev wsJ90 : List Cond := u_ws RJ9 TJ9 0
theorem nmJ9 : ∀ a, a < 0 → ∀ b, b < 0 → a ≠ b → (TJ9 a).2.1 ≠ (TJ9 b).2.1 := by decide +kernel
theorem tyJ9_ok : ∀ k, k < 0 → parseFieldDescriptor (TJ9 k).2.2.1 = some (tyJ9 k) := by decide +kernel
abbrev cJ9_abs_0f7a4 : ByteArray := prog_15_method_59_code
def yJ9_abs_0f7a4 : MethodName := ⟨RJ9, "abs", "(I)I"⟩
abbrev cJ9_max_7cf53 : ByteArray := prog_15_method_65_code
def yJ9_max_7cf53 : MethodName := ⟨RJ9, "max", "(II)I"⟩
abbrev cJ9_min_7cf53 : ByteArray := prog_15_method_69_code
def yJ9_min_7cf53 : MethodName := ⟨RJ9, "min", "(II)I"⟩
def RJ10 : String := "java/lang/System"
def TJ10 : u_T := fun k => match k with
  | _ => ("", "", "", false)
def tyJ10 : Nat → FieldType := fun k => match k with
  | _ => .int
abbrev wsJ100 : List Cond := u_ws RJ10 TJ10 0
theorem nmJ10 : ∀ a, a < 0 → ∀ b, b < 0 → a ≠ b → (TJ10 a).2.1 ≠ (TJ10 b).2.1 := by decide +kernel
theorem tyJ10_ok : ∀ k, k < 0 → parseFieldDescriptor (TJ10 k).2.2.1 = some (tyJ10 k) := by decide +kernel
def RL : String := "StatueCoatsLaw"
abbrev cL_law : ByteArray := code
def yL_law : MethodName := ⟨RL, "law", "([I)Z"⟩
abbrev vwCl : List vw_C := [(RX0, TX0, 5), (RX1, TX1, 5), (RX2, TX2, 4), (RX3, TX3, 7), (RX4, TX4, 10), (RX5, TX5, 5), (RX6, TX6, 3), (RX7, TX7, 5), (RX9, TX9, 11), (RX10, TX10, 11), (RX11, TX11, 22)]

/-! the tables' words and three more: 'judge' is private, whatever the class of the object (the printed list wants them, the tables have them not) -/
def yJu : MethodName := ⟨"StatueCoats$Text", "judge", "()V"⟩
def lwx : List Cond := [.selects "StatueCoats$Statues" yJu yJu, .selects "StatueCoats$Clothes" yJu yJu, .selects "StatueCoats$Seasons" yJu yJu] ++ lw_tbl
theorem ju_sel {C : String} {n : Nat} {s : State} {args : Array Value} (hins : (Cond.instantiable C n).before args s = true) (hpriv : (Cond.privateMethod yJu).before args s = true) (hinst : (Cond.instanceMethod yJu).before args s = true)
    (hsm : (Cond.sameMethod "StatueCoats$Text" "StatueCoats$Text" "judge" "()V").before args s = true) : (Cond.selects C yJu yJu).before args s = true := by
  obtain ⟨c, k, hc, hk, -, -, -, -⟩ := Cond.instantiable_spec hins
  obtain ⟨mk, methM, hnamed, hmethM, -, -⟩ := Cond.instanceMethod_spec hinst
  obtain ⟨ct, ckt, r, hct, hckt, hni, hf, hn⟩ := Cond.sameMethod_found hsm
  have hfound : s.methodFound? yJu.cls yJu.name yJu.desc = some mk := State.methodFound?_of_named hnamed ⟨by decide, by decide⟩
  have hcls : mk.cls = ct := Option.some.inj ((findClass_of_methodNamed hnamed).symm.trans hct)
  have hsel : selectMethod {} s.vm c mk = .method mk := selectMethod_private hmethM (Cond.privateMethod_at hpriv mk methM hnamed hmethM)
  simp only [Cond.before, Cond.holds, Cond.value, hc, hfound, hnamed, hsel, hcls, hckt]
  simp; exact hni
theorem lwx_ok {s : State} {args : Array Value} (h : ∀ w ∈ lw_tbl, w.before args s = true) : ∀ w ∈ lwx, w.before args s = true := by
  intro w hw
  rcases List.mem_append.mp hw with hw | hw
  · have hp := h _ (List.mem_of_getElem? (i := 392) (a := Cond.privateMethod yJu) (by decide +kernel))
    have hi := h _ (List.mem_of_getElem? (i := 393) (a := Cond.instanceMethod yJu) (by decide +kernel))
    have hs := h _ (List.mem_of_getElem? (i := 1378) (a := Cond.sameMethod "StatueCoats$Text" "StatueCoats$Text" "judge" "()V") (by decide +kernel))
    simp only [List.mem_cons, List.not_mem_nil, or_false] at hw
    rcases hw with rfl | rfl | rfl
    · exact ju_sel (h _ (List.mem_of_getElem? (i := 85) (a := Cond.instantiable "StatueCoats$Statues" 5) (by decide +kernel))) hp hi hs
    · exact ju_sel (h _ (List.mem_of_getElem? (i := 135) (a := Cond.instantiable "StatueCoats$Clothes" 5) (by decide +kernel))) hp hi hs
    · exact ju_sel (h _ (List.mem_of_getElem? (i := 147) (a := Cond.instantiable "StatueCoats$Seasons" 5) (by decide +kernel))) hp hi hs
  · exact h w hw
/-- the words that stay true whatever is resolved -/
def tTS : List Cond := lwx.filter goodWord
theorem tTS_at {w : Cond} (i : Nat) (h : lwx[i]? = some w) (hg : goodWord w = true) : w ∈ tTS := List.mem_filter.mpr ⟨List.mem_of_getElem? h, hg⟩
theorem tTS_all {ws : List Cond} (h : (ws.all fun w => decide (w ∈ lwx) && goodWord w) = true) : ∀ w ∈ ws, w ∈ tTS := fun w hw => by
  have h1 := List.all_eq_true.mp h w hw
  simp only [Bool.and_eq_true, decide_eq_true_eq] at h1
  exact List.mem_filter.mpr h1
theorem tTS_good : GoodIn tTS tTS := fun w hw => ⟨hw, good_of_word (List.mem_filter.mp hw).2⟩
theorem inX0 : ∀ w ∈ wsX00, w ∈ tTS := tTS_all (by decide +kernel)
theorem inX1 : ∀ w ∈ wsX10, w ∈ tTS := tTS_all (by decide +kernel)
theorem inX2 : ∀ w ∈ wsX20, w ∈ tTS := tTS_all (by decide +kernel)
theorem inX3 : ∀ w ∈ wsX30, w ∈ tTS := tTS_all (by decide +kernel)
theorem inX4 : ∀ w ∈ wsX40, w ∈ tTS := tTS_all (by decide +kernel)
theorem inX5 : ∀ w ∈ wsX50, w ∈ tTS := tTS_all (by decide +kernel)
theorem inX6 : ∀ w ∈ wsX60, w ∈ tTS := tTS_all (by decide +kernel)
theorem inX7 : ∀ w ∈ wsX70, w ∈ tTS := tTS_all (by decide +kernel)
theorem inX9 : ∀ w ∈ wsX90, w ∈ tTS := tTS_all (by decide +kernel)
theorem inX10 : ∀ w ∈ wsX100, w ∈ tTS := tTS_all (by decide +kernel)
theorem inX11 : ∀ w ∈ wsX110, w ∈ tTS := tTS_all (by decide +kernel)
