-- ===== PART A: goes FIRST, ahead of the names: the tables' words, and 'selects' of the private methods out of them =====
/-- a private method of a class that the tables say can be made, by its rows of tables_1 -/
def lw_okq (q : MethodName × Nat) : Prop := (q.1.cls ≠ "java/lang/invoke/MethodHandle" ∧ q.1.cls ≠ "java/lang/invoke/VarHandle") ∧ Cond.instantiable q.1.cls q.2 ∈ tables_1 ∧ Cond.privateMethod q.1 ∈ tables_1 ∧ Cond.instanceMethod q.1 ∈ tables_1
theorem lw_p0 : lw_okq (⟨"LilyQuarrels$Text", "findFault", "()I"⟩, 5) := ⟨⟨by decide +kernel, by decide +kernel⟩, List.mem_of_getElem? (i := 22) (by decide +kernel), List.mem_of_getElem? (i := 263) (by decide +kernel), List.mem_of_getElem? (i := 264) (by decide +kernel)⟩
theorem lw_p1 : lw_okq (⟨"LilyQuarrels$Text", "fits", "(II)Z"⟩, 5) := ⟨⟨by decide +kernel, by decide +kernel⟩, List.mem_of_getElem? (i := 22) (by decide +kernel), List.mem_of_getElem? (i := 267) (by decide +kernel), List.mem_of_getElem? (i := 268) (by decide +kernel)⟩
theorem lw_p2 : lw_okq (⟨"LilyQuarrels", "takeIn", "(I)V"⟩, 10) := ⟨⟨by decide +kernel, by decide +kernel⟩, List.mem_of_getElem? (i := 13) (by decide +kernel), List.mem_of_getElem? (i := 277) (by decide +kernel), List.mem_of_getElem? (i := 278) (by decide +kernel)⟩
theorem lw_p3 : lw_okq (⟨"LilyQuarrels", "forgetCourses", "()V"⟩, 10) := ⟨⟨by decide +kernel, by decide +kernel⟩, List.mem_of_getElem? (i := 13) (by decide +kernel), List.mem_of_getElem? (i := 298) (by decide +kernel), List.mem_of_getElem? (i := 299) (by decide +kernel)⟩
theorem lw_p4 : lw_okq (⟨"LilyQuarrels", "found", "(I)I"⟩, 10) := ⟨⟨by decide +kernel, by decide +kernel⟩, List.mem_of_getElem? (i := 13) (by decide +kernel), List.mem_of_getElem? (i := 366) (by decide +kernel), List.mem_of_getElem? (i := 367) (by decide +kernel)⟩
theorem lw_p5 : lw_okq (⟨"LilyQuarrels$Course", "clear", "()V"⟩, 14) := ⟨⟨by decide +kernel, by decide +kernel⟩, List.mem_of_getElem? (i := 117) (by decide +kernel), List.mem_of_getElem? (i := 378) (by decide +kernel), List.mem_of_getElem? (i := 379) (by decide +kernel)⟩
theorem lw_p6 : lw_okq (⟨"LilyQuarrels$Course", "pass", "(I)V"⟩, 14) := ⟨⟨by decide +kernel, by decide +kernel⟩, List.mem_of_getElem? (i := 117) (by decide +kernel), List.mem_of_getElem? (i := 387) (by decide +kernel), List.mem_of_getElem? (i := 388) (by decide +kernel)⟩
theorem lw_p7 : lw_okq (⟨"LilyQuarrels$Course", "waitFor", "(III)V"⟩, 14) := ⟨⟨by decide +kernel, by decide +kernel⟩, List.mem_of_getElem? (i := 117) (by decide +kernel), List.mem_of_getElem? (i := 406) (by decide +kernel), List.mem_of_getElem? (i := 407) (by decide +kernel)⟩
theorem lw_p8 : lw_okq (⟨"LilyQuarrels$Course", "strike", "(III)V"⟩, 14) := ⟨⟨by decide +kernel, by decide +kernel⟩, List.mem_of_getElem? (i := 117) (by decide +kernel), List.mem_of_getElem? (i := 410) (by decide +kernel), List.mem_of_getElem? (i := 411) (by decide +kernel)⟩
theorem lw_p9 : lw_okq (⟨"LilyQuarrels$Course", "settle", "(II)V"⟩, 14) := ⟨⟨by decide +kernel, by decide +kernel⟩, List.mem_of_getElem? (i := 117) (by decide +kernel), List.mem_of_getElem? (i := 414) (by decide +kernel), List.mem_of_getElem? (i := 415) (by decide +kernel)⟩
theorem lw_p10 : lw_okq (⟨"LilyQuarrels$Course", "keepGold", "(I)V"⟩, 14) := ⟨⟨by decide +kernel, by decide +kernel⟩, List.mem_of_getElem? (i := 117) (by decide +kernel), List.mem_of_getElem? (i := 418) (by decide +kernel), List.mem_of_getElem? (i := 419) (by decide +kernel)⟩
theorem lw_p11 : lw_okq (⟨"LilyQuarrels", "sparedEvents", "()I"⟩, 10) := ⟨⟨by decide +kernel, by decide +kernel⟩, List.mem_of_getElem? (i := 13) (by decide +kernel), List.mem_of_getElem? (i := 495) (by decide +kernel), List.mem_of_getElem? (i := 496) (by decide +kernel)⟩
theorem lw_p12 : lw_okq (⟨"LilyQuarrels", "peaceWith", "(I)I"⟩, 10) := ⟨⟨by decide +kernel, by decide +kernel⟩, List.mem_of_getElem? (i := 13) (by decide +kernel), List.mem_of_getElem? (i := 505) (by decide +kernel), List.mem_of_getElem? (i := 506) (by decide +kernel)⟩
theorem lw_p13 : lw_okq (⟨"LilyQuarrels", "fittingValues", "([IIII)I"⟩, 10) := ⟨⟨by decide +kernel, by decide +kernel⟩, List.mem_of_getElem? (i := 13) (by decide +kernel), List.mem_of_getElem? (i := 541) (by decide +kernel), List.mem_of_getElem? (i := 542) (by decide +kernel)⟩
theorem lw_p14 : lw_okq (⟨"LilyQuarrels", "tallyGold", "(I)V"⟩, 10) := ⟨⟨by decide +kernel, by decide +kernel⟩, List.mem_of_getElem? (i := 13) (by decide +kernel), List.mem_of_getElem? (i := 549) (by decide +kernel), List.mem_of_getElem? (i := 550) (by decide +kernel)⟩
theorem lw_p15 : lw_okq (⟨"LilyQuarrels", "mostAlike", "(I)I"⟩, 10) := ⟨⟨by decide +kernel, by decide +kernel⟩, List.mem_of_getElem? (i := 13) (by decide +kernel), List.mem_of_getElem? (i := 554) (by decide +kernel), List.mem_of_getElem? (i := 555) (by decide +kernel)⟩
def lw_privs_1 : List (MethodName × Nat) := [(⟨"LilyQuarrels$Text", "findFault", "()I"⟩, 5), (⟨"LilyQuarrels$Text", "fits", "(II)Z"⟩, 5), (⟨"LilyQuarrels", "takeIn", "(I)V"⟩, 10), (⟨"LilyQuarrels", "forgetCourses", "()V"⟩, 10), (⟨"LilyQuarrels", "found", "(I)I"⟩, 10), (⟨"LilyQuarrels$Course", "clear", "()V"⟩, 14), (⟨"LilyQuarrels$Course", "pass", "(I)V"⟩, 14), (⟨"LilyQuarrels$Course", "waitFor", "(III)V"⟩, 14), (⟨"LilyQuarrels$Course", "strike", "(III)V"⟩, 14), (⟨"LilyQuarrels$Course", "settle", "(II)V"⟩, 14), (⟨"LilyQuarrels$Course", "keepGold", "(I)V"⟩, 14), (⟨"LilyQuarrels", "sparedEvents", "()I"⟩, 10), (⟨"LilyQuarrels", "peaceWith", "(I)I"⟩, 10), (⟨"LilyQuarrels", "fittingValues", "([IIII)I"⟩, 10), (⟨"LilyQuarrels", "tallyGold", "(I)V"⟩, 10), (⟨"LilyQuarrels", "mostAlike", "(I)I"⟩, 10)]
theorem lw_r1 : ∀ q ∈ lw_privs_1, lw_okq q := List.forall_mem_cons.mpr ⟨lw_p0, List.forall_mem_cons.mpr ⟨lw_p1, List.forall_mem_cons.mpr ⟨lw_p2, List.forall_mem_cons.mpr ⟨lw_p3, List.forall_mem_cons.mpr ⟨lw_p4, List.forall_mem_cons.mpr ⟨lw_p5, List.forall_mem_cons.mpr ⟨lw_p6, List.forall_mem_cons.mpr ⟨lw_p7, List.forall_mem_cons.mpr ⟨lw_p8, List.forall_mem_cons.mpr ⟨lw_p9, List.forall_mem_cons.mpr ⟨lw_p10, List.forall_mem_cons.mpr ⟨lw_p11, List.forall_mem_cons.mpr ⟨lw_p12, List.forall_mem_cons.mpr ⟨lw_p13, List.forall_mem_cons.mpr ⟨lw_p14, List.forall_mem_cons.mpr ⟨lw_p15, fun _ h => absurd h List.not_mem_nil⟩⟩⟩⟩⟩⟩⟩⟩⟩⟩⟩⟩⟩⟩⟩⟩
theorem lw_p16 : lw_okq (⟨"LilyQuarrels", "weightOf", "(II)J"⟩, 10) := ⟨⟨by decide +kernel, by decide +kernel⟩, List.mem_of_getElem? (i := 13) (by decide +kernel), List.mem_of_getElem? (i := 564) (by decide +kernel), List.mem_of_getElem? (i := 565) (by decide +kernel)⟩
theorem lw_p17 : lw_okq (⟨"LilyQuarrels", "digestQuarrel", "(JI)J"⟩, 10) := ⟨⟨by decide +kernel, by decide +kernel⟩, List.mem_of_getElem? (i := 13) (by decide +kernel), List.mem_of_getElem? (i := 644) (by decide +kernel), List.mem_of_getElem? (i := 645) (by decide +kernel)⟩
theorem lw_p18 : lw_okq (⟨"LilyQuarrels", "digestPerson", "(JI)J"⟩, 10) := ⟨⟨by decide +kernel, by decide +kernel⟩, List.mem_of_getElem? (i := 13) (by decide +kernel), List.mem_of_getElem? (i := 656) (by decide +kernel), List.mem_of_getElem? (i := 657) (by decide +kernel)⟩
theorem lw_p19 : lw_okq (⟨"LilyQuarrelsModel", "finds", "(I)I"⟩, 37) := ⟨⟨by decide +kernel, by decide +kernel⟩, List.mem_of_getElem? (i := 674) (by decide +kernel), List.mem_of_getElem? (i := 804) (by decide +kernel), List.mem_of_getElem? (i := 805) (by decide +kernel)⟩
theorem lw_p20 : lw_okq (⟨"LilyQuarrelsModel", "lacks", "(III)I"⟩, 37) := ⟨⟨by decide +kernel, by decide +kernel⟩, List.mem_of_getElem? (i := 674) (by decide +kernel), List.mem_of_getElem? (i := 816) (by decide +kernel), List.mem_of_getElem? (i := 817) (by decide +kernel)⟩
theorem lw_p21 : lw_okq (⟨"LilyQuarrelsModel", "readsText", "(I)I"⟩, 37) := ⟨⟨by decide +kernel, by decide +kernel⟩, List.mem_of_getElem? (i := 674) (by decide +kernel), List.mem_of_getElem? (i := 852) (by decide +kernel), List.mem_of_getElem? (i := 853) (by decide +kernel)⟩
theorem lw_p22 : lw_okq (⟨"LilyQuarrelsModel", "readsPeople", "()I"⟩, 37) := ⟨⟨by decide +kernel, by decide +kernel⟩, List.mem_of_getElem? (i := 674) (by decide +kernel), List.mem_of_getElem? (i := 856) (by decide +kernel), List.mem_of_getElem? (i := 857) (by decide +kernel)⟩
theorem lw_p23 : lw_okq (⟨"LilyQuarrelsModel", "readsQuarrels", "()I"⟩, 37) := ⟨⟨by decide +kernel, by decide +kernel⟩, List.mem_of_getElem? (i := 674) (by decide +kernel), List.mem_of_getElem? (i := 865) (by decide +kernel), List.mem_of_getElem? (i := 866) (by decide +kernel)⟩
theorem lw_p24 : lw_okq (⟨"LilyQuarrelsModel", "readsGlass", "()I"⟩, 37) := ⟨⟨by decide +kernel, by decide +kernel⟩, List.mem_of_getElem? (i := 674) (by decide +kernel), List.mem_of_getElem? (i := 876) (by decide +kernel), List.mem_of_getElem? (i := 877) (by decide +kernel)⟩
theorem lw_p25 : lw_okq (⟨"LilyQuarrelsModel", "grows", "(I)I"⟩, 37) := ⟨⟨by decide +kernel, by decide +kernel⟩, List.mem_of_getElem? (i := 674) (by decide +kernel), List.mem_of_getElem? (i := 880) (by decide +kernel), List.mem_of_getElem? (i := 881) (by decide +kernel)⟩
theorem lw_p26 : lw_okq (⟨"LilyQuarrelsModel", "isPerson", "(I)Z"⟩, 37) := ⟨⟨by decide +kernel, by decide +kernel⟩, List.mem_of_getElem? (i := 674) (by decide +kernel), List.mem_of_getElem? (i := 888) (by decide +kernel), List.mem_of_getElem? (i := 889) (by decide +kernel)⟩
theorem lw_p27 : lw_okq (⟨"LilyQuarrelsModel", "isQuarrel", "(I)Z"⟩, 37) := ⟨⟨by decide +kernel, by decide +kernel⟩, List.mem_of_getElem? (i := 674) (by decide +kernel), List.mem_of_getElem? (i := 899) (by decide +kernel), List.mem_of_getElem? (i := 900) (by decide +kernel)⟩
theorem lw_p28 : lw_okq (⟨"LilyQuarrelsModel", "find", "()V"⟩, 37) := ⟨⟨by decide +kernel, by decide +kernel⟩, List.mem_of_getElem? (i := 674) (by decide +kernel), List.mem_of_getElem? (i := 928) (by decide +kernel), List.mem_of_getElem? (i := 929) (by decide +kernel)⟩
theorem lw_p29 : lw_okq (⟨"LilyQuarrelsModel", "lives", "()V"⟩, 37) := ⟨⟨by decide +kernel, by decide +kernel⟩, List.mem_of_getElem? (i := 674) (by decide +kernel), List.mem_of_getElem? (i := 932) (by decide +kernel), List.mem_of_getElem? (i := 933) (by decide +kernel)⟩
theorem lw_p30 : lw_okq (⟨"LilyQuarrelsModel", "passes", "(I)V"⟩, 37) := ⟨⟨by decide +kernel, by decide +kernel⟩, List.mem_of_getElem? (i := 674) (by decide +kernel), List.mem_of_getElem? (i := 936) (by decide +kernel), List.mem_of_getElem? (i := 937) (by decide +kernel)⟩
theorem lw_p31 : lw_okq (⟨"LilyQuarrelsModel", "many", "(II)I"⟩, 37) := ⟨⟨by decide +kernel, by decide +kernel⟩, List.mem_of_getElem? (i := 674) (by decide +kernel), List.mem_of_getElem? (i := 940) (by decide +kernel), List.mem_of_getElem? (i := 941) (by decide +kernel)⟩
def lw_privs_2 : List (MethodName × Nat) := [(⟨"LilyQuarrels", "weightOf", "(II)J"⟩, 10), (⟨"LilyQuarrels", "digestQuarrel", "(JI)J"⟩, 10), (⟨"LilyQuarrels", "digestPerson", "(JI)J"⟩, 10), (⟨"LilyQuarrelsModel", "finds", "(I)I"⟩, 37), (⟨"LilyQuarrelsModel", "lacks", "(III)I"⟩, 37), (⟨"LilyQuarrelsModel", "readsText", "(I)I"⟩, 37), (⟨"LilyQuarrelsModel", "readsPeople", "()I"⟩, 37), (⟨"LilyQuarrelsModel", "readsQuarrels", "()I"⟩, 37), (⟨"LilyQuarrelsModel", "readsGlass", "()I"⟩, 37), (⟨"LilyQuarrelsModel", "grows", "(I)I"⟩, 37), (⟨"LilyQuarrelsModel", "isPerson", "(I)Z"⟩, 37), (⟨"LilyQuarrelsModel", "isQuarrel", "(I)Z"⟩, 37), (⟨"LilyQuarrelsModel", "find", "()V"⟩, 37), (⟨"LilyQuarrelsModel", "lives", "()V"⟩, 37), (⟨"LilyQuarrelsModel", "passes", "(I)V"⟩, 37), (⟨"LilyQuarrelsModel", "many", "(II)I"⟩, 37)]
theorem lw_r2 : ∀ q ∈ lw_privs_2, lw_okq q := List.forall_mem_cons.mpr ⟨lw_p16, List.forall_mem_cons.mpr ⟨lw_p17, List.forall_mem_cons.mpr ⟨lw_p18, List.forall_mem_cons.mpr ⟨lw_p19, List.forall_mem_cons.mpr ⟨lw_p20, List.forall_mem_cons.mpr ⟨lw_p21, List.forall_mem_cons.mpr ⟨lw_p22, List.forall_mem_cons.mpr ⟨lw_p23, List.forall_mem_cons.mpr ⟨lw_p24, List.forall_mem_cons.mpr ⟨lw_p25, List.forall_mem_cons.mpr ⟨lw_p26, List.forall_mem_cons.mpr ⟨lw_p27, List.forall_mem_cons.mpr ⟨lw_p28, List.forall_mem_cons.mpr ⟨lw_p29, List.forall_mem_cons.mpr ⟨lw_p30, List.forall_mem_cons.mpr ⟨lw_p31, fun _ h => absurd h List.not_mem_nil⟩⟩⟩⟩⟩⟩⟩⟩⟩⟩⟩⟩⟩⟩⟩⟩
theorem lw_p32 : lw_okq (⟨"LilyQuarrelsModel", "does", "(II)V"⟩, 37) := ⟨⟨by decide +kernel, by decide +kernel⟩, List.mem_of_getElem? (i := 674) (by decide +kernel), List.mem_of_getElem? (i := 953) (by decide +kernel), List.mem_of_getElem? (i := 954) (by decide +kernel)⟩
theorem lw_p33 : lw_okq (⟨"LilyQuarrelsModel", "standsBy", "(III)I"⟩, 37) := ⟨⟨by decide +kernel, by decide +kernel⟩, List.mem_of_getElem? (i := 674) (by decide +kernel), List.mem_of_getElem? (i := 957) (by decide +kernel), List.mem_of_getElem? (i := 958) (by decide +kernel)⟩
theorem lw_p34 : lw_okq (⟨"LilyQuarrelsModel", "atBy", "(III)I"⟩, 37) := ⟨⟨by decide +kernel, by decide +kernel⟩, List.mem_of_getElem? (i := 674) (by decide +kernel), List.mem_of_getElem? (i := 965) (by decide +kernel), List.mem_of_getElem? (i := 966) (by decide +kernel)⟩
theorem lw_p35 : lw_okq (⟨"LilyQuarrelsModel", "stockOf", "(II)I"⟩, 37) := ⟨⟨by decide +kernel, by decide +kernel⟩, List.mem_of_getElem? (i := 674) (by decide +kernel), List.mem_of_getElem? (i := 973) (by decide +kernel), List.mem_of_getElem? (i := 974) (by decide +kernel)⟩
theorem lw_p36 : lw_okq (⟨"LilyQuarrelsModel", "mistBy", "(I)I"⟩, 37) := ⟨⟨by decide +kernel, by decide +kernel⟩, List.mem_of_getElem? (i := 674) (by decide +kernel), List.mem_of_getElem? (i := 985) (by decide +kernel), List.mem_of_getElem? (i := 986) (by decide +kernel)⟩
theorem lw_p37 : lw_okq (⟨"LilyQuarrelsModel", "goldestNow", "()I"⟩, 37) := ⟨⟨by decide +kernel, by decide +kernel⟩, List.mem_of_getElem? (i := 674) (by decide +kernel), List.mem_of_getElem? (i := 997) (by decide +kernel), List.mem_of_getElem? (i := 998) (by decide +kernel)⟩
theorem lw_p38 : lw_okq (⟨"LilyQuarrelsModel", "peaceNow", "()I"⟩, 37) := ⟨⟨by decide +kernel, by decide +kernel⟩, List.mem_of_getElem? (i := 674) (by decide +kernel), List.mem_of_getElem? (i := 1005) (by decide +kernel), List.mem_of_getElem? (i := 1006) (by decide +kernel)⟩
theorem lw_p39 : lw_okq (⟨"LilyQuarrelsModel", "chinOf", "(II)I"⟩, 37) := ⟨⟨by decide +kernel, by decide +kernel⟩, List.mem_of_getElem? (i := 674) (by decide +kernel), List.mem_of_getElem? (i := 1013) (by decide +kernel), List.mem_of_getElem? (i := 1014) (by decide +kernel)⟩
theorem lw_p40 : lw_okq (⟨"LilyQuarrelsModel", "changes", "(I)V"⟩, 37) := ⟨⟨by decide +kernel, by decide +kernel⟩, List.mem_of_getElem? (i := 674) (by decide +kernel), List.mem_of_getElem? (i := 1017) (by decide +kernel), List.mem_of_getElem? (i := 1018) (by decide +kernel)⟩
theorem lw_p41 : lw_okq (⟨"LilyQuarrelsModel", "dawnOf", "(II)I"⟩, 37) := ⟨⟨by decide +kernel, by decide +kernel⟩, List.mem_of_getElem? (i := 674) (by decide +kernel), List.mem_of_getElem? (i := 1025) (by decide +kernel), List.mem_of_getElem? (i := 1026) (by decide +kernel)⟩
theorem lw_p42 : lw_okq (⟨"LilyQuarrelsModel", "mondayBy", "(I)I"⟩, 37) := ⟨⟨by decide +kernel, by decide +kernel⟩, List.mem_of_getElem? (i := 674) (by decide +kernel), List.mem_of_getElem? (i := 1036) (by decide +kernel), List.mem_of_getElem? (i := 1037) (by decide +kernel)⟩
theorem lw_p43 : lw_okq (⟨"LilyQuarrelsModel", "spareBy", "(I)I"⟩, 37) := ⟨⟨by decide +kernel, by decide +kernel⟩, List.mem_of_getElem? (i := 674) (by decide +kernel), List.mem_of_getElem? (i := 1045) (by decide +kernel), List.mem_of_getElem? (i := 1046) (by decide +kernel)⟩
theorem lw_p44 : lw_okq (⟨"LilyQuarrelsModel", "isSpared", "(I)Z"⟩, 37) := ⟨⟨by decide +kernel, by decide +kernel⟩, List.mem_of_getElem? (i := 674) (by decide +kernel), List.mem_of_getElem? (i := 1049) (by decide +kernel), List.mem_of_getElem? (i := 1050) (by decide +kernel)⟩
theorem lw_p45 : lw_okq (⟨"LilyQuarrelsModel", "neverNow", "()I"⟩, 37) := ⟨⟨by decide +kernel, by decide +kernel⟩, List.mem_of_getElem? (i := 674) (by decide +kernel), List.mem_of_getElem? (i := 1067) (by decide +kernel), List.mem_of_getElem? (i := 1068) (by decide +kernel)⟩
theorem lw_p46 : lw_okq (⟨"LilyQuarrelsModel", "isSeen", "()Z"⟩, 37) := ⟨⟨by decide +kernel, by decide +kernel⟩, List.mem_of_getElem? (i := 674) (by decide +kernel), List.mem_of_getElem? (i := 1071) (by decide +kernel), List.mem_of_getElem? (i := 1072) (by decide +kernel)⟩
theorem lw_p47 : lw_okq (⟨"LilyQuarrelsModel", "wasOf", "(II)I"⟩, 37) := ⟨⟨by decide +kernel, by decide +kernel⟩, List.mem_of_getElem? (i := 674) (by decide +kernel), List.mem_of_getElem? (i := 1079) (by decide +kernel), List.mem_of_getElem? (i := 1080) (by decide +kernel)⟩
def lw_privs_3 : List (MethodName × Nat) := [(⟨"LilyQuarrelsModel", "does", "(II)V"⟩, 37), (⟨"LilyQuarrelsModel", "standsBy", "(III)I"⟩, 37), (⟨"LilyQuarrelsModel", "atBy", "(III)I"⟩, 37), (⟨"LilyQuarrelsModel", "stockOf", "(II)I"⟩, 37), (⟨"LilyQuarrelsModel", "mistBy", "(I)I"⟩, 37), (⟨"LilyQuarrelsModel", "goldestNow", "()I"⟩, 37), (⟨"LilyQuarrelsModel", "peaceNow", "()I"⟩, 37), (⟨"LilyQuarrelsModel", "chinOf", "(II)I"⟩, 37), (⟨"LilyQuarrelsModel", "changes", "(I)V"⟩, 37), (⟨"LilyQuarrelsModel", "dawnOf", "(II)I"⟩, 37), (⟨"LilyQuarrelsModel", "mondayBy", "(I)I"⟩, 37), (⟨"LilyQuarrelsModel", "spareBy", "(I)I"⟩, 37), (⟨"LilyQuarrelsModel", "isSpared", "(I)Z"⟩, 37), (⟨"LilyQuarrelsModel", "neverNow", "()I"⟩, 37), (⟨"LilyQuarrelsModel", "isSeen", "()Z"⟩, 37), (⟨"LilyQuarrelsModel", "wasOf", "(II)I"⟩, 37)]
theorem lw_r3 : ∀ q ∈ lw_privs_3, lw_okq q := List.forall_mem_cons.mpr ⟨lw_p32, List.forall_mem_cons.mpr ⟨lw_p33, List.forall_mem_cons.mpr ⟨lw_p34, List.forall_mem_cons.mpr ⟨lw_p35, List.forall_mem_cons.mpr ⟨lw_p36, List.forall_mem_cons.mpr ⟨lw_p37, List.forall_mem_cons.mpr ⟨lw_p38, List.forall_mem_cons.mpr ⟨lw_p39, List.forall_mem_cons.mpr ⟨lw_p40, List.forall_mem_cons.mpr ⟨lw_p41, List.forall_mem_cons.mpr ⟨lw_p42, List.forall_mem_cons.mpr ⟨lw_p43, List.forall_mem_cons.mpr ⟨lw_p44, List.forall_mem_cons.mpr ⟨lw_p45, List.forall_mem_cons.mpr ⟨lw_p46, List.forall_mem_cons.mpr ⟨lw_p47, fun _ h => absurd h List.not_mem_nil⟩⟩⟩⟩⟩⟩⟩⟩⟩⟩⟩⟩⟩⟩⟩⟩
theorem lw_p48 : lw_okq (⟨"LilyQuarrelsModel", "sortOf", "(I)I"⟩, 37) := ⟨⟨by decide +kernel, by decide +kernel⟩, List.mem_of_getElem? (i := 674) (by decide +kernel), List.mem_of_getElem? (i := 1083) (by decide +kernel), List.mem_of_getElem? (i := 1084) (by decide +kernel)⟩
theorem lw_p49 : lw_okq (⟨"LilyQuarrelsModel", "tempersOf", "(I)I"⟩, 37) := ⟨⟨by decide +kernel, by decide +kernel⟩, List.mem_of_getElem? (i := 674) (by decide +kernel), List.mem_of_getElem? (i := 1087) (by decide +kernel), List.mem_of_getElem? (i := 1088) (by decide +kernel)⟩
theorem lw_p50 : lw_okq (⟨"LilyQuarrelsModel", "askOf", "(I)I"⟩, 37) := ⟨⟨by decide +kernel, by decide +kernel⟩, List.mem_of_getElem? (i := 674) (by decide +kernel), List.mem_of_getElem? (i := 1095) (by decide +kernel), List.mem_of_getElem? (i := 1096) (by decide +kernel)⟩
theorem lw_p51 : lw_okq (⟨"LilyQuarrelsModel", "alike", "(II)I"⟩, 37) := ⟨⟨by decide +kernel, by decide +kernel⟩, List.mem_of_getElem? (i := 674) (by decide +kernel), List.mem_of_getElem? (i := 1099) (by decide +kernel), List.mem_of_getElem? (i := 1100) (by decide +kernel)⟩
theorem lw_p52 : lw_okq (⟨"LilyQuarrelsModel", "chanceOf", "(III)J"⟩, 37) := ⟨⟨by decide +kernel, by decide +kernel⟩, List.mem_of_getElem? (i := 674) (by decide +kernel), List.mem_of_getElem? (i := 1108) (by decide +kernel), List.mem_of_getElem? (i := 1109) (by decide +kernel)⟩
theorem lw_p53 : lw_okq (⟨"LilyQuarrelsModel", "yearsOf", "(III)I"⟩, 37) := ⟨⟨by decide +kernel, by decide +kernel⟩, List.mem_of_getElem? (i := 674) (by decide +kernel), List.mem_of_getElem? (i := 1124) (by decide +kernel), List.mem_of_getElem? (i := 1125) (by decide +kernel)⟩
theorem lw_p54 : lw_okq (⟨"LilyQuarrelsModel", "lot", "(I)I"⟩, 37) := ⟨⟨by decide +kernel, by decide +kernel⟩, List.mem_of_getElem? (i := 674) (by decide +kernel), List.mem_of_getElem? (i := 1128) (by decide +kernel), List.mem_of_getElem? (i := 1129) (by decide +kernel)⟩
theorem lw_p55 : lw_okq (⟨"LilyQuarrelsModel", "allGold", "()I"⟩, 37) := ⟨⟨by decide +kernel, by decide +kernel⟩, List.mem_of_getElem? (i := 674) (by decide +kernel), List.mem_of_getElem? (i := 1133) (by decide +kernel), List.mem_of_getElem? (i := 1134) (by decide +kernel)⟩
theorem lw_p56 : lw_okq (⟨"LilyQuarrelsModel", "tellsQuarrel", "(JI)J"⟩, 37) := ⟨⟨by decide +kernel, by decide +kernel⟩, List.mem_of_getElem? (i := 674) (by decide +kernel), List.mem_of_getElem? (i := 1152) (by decide +kernel), List.mem_of_getElem? (i := 1153) (by decide +kernel)⟩
theorem lw_p57 : lw_okq (⟨"LilyQuarrelsModel", "tellsStand", "(JII)J"⟩, 37) := ⟨⟨by decide +kernel, by decide +kernel⟩, List.mem_of_getElem? (i := 674) (by decide +kernel), List.mem_of_getElem? (i := 1156) (by decide +kernel), List.mem_of_getElem? (i := 1157) (by decide +kernel)⟩
theorem lw_p58 : lw_okq (⟨"LilyQuarrelsModel", "tellsPerson", "(JI)J"⟩, 37) := ⟨⟨by decide +kernel, by decide +kernel⟩, List.mem_of_getElem? (i := 674) (by decide +kernel), List.mem_of_getElem? (i := 1160) (by decide +kernel), List.mem_of_getElem? (i := 1161) (by decide +kernel)⟩
theorem lw_p59 : lw_okq (⟨"LilyQuarrelsModel", "tellsDay", "(JII)J"⟩, 37) := ⟨⟨by decide +kernel, by decide +kernel⟩, List.mem_of_getElem? (i := 674) (by decide +kernel), List.mem_of_getElem? (i := 1164) (by decide +kernel), List.mem_of_getElem? (i := 1165) (by decide +kernel)⟩
def lw_privs_4 : List (MethodName × Nat) := [(⟨"LilyQuarrelsModel", "sortOf", "(I)I"⟩, 37), (⟨"LilyQuarrelsModel", "tempersOf", "(I)I"⟩, 37), (⟨"LilyQuarrelsModel", "askOf", "(I)I"⟩, 37), (⟨"LilyQuarrelsModel", "alike", "(II)I"⟩, 37), (⟨"LilyQuarrelsModel", "chanceOf", "(III)J"⟩, 37), (⟨"LilyQuarrelsModel", "yearsOf", "(III)I"⟩, 37), (⟨"LilyQuarrelsModel", "lot", "(I)I"⟩, 37), (⟨"LilyQuarrelsModel", "allGold", "()I"⟩, 37), (⟨"LilyQuarrelsModel", "tellsQuarrel", "(JI)J"⟩, 37), (⟨"LilyQuarrelsModel", "tellsStand", "(JII)J"⟩, 37), (⟨"LilyQuarrelsModel", "tellsPerson", "(JI)J"⟩, 37), (⟨"LilyQuarrelsModel", "tellsDay", "(JII)J"⟩, 37)]
theorem lw_r4 : ∀ q ∈ lw_privs_4, lw_okq q := List.forall_mem_cons.mpr ⟨lw_p48, List.forall_mem_cons.mpr ⟨lw_p49, List.forall_mem_cons.mpr ⟨lw_p50, List.forall_mem_cons.mpr ⟨lw_p51, List.forall_mem_cons.mpr ⟨lw_p52, List.forall_mem_cons.mpr ⟨lw_p53, List.forall_mem_cons.mpr ⟨lw_p54, List.forall_mem_cons.mpr ⟨lw_p55, List.forall_mem_cons.mpr ⟨lw_p56, List.forall_mem_cons.mpr ⟨lw_p57, List.forall_mem_cons.mpr ⟨lw_p58, List.forall_mem_cons.mpr ⟨lw_p59, fun _ h => absurd h List.not_mem_nil⟩⟩⟩⟩⟩⟩⟩⟩⟩⟩⟩⟩
def lw_privs : List (MethodName × Nat) := lw_privs_1 ++ (lw_privs_2 ++ (lw_privs_3 ++ (lw_privs_4)))
def lw_tbl : List Cond := k2_sels lw_privs ++ tables_1
theorem lw_privs_ok : ∀ q ∈ lw_privs, lw_okq q := by
  show ∀ q ∈ lw_privs_1 ++ (lw_privs_2 ++ (lw_privs_3 ++ (lw_privs_4))), lw_okq q
  exact List.forall_mem_append.mpr ⟨lw_r1, List.forall_mem_append.mpr ⟨lw_r2, List.forall_mem_append.mpr ⟨lw_r3, lw_r4⟩⟩⟩
def RX0 : String := "LilyQuarrels$Course"
def TX0 : u_T := fun k => match k with
  | 0 => ("LilyQuarrels$Course", "hill", "LLilyQuarrels$Hill;", true)
  | 1 => ("LilyQuarrels$Course", "today", "I", false)
  | 2 => ("LilyQuarrels$Course", "lilies", "I", false)
  | 3 => ("LilyQuarrels$Course", "waits", "I", false)
  | 4 => ("LilyQuarrels$Course", "mistDay", "I", false)
  | 5 => ("LilyQuarrels$Course", "mistPerson", "I", false)
  | 6 => ("LilyQuarrels$Course", "gold", "[I", true)
  | 7 => ("LilyQuarrels$Course", "timesStruck", "[I", true)
  | 8 => ("LilyQuarrels$Course", "timesStriking", "[I", true)
  | 9 => ("LilyQuarrels$Course", "heat", "[I", true)
  | 10 => ("LilyQuarrels$Course", "blows", "[I", true)
  | 11 => ("LilyQuarrels$Course", "waitDay", "[I", true)
  | 12 => ("LilyQuarrels$Course", "endDay", "[I", true)
  | _ => ("LilyQuarrels$Course", "goldBehind", "[I", true)
def tyX0 : Nat → FieldType := fun k => match k with
  | 0 => .object "LilyQuarrels$Hill"
  | 1 => .int
  | 2 => .int
  | 3 => .int
  | 4 => .int
  | 5 => .int
  | 6 => .array .int
  | 7 => .array .int
  | 8 => .array .int
  | 9 => .array .int
  | 10 => .array .int
  | 11 => .array .int
  | 12 => .array .int
  | _ => .array .int
abbrev wsX00 : List Cond := u_ws RX0 TX0 14
theorem nmX0 : ∀ a, a < 14 → ∀ b, b < 14 → a ≠ b → (TX0 a).2.1 ≠ (TX0 b).2.1 := by decide +kernel
theorem tyX0_ok : ∀ k, k < 14 → parseFieldDescriptor (TX0 k).2.2.1 = some (tyX0 k) := by decide +kernel
abbrev cX0_init : ByteArray := prog_2_method_1_code
def yX0_init : MethodName := ⟨RX0, "<init>", "(LLilyQuarrels$Hill;)V"⟩
abbrev cX0_restart : ByteArray := prog_2_method_2_code
def yX0_restart : MethodName := ⟨RX0, "restart", "()V"⟩
abbrev cX0_runTo : ByteArray := prog_2_method_3_code
def yX0_runTo : MethodName := ⟨RX0, "runTo", "(I)V"⟩
abbrev cX0_runAnew : ByteArray := prog_2_method_4_code
def yX0_runAnew : MethodName := ⟨RX0, "runAnew", "()V"⟩
abbrev cX0_clear : ByteArray := prog_2_method_5_code
def yX0_clear : MethodName := ⟨RX0, "clear", "()V"⟩
abbrev cX0_pass : ByteArray := prog_2_method_6_code
def yX0_pass : MethodName := ⟨RX0, "pass", "(I)V"⟩
abbrev cX0_waitFor : ByteArray := prog_2_method_7_code
def yX0_waitFor : MethodName := ⟨RX0, "waitFor", "(III)V"⟩
abbrev cX0_strike : ByteArray := prog_2_method_8_code
def yX0_strike : MethodName := ⟨RX0, "strike", "(III)V"⟩
abbrev cX0_settle : ByteArray := prog_2_method_9_code
def yX0_settle : MethodName := ⟨RX0, "settle", "(II)V"⟩
abbrev cX0_keepGold : ByteArray := prog_2_method_10_code
def yX0_keepGold : MethodName := ⟨RX0, "keepGold", "(I)V"⟩
abbrev cX0_goldOn : ByteArray := prog_2_method_11_code
def yX0_goldOn : MethodName := ⟨RX0, "goldOn", "(II)I"⟩
abbrev cX0_allGold : ByteArray := prog_2_method_12_code
def yX0_allGold : MethodName := ⟨RX0, "allGold", "()I"⟩
abbrev cX0_stateOf : ByteArray := prog_2_method_13_code
def yX0_stateOf : MethodName := ⟨RX0, "stateOf", "(I)I"⟩
abbrev cX0_openQuarrels : ByteArray := prog_2_method_14_code
def yX0_openQuarrels : MethodName := ⟨RX0, "openQuarrels", "()I"⟩
abbrev cX0_endedBits : ByteArray := prog_2_method_15_code
def yX0_endedBits : MethodName := ⟨RX0, "endedBits", "()I"⟩
def RX1 : String := "LilyQuarrels$Hill"
def TX1 : u_T := fun k => match k with
  | 0 => ("LilyQuarrels$Hill", "people", "I", false)
  | 1 => ("LilyQuarrels$Hill", "sort", "[I", true)
  | 2 => ("LilyQuarrels$Hill", "temper", "[I", true)
  | 3 => ("LilyQuarrels$Hill", "quarrels", "I", false)
  | 4 => ("LilyQuarrels$Hill", "first", "[I", true)
  | 5 => ("LilyQuarrels$Hill", "whom", "[I", true)
  | 6 => ("LilyQuarrels$Hill", "begin", "[I", true)
  | 7 => ("LilyQuarrels$Hill", "cut", "[I", true)
  | 8 => ("LilyQuarrels$Hill", "monday", "I", false)
  | 9 => ("LilyQuarrels$Hill", "events", "I", false)
  | 10 => ("LilyQuarrels$Hill", "eventKind", "[I", true)
  | 11 => ("LilyQuarrels$Hill", "eventDay", "[I", true)
  | _ => ("LilyQuarrels$Hill", "present", "I", false)
def tyX1 : Nat → FieldType := fun k => match k with
  | 0 => .int
  | 1 => .array .int
  | 2 => .array .int
  | 3 => .int
  | 4 => .array .int
  | 5 => .array .int
  | 6 => .array .int
  | 7 => .array .int
  | 8 => .int
  | 9 => .int
  | 10 => .array .int
  | 11 => .array .int
  | _ => .int
abbrev wsX10 : List Cond := u_ws RX1 TX1 13
theorem nmX1 : ∀ a, a < 13 → ∀ b, b < 13 → a ≠ b → (TX1 a).2.1 ≠ (TX1 b).2.1 := by decide +kernel
theorem tyX1_ok : ∀ k, k < 13 → parseFieldDescriptor (TX1 k).2.2.1 = some (tyX1 k) := by decide +kernel
abbrev cX1_init : ByteArray := prog_3_method_1_code
def yX1_init : MethodName := ⟨RX1, "<init>", "()V"⟩
abbrev cX1_takePeople : ByteArray := prog_3_method_2_code
def yX1_takePeople : MethodName := ⟨RX1, "takePeople", "(LLilyQuarrels$Text;)V"⟩
abbrev cX1_takeQuarrels : ByteArray := prog_3_method_3_code
def yX1_takeQuarrels : MethodName := ⟨RX1, "takeQuarrels", "(LLilyQuarrels$Text;)V"⟩
abbrev cX1_takeGlass : ByteArray := prog_3_method_4_code
def yX1_takeGlass : MethodName := ⟨RX1, "takeGlass", "(LLilyQuarrels$Text;)V"⟩
abbrev cX1_cutByLots : ByteArray := prog_3_method_5_code
def yX1_cutByLots : MethodName := ⟨RX1, "cutByLots", "(II)V"⟩
abbrev cX1_mayBeEvent : ByteArray := prog_3_method_6_code
def yX1_mayBeEvent : MethodName := ⟨RX1, "mayBeEvent", "(II)Z"⟩
abbrev cX1_addEvent : ByteArray := prog_3_method_7_code
def yX1_addEvent : MethodName := ⟨RX1, "addEvent", "(II)V"⟩
abbrev cX1_dropEvent : ByteArray := prog_3_method_8_code
def yX1_dropEvent : MethodName := ⟨RX1, "dropEvent", "()V"⟩
abbrev cX1_allEvents : ByteArray := prog_3_method_9_code
def yX1_allEvents : MethodName := ⟨RX1, "allEvents", "()I"⟩
abbrev cX1_eventsOn : ByteArray := prog_3_method_10_code
def yX1_eventsOn : MethodName := ⟨RX1, "eventsOn", "(II)I"⟩
abbrev cX1_liliesOn : ByteArray := prog_3_method_11_code
def yX1_liliesOn : MethodName := ⟨RX1, "liliesOn", "(I)I"⟩
abbrev cX1_turnAbout : ByteArray := prog_3_method_12_code
def yX1_turnAbout : MethodName := ⟨RX1, "turnAbout", "(I)V"⟩
abbrev cX1_isVoid : ByteArray := prog_3_method_13_code
def yX1_isVoid : MethodName := ⟨RX1, "isVoid", "(I)Z"⟩
abbrev cX1_earnestBits : ByteArray := prog_3_method_14_code
def yX1_earnestBits : MethodName := ⟨RX1, "earnestBits", "()I"⟩
def RX2 : String := "LilyQuarrels$Sheet"
def TX2 : u_T := fun k => match k with
  | 0 => ("LilyQuarrels$Sheet", "form", "I", false)
  | 1 => ("LilyQuarrels$Sheet", "length", "I", false)
  | _ => ("LilyQuarrels$Sheet", "items", "[I", true)
def tyX2 : Nat → FieldType := fun k => match k with
  | 0 => .int
  | 1 => .int
  | _ => .array .int
abbrev wsX20 : List Cond := u_ws RX2 TX2 3
theorem nmX2 : ∀ a, a < 3 → ∀ b, b < 3 → a ≠ b → (TX2 a).2.1 ≠ (TX2 b).2.1 := by decide +kernel
theorem tyX2_ok : ∀ k, k < 3 → parseFieldDescriptor (TX2 k).2.2.1 = some (tyX2 k) := by decide +kernel
abbrev cX2_init : ByteArray := prog_4_method_1_code
def yX2_init : MethodName := ⟨RX2, "<init>", "()V"⟩
abbrev cX2_isLost : ByteArray := prog_4_method_2_code
def yX2_isLost : MethodName := ⟨RX2, "isLost", "()Z"⟩
abbrev cX2_renew : ByteArray := prog_4_method_3_code
def yX2_renew : MethodName := ⟨RX2, "renew", "(II)V"⟩
abbrev cX2_findingOf : ByteArray := prog_4_method_4_code
def yX2_findingOf : MethodName := ⟨RX2, "findingOf", "(II)I"⟩
abbrev cX2_hasSpan : ByteArray := prog_4_method_5_code
def yX2_hasSpan : MethodName := ⟨RX2, "hasSpan", "(II)Z"⟩
abbrev cX2_put : ByteArray := prog_4_method_6_code
def yX2_put : MethodName := ⟨RX2, "put", "(II)V"⟩
def RX3 : String := "LilyQuarrels$Sightings"
def TX3 : u_T := fun k => match k with
  | 0 => ("LilyQuarrels$Sightings", "size", "I", false)
  | 1 => ("LilyQuarrels$Sightings", "days", "[I", true)
  | 2 => ("LilyQuarrels$Sightings", "persons", "[I", true)
  | _ => ("LilyQuarrels$Sightings", "golds", "[I", true)
def tyX3 : Nat → FieldType := fun k => match k with
  | 0 => .int
  | 1 => .array .int
  | 2 => .array .int
  | _ => .array .int
abbrev wsX30 : List Cond := u_ws RX3 TX3 4
theorem nmX3 : ∀ a, a < 4 → ∀ b, b < 4 → a ≠ b → (TX3 a).2.1 ≠ (TX3 b).2.1 := by decide +kernel
theorem tyX3_ok : ∀ k, k < 4 → parseFieldDescriptor (TX3 k).2.2.1 = some (tyX3 k) := by decide +kernel
abbrev cX3_init : ByteArray := prog_5_method_1_code
def yX3_init : MethodName := ⟨RX3, "<init>", "()V"⟩
abbrev cX3_add : ByteArray := prog_5_method_2_code
def yX3_add : MethodName := ⟨RX3, "add", "(III)V"⟩
abbrev cX3_fit : ByteArray := prog_5_method_3_code
def yX3_fit : MethodName := ⟨RX3, "fit", "(LLilyQuarrels$Course;)Z"⟩
def RX4 : String := "LilyQuarrels$Text"
def TX4 : u_T := fun k => match k with
  | 0 => ("LilyQuarrels$Text", "kind", "I", true)
  | 1 => ("LilyQuarrels$Text", "stride", "I", true)
  | 2 => ("LilyQuarrels$Text", "bytes", "[I", true)
  | 3 => ("LilyQuarrels$Text", "length", "I", false)
  | _ => ("LilyQuarrels$Text", "faultPlace", "I", false)
def tyX4 : Nat → FieldType := fun k => match k with
  | 0 => .int
  | 1 => .int
  | 2 => .array .int
  | 3 => .int
  | _ => .int
abbrev wsX40 : List Cond := u_ws RX4 TX4 5
theorem nmX4 : ∀ a, a < 5 → ∀ b, b < 5 → a ≠ b → (TX4 a).2.1 ≠ (TX4 b).2.1 := by decide +kernel
theorem tyX4_ok : ∀ k, k < 5 → parseFieldDescriptor (TX4 k).2.2.1 = some (tyX4 k) := by decide +kernel
abbrev cX4_init : ByteArray := prog_6_method_1_code
def yX4_init : MethodName := ⟨RX4, "<init>", "(III)V"⟩
abbrev cX4_isFull : ByteArray := prog_6_method_2_code
def yX4_isFull : MethodName := ⟨RX4, "isFull", "()Z"⟩
abbrev cX4_append : ByteArray := prog_6_method_3_code
def yX4_append : MethodName := ⟨RX4, "append", "(I)V"⟩
abbrev cX4_cutTo : ByteArray := prog_6_method_4_code
def yX4_cutTo : MethodName := ⟨RX4, "cutTo", "(I)V"⟩
abbrev cX4_soundLength : ByteArray := prog_6_method_5_code
def yX4_soundLength : MethodName := ⟨RX4, "soundLength", "()I"⟩
abbrev cX4_findFault : ByteArray := prog_6_method_6_code
def yX4_findFault : MethodName := ⟨RX4, "findFault", "()I"⟩
abbrev cX4_fits : ByteArray := prog_6_method_7_code
def yX4_fits : MethodName := ⟨RX4, "fits", "(II)Z"⟩
abbrev cX4_isAmong : ByteArray := prog_6_method_8_code
def yX4_isAmong : MethodName := ⟨RX4, "isAmong", "(III)Z"⟩
abbrev cX4_sortOf : ByteArray := prog_6_method_9_code
def yX4_sortOf : MethodName := ⟨RX4, "sortOf", "(I)I"⟩
def RX5 : String := "LilyQuarrels"
def TX5 : u_T := fun k => match k with
  | 0 => ("LilyQuarrels", "texts", "[LLilyQuarrels$Text;", true)
  | 1 => ("LilyQuarrels", "hill", "LLilyQuarrels$Hill;", true)
  | 2 => ("LilyQuarrels", "plain", "LLilyQuarrels$Course;", true)
  | 3 => ("LilyQuarrels", "trial", "LLilyQuarrels$Course;", true)
  | 4 => ("LilyQuarrels", "peaceByEvents", "[I", true)
  | 5 => ("LilyQuarrels", "peaceIsOld", "Z", false)
  | 6 => ("LilyQuarrels", "sightings", "LLilyQuarrels$Sightings;", true)
  | 7 => ("LilyQuarrels", "goldTally", "[I", true)
  | 8 => ("LilyQuarrels", "sheets", "[LLilyQuarrels$Sheet;", true)
  | _ => ("LilyQuarrels", "latestFinding", "I", false)
def tyX5 : Nat → FieldType := fun k => match k with
  | 0 => .array (.object "LilyQuarrels$Text")
  | 1 => .object "LilyQuarrels$Hill"
  | 2 => .object "LilyQuarrels$Course"
  | 3 => .object "LilyQuarrels$Course"
  | 4 => .array .int
  | 5 => .boolean
  | 6 => .object "LilyQuarrels$Sightings"
  | 7 => .array .int
  | 8 => .array (.object "LilyQuarrels$Sheet")
  | _ => .int
abbrev wsX50 : List Cond := u_ws RX5 TX5 10
theorem nmX5 : ∀ a, a < 10 → ∀ b, b < 10 → a ≠ b → (TX5 a).2.1 ≠ (TX5 b).2.1 := by decide +kernel
theorem tyX5_ok : ∀ k, k < 10 → parseFieldDescriptor (TX5 k).2.2.1 = some (tyX5 k) := by decide +kernel
abbrev cX5_init : ByteArray := prog_1_method_1_code
def yX5_init : MethodName := ⟨RX5, "<init>", "()V"⟩
abbrev cX5_type : ByteArray := prog_1_method_2_code
def yX5_type : MethodName := ⟨RX5, "type", "(II)I"⟩
abbrev cX5_wipe : ByteArray := prog_1_method_3_code
def yX5_wipe : MethodName := ⟨RX5, "wipe", "(I)I"⟩
abbrev cX5_undo : ByteArray := prog_1_method_4_code
def yX5_undo : MethodName := ⟨RX5, "undo", "(I)I"⟩
abbrev cX5_fault : ByteArray := prog_1_method_5_code
def yX5_fault : MethodName := ⟨RX5, "fault", "(I)I"⟩
abbrev cX5_person : ByteArray := prog_1_method_6_code
def yX5_person : MethodName := ⟨RX5, "person", "(II)I"⟩
abbrev cX5_quarrel : ByteArray := prog_1_method_7_code
def yX5_quarrel : MethodName := ⟨RX5, "quarrel", "(II)I"⟩
abbrev cX5_glass : ByteArray := prog_1_method_8_code
def yX5_glass : MethodName := ⟨RX5, "glass", "(I)I"⟩
abbrev cX5_event : ByteArray := prog_1_method_9_code
def yX5_event : MethodName := ⟨RX5, "event", "(II)I"⟩
abbrev cX5_back : ByteArray := prog_1_method_10_code
def yX5_back : MethodName := ⟨RX5, "back", "()I"⟩
abbrev cX5_read : ByteArray := prog_1_method_11_code
def yX5_read : MethodName := ⟨RX5, "read", "(I)I"⟩
abbrev cX5_stands : ByteArray := prog_1_method_12_code
def yX5_stands : MethodName := ⟨RX5, "stands", "(III)I"⟩
abbrev cX5_at : ByteArray := prog_1_method_13_code
def yX5_at : MethodName := ⟨RX5, "at", "(III)I"⟩
abbrev cX5_stock : ByteArray := prog_1_method_14_code
def yX5_stock : MethodName := ⟨RX5, "stock", "(II)I"⟩
abbrev cX5_over : ByteArray := prog_1_method_15_code
def yX5_over : MethodName := ⟨RX5, "over", "(I)I"⟩
abbrev cX5_mist : ByteArray := prog_1_method_16_code
def yX5_mist : MethodName := ⟨RX5, "mist", "(I)I"⟩
abbrev cX5_waste : ByteArray := prog_1_method_17_code
def yX5_waste : MethodName := ⟨RX5, "waste", "()I"⟩
abbrev cX5_goldest : ByteArray := prog_1_method_18_code
def yX5_goldest : MethodName := ⟨RX5, "goldest", "()I"⟩
abbrev cX5_peace : ByteArray := prog_1_method_19_code
def yX5_peace : MethodName := ⟨RX5, "peace", "()I"⟩
abbrev cX5_chin : ByteArray := prog_1_method_20_code
def yX5_chin : MethodName := ⟨RX5, "chin", "(II)I"⟩
abbrev cX5_dawn : ByteArray := prog_1_method_21_code
def yX5_dawn : MethodName := ⟨RX5, "dawn", "(II)I"⟩
abbrev cX5_monday : ByteArray := prog_1_method_22_code
def yX5_monday : MethodName := ⟨RX5, "monday", "(I)I"⟩
abbrev cX5_spare : ByteArray := prog_1_method_23_code
def yX5_spare : MethodName := ⟨RX5, "spare", "(I)I"⟩
abbrev cX5_seen : ByteArray := prog_1_method_24_code
def yX5_seen : MethodName := ⟨RX5, "seen", "(III)I"⟩
abbrev cX5_forget : ByteArray := prog_1_method_25_code
def yX5_forget : MethodName := ⟨RX5, "forget", "()I"⟩
abbrev cX5_never : ByteArray := prog_1_method_26_code
def yX5_never : MethodName := ⟨RX5, "never", "()I"⟩
abbrev cX5_was : ByteArray := prog_1_method_27_code
def yX5_was : MethodName := ⟨RX5, "was", "(II)I"⟩
abbrev cX5_ask : ByteArray := prog_1_method_28_code
def yX5_ask : MethodName := ⟨RX5, "ask", "(I)I"⟩
abbrev cX5_chance : ByteArray := prog_1_method_29_code
def yX5_chance : MethodName := ⟨RX5, "chance", "(III)J"⟩
abbrev cX5_years : ByteArray := prog_1_method_30_code
def yX5_years : MethodName := ⟨RX5, "years", "(III)I"⟩
abbrev cX5_sheet : ByteArray := prog_1_method_31_code
def yX5_sheet : MethodName := ⟨RX5, "sheet", "(III)I"⟩
abbrev cX5_lose : ByteArray := prog_1_method_32_code
def yX5_lose : MethodName := ⟨RX5, "lose", "(I)I"⟩
abbrev cX5_lay : ByteArray := prog_1_method_33_code
def yX5_lay : MethodName := ⟨RX5, "lay", "(IIII)I"⟩
abbrev cX5_get : ByteArray := prog_1_method_34_code
def yX5_get : MethodName := ⟨RX5, "get", "(III)I"⟩
abbrev cX5_copy : ByteArray := prog_1_method_35_code
def yX5_copy : MethodName := ⟨RX5, "copy", "(IIIII)I"⟩
abbrev cX5_write : ByteArray := prog_1_method_36_code
def yX5_write : MethodName := ⟨RX5, "write", "(II)I"⟩
abbrev cX5_count : ByteArray := prog_1_method_37_code
def yX5_count : MethodName := ⟨RX5, "count", "(I)I"⟩
abbrev cX5_digest : ByteArray := prog_1_method_38_code
def yX5_digest : MethodName := ⟨RX5, "digest", "()J"⟩
abbrev cX5_digestQuarrel : ByteArray := prog_1_method_39_code
def yX5_digestQuarrel : MethodName := ⟨RX5, "digestQuarrel", "(JI)J"⟩
abbrev cX5_digestPerson : ByteArray := prog_1_method_40_code
def yX5_digestPerson : MethodName := ⟨RX5, "digestPerson", "(JI)J"⟩
abbrev cX5_isBelow : ByteArray := prog_1_method_41_code
def yX5_isBelow : MethodName := ⟨RX5, "isBelow", "(II)Z"⟩
abbrev cX5_lowestBit : ByteArray := prog_1_method_42_code
def yX5_lowestBit : MethodName := ⟨RX5, "lowestBit", "(I)I"⟩
abbrev cX5_found : ByteArray := prog_1_method_43_code
def yX5_found : MethodName := ⟨RX5, "found", "(I)I"⟩
abbrev cX5_takeIn : ByteArray := prog_1_method_44_code
def yX5_takeIn : MethodName := ⟨RX5, "takeIn", "(I)V"⟩
abbrev cX5_forgetCourses : ByteArray := prog_1_method_45_code
def yX5_forgetCourses : MethodName := ⟨RX5, "forgetCourses", "()V"⟩
abbrev cX5_peaceWith : ByteArray := prog_1_method_46_code
def yX5_peaceWith : MethodName := ⟨RX5, "peaceWith", "(I)I"⟩
abbrev cX5_sparedEvents : ByteArray := prog_1_method_47_code
def yX5_sparedEvents : MethodName := ⟨RX5, "sparedEvents", "()I"⟩
abbrev cX5_fittingValues : ByteArray := prog_1_method_48_code
def yX5_fittingValues : MethodName := ⟨RX5, "fittingValues", "([IIII)I"⟩
abbrev cX5_tallyGold : ByteArray := prog_1_method_49_code
def yX5_tallyGold : MethodName := ⟨RX5, "tallyGold", "(I)V"⟩
abbrev cX5_mostAlike : ByteArray := prog_1_method_50_code
def yX5_mostAlike : MethodName := ⟨RX5, "mostAlike", "(I)I"⟩
abbrev cX5_weightOf : ByteArray := prog_1_method_51_code
def yX5_weightOf : MethodName := ⟨RX5, "weightOf", "(II)J"⟩
abbrev cX5_lowestTerm : ByteArray := prog_1_method_52_code
def yX5_lowestTerm : MethodName := ⟨RX5, "lowestTerm", "(JJI)J"⟩
def RX6 : String := "LilyQuarrelsModel"
def TX6 : u_T := fun k => match k with
  | 0 => ("LilyQuarrelsModel", "forms", "[I", true)
  | 1 => ("LilyQuarrelsModel", "sizes", "[I", true)
  | 2 => ("LilyQuarrelsModel", "items", "[I", true)
  | 3 => ("LilyQuarrelsModel", "moved", "[I", true)
  | 4 => ("LilyQuarrelsModel", "latest", "I", false)
  | 5 => ("LilyQuarrelsModel", "bytes", "[I", true)
  | 6 => ("LilyQuarrelsModel", "typed", "[I", true)
  | 7 => ("LilyQuarrelsModel", "people", "I", false)
  | 8 => ("LilyQuarrelsModel", "person", "[I", true)
  | 9 => ("LilyQuarrelsModel", "quarrels", "I", false)
  | 10 => ("LilyQuarrelsModel", "quarrel", "[I", true)
  | 11 => ("LilyQuarrelsModel", "cuts", "I", false)
  | 12 => ("LilyQuarrelsModel", "glass", "[I", true)
  | 13 => ("LilyQuarrelsModel", "events", "I", false)
  | 14 => ("LilyQuarrelsModel", "event", "[I", true)
  | 15 => ("LilyQuarrelsModel", "gone", "I", false)
  | 16 => ("LilyQuarrelsModel", "oddDay", "I", false)
  | 17 => ("LilyQuarrelsModel", "state", "[I", true)
  | 18 => ("LilyQuarrelsModel", "heat", "[I", true)
  | 19 => ("LilyQuarrelsModel", "blows", "[I", true)
  | 20 => ("LilyQuarrelsModel", "over", "[I", true)
  | 21 => ("LilyQuarrelsModel", "gold", "[I", true)
  | 22 => ("LilyQuarrelsModel", "struck", "[I", true)
  | 23 => ("LilyQuarrelsModel", "strikes", "[I", true)
  | 24 => ("LilyQuarrelsModel", "stock", "I", false)
  | 25 => ("LilyQuarrelsModel", "waste", "I", false)
  | 26 => ("LilyQuarrelsModel", "stateBy", "[I", true)
  | 27 => ("LilyQuarrelsModel", "heatBy", "[I", true)
  | 28 => ("LilyQuarrelsModel", "blowsBy", "[I", true)
  | 29 => ("LilyQuarrelsModel", "goldBy", "[I", true)
  | 30 => ("LilyQuarrelsModel", "struckBy", "[I", true)
  | 31 => ("LilyQuarrelsModel", "strikesBy", "[I", true)
  | 32 => ("LilyQuarrelsModel", "stockBy", "[I", true)
  | 33 => ("LilyQuarrelsModel", "sights", "I", false)
  | 34 => ("LilyQuarrelsModel", "sight", "[I", true)
  | 35 => ("LilyQuarrelsModel", "golds", "[I", true)
  | _ => ("LilyQuarrelsModel", "drawn", "I", false)
def tyX6 : Nat → FieldType := fun k => match k with
  | 0 => .array .int
  | 1 => .array .int
  | 2 => .array .int
  | 3 => .array .int
  | 4 => .int
  | 5 => .array .int
  | 6 => .array .int
  | 7 => .int
  | 8 => .array .int
  | 9 => .int
  | 10 => .array .int
  | 11 => .int
  | 12 => .array .int
  | 13 => .int
  | 14 => .array .int
  | 15 => .int
  | 16 => .int
  | 17 => .array .int
  | 18 => .array .int
  | 19 => .array .int
  | 20 => .array .int
  | 21 => .array .int
  | 22 => .array .int
  | 23 => .array .int
  | 24 => .int
  | 25 => .int
  | 26 => .array .int
  | 27 => .array .int
  | 28 => .array .int
  | 29 => .array .int
  | 30 => .array .int
  | 31 => .array .int
  | 32 => .array .int
  | 33 => .int
  | 34 => .array .int
  | 35 => .array .int
  | _ => .int
abbrev wsX60 : List Cond := u_ws RX6 TX6 37
theorem nmX6 : ∀ a, a < 37 → ∀ b, b < 37 → a ≠ b → (TX6 a).2.1 ≠ (TX6 b).2.1 := by decide +kernel
theorem tyX6_ok : ∀ k, k < 37 → parseFieldDescriptor (TX6 k).2.2.1 = some (tyX6 k) := by decide +kernel
abbrev cX6_init : ByteArray := prog_8_method_1_code
def yX6_init : MethodName := ⟨RX6, "<init>", "()V"⟩
abbrev cX6_in : ByteArray := prog_8_method_3_code
def yX6_in : MethodName := ⟨RX6, "in", "(JJJ)Z"⟩
abbrev cX6_no : ByteArray := prog_8_method_4_code
def yX6_no : MethodName := ⟨RX6, "no", "(I)J"⟩
abbrev cX6_isTwo : ByteArray := prog_8_method_5_code
def yX6_isTwo : MethodName := ⟨RX6, "isTwo", "(I)Z"⟩
abbrev cX6_isIn : ByteArray := prog_8_method_6_code
def yX6_isIn : MethodName := ⟨RX6, "isIn", "(II)Z"⟩
abbrev cX6_ones : ByteArray := prog_8_method_7_code
def yX6_ones : MethodName := ⟨RX6, "ones", "(I)I"⟩
abbrev cX6_lesser : ByteArray := prog_8_method_8_code
def yX6_lesser : MethodName := ⟨RX6, "lesser", "(II)I"⟩
abbrev cX6_greater : ByteArray := prog_8_method_9_code
def yX6_greater : MethodName := ⟨RX6, "greater", "(II)I"⟩
abbrev cX6_part : ByteArray := prog_8_method_10_code
def yX6_part : MethodName := ⟨RX6, "part", "(JJI)J"⟩
abbrev cX6_finds : ByteArray := prog_8_method_11_code
def yX6_finds : MethodName := ⟨RX6, "finds", "(I)I"⟩
abbrev cX6_isSheet : ByteArray := prog_8_method_12_code
def yX6_isSheet : MethodName := ⟨RX6, "isSheet", "(I)Z"⟩
abbrev cX6_sheet : ByteArray := prog_8_method_13_code
def yX6_sheet : MethodName := ⟨RX6, "sheet", "(III)I"⟩
abbrev cX6_lose : ByteArray := prog_8_method_14_code
def yX6_lose : MethodName := ⟨RX6, "lose", "(I)I"⟩
abbrev cX6_lacks : ByteArray := prog_8_method_15_code
def yX6_lacks : MethodName := ⟨RX6, "lacks", "(III)I"⟩
abbrev cX6_cut : ByteArray := prog_8_method_16_code
def yX6_cut : MethodName := ⟨RX6, "cut", "(II)I"⟩
abbrev cX6_lay : ByteArray := prog_8_method_17_code
def yX6_lay : MethodName := ⟨RX6, "lay", "(IIII)I"⟩
abbrev cX6_get : ByteArray := prog_8_method_18_code
def yX6_get : MethodName := ⟨RX6, "get", "(III)I"⟩
abbrev cX6_copy : ByteArray := prog_8_method_19_code
def yX6_copy : MethodName := ⟨RX6, "copy", "(IIIII)I"⟩
abbrev cX6_isText : ByteArray := prog_8_method_20_code
def yX6_isText : MethodName := ⟨RX6, "isText", "(I)Z"⟩
abbrev cX6_type : ByteArray := prog_8_method_21_code
def yX6_type : MethodName := ⟨RX6, "type", "(II)I"⟩
abbrev cX6_wipe : ByteArray := prog_8_method_22_code
def yX6_wipe : MethodName := ⟨RX6, "wipe", "(I)I"⟩
abbrev cX6_undo : ByteArray := prog_8_method_23_code
def yX6_undo : MethodName := ⟨RX6, "undo", "(I)I"⟩
abbrev cX6_personOf : ByteArray := prog_8_method_24_code
def yX6_personOf : MethodName := ⟨RX6, "personOf", "(II)I"⟩
abbrev cX6_readsPeople : ByteArray := prog_8_method_25_code
def yX6_readsPeople : MethodName := ⟨RX6, "readsPeople", "()I"⟩
abbrev cX6_quarrelOf : ByteArray := prog_8_method_26_code
def yX6_quarrelOf : MethodName := ⟨RX6, "quarrelOf", "(II)I"⟩
abbrev cX6_readsQuarrels : ByteArray := prog_8_method_27_code
def yX6_readsQuarrels : MethodName := ⟨RX6, "readsQuarrels", "()I"⟩
abbrev cX6_grows : ByteArray := prog_8_method_28_code
def yX6_grows : MethodName := ⟨RX6, "grows", "(I)I"⟩
abbrev cX6_readsGlass : ByteArray := prog_8_method_29_code
def yX6_readsGlass : MethodName := ⟨RX6, "readsGlass", "()I"⟩
abbrev cX6_readsText : ByteArray := prog_8_method_30_code
def yX6_readsText : MethodName := ⟨RX6, "readsText", "(I)I"⟩
abbrev cX6_fault : ByteArray := prog_8_method_31_code
def yX6_fault : MethodName := ⟨RX6, "fault", "(I)I"⟩
abbrev cX6_isPerson : ByteArray := prog_8_method_32_code
def yX6_isPerson : MethodName := ⟨RX6, "isPerson", "(I)Z"⟩
abbrev cX6_isQuarrel : ByteArray := prog_8_method_33_code
def yX6_isQuarrel : MethodName := ⟨RX6, "isQuarrel", "(I)Z"⟩
abbrev cX6_isDay : ByteArray := prog_8_method_34_code
def yX6_isDay : MethodName := ⟨RX6, "isDay", "(I)Z"⟩
abbrev cX6_person : ByteArray := prog_8_method_35_code
def yX6_person : MethodName := ⟨RX6, "person", "(II)I"⟩
abbrev cX6_quarrel : ByteArray := prog_8_method_36_code
def yX6_quarrel : MethodName := ⟨RX6, "quarrel", "(II)I"⟩
abbrev cX6_glass : ByteArray := prog_8_method_37_code
def yX6_glass : MethodName := ⟨RX6, "glass", "(I)I"⟩
abbrev cX6_event : ByteArray := prog_8_method_38_code
def yX6_event : MethodName := ⟨RX6, "event", "(II)I"⟩
abbrev cX6_back : ByteArray := prog_8_method_39_code
def yX6_back : MethodName := ⟨RX6, "back", "()I"⟩
abbrev cX6_read : ByteArray := prog_8_method_40_code
def yX6_read : MethodName := ⟨RX6, "read", "(I)I"⟩
abbrev cX6_many : ByteArray := prog_8_method_41_code
def yX6_many : MethodName := ⟨RX6, "many", "(II)I"⟩
abbrev cX6_does : ByteArray := prog_8_method_42_code
def yX6_does : MethodName := ⟨RX6, "does", "(II)V"⟩
abbrev cX6_passes : ByteArray := prog_8_method_43_code
def yX6_passes : MethodName := ⟨RX6, "passes", "(I)V"⟩
abbrev cX6_lives : ByteArray := prog_8_method_44_code
def yX6_lives : MethodName := ⟨RX6, "lives", "()V"⟩
abbrev cX6_find : ByteArray := prog_8_method_45_code
def yX6_find : MethodName := ⟨RX6, "find", "()V"⟩
abbrev cX6_standsBy : ByteArray := prog_8_method_46_code
def yX6_standsBy : MethodName := ⟨RX6, "standsBy", "(III)I"⟩
abbrev cX6_stands : ByteArray := prog_8_method_47_code
def yX6_stands : MethodName := ⟨RX6, "stands", "(III)I"⟩
abbrev cX6_atBy : ByteArray := prog_8_method_48_code
def yX6_atBy : MethodName := ⟨RX6, "atBy", "(III)I"⟩
abbrev cX6_at : ByteArray := prog_8_method_49_code
def yX6_at : MethodName := ⟨RX6, "at", "(III)I"⟩
abbrev cX6_stockOf : ByteArray := prog_8_method_50_code
def yX6_stockOf : MethodName := ⟨RX6, "stockOf", "(II)I"⟩
abbrev cX6_stock : ByteArray := prog_8_method_51_code
def yX6_stock : MethodName := ⟨RX6, "stock", "(II)I"⟩
abbrev cX6_over : ByteArray := prog_8_method_52_code
def yX6_over : MethodName := ⟨RX6, "over", "(I)I"⟩
abbrev cX6_mistBy : ByteArray := prog_8_method_53_code
def yX6_mistBy : MethodName := ⟨RX6, "mistBy", "(I)I"⟩
abbrev cX6_mist : ByteArray := prog_8_method_54_code
def yX6_mist : MethodName := ⟨RX6, "mist", "(I)I"⟩
abbrev cX6_waste : ByteArray := prog_8_method_55_code
def yX6_waste : MethodName := ⟨RX6, "waste", "()I"⟩
abbrev cX6_goldestNow : ByteArray := prog_8_method_56_code
def yX6_goldestNow : MethodName := ⟨RX6, "goldestNow", "()I"⟩
abbrev cX6_goldest : ByteArray := prog_8_method_57_code
def yX6_goldest : MethodName := ⟨RX6, "goldest", "()I"⟩
abbrev cX6_peaceNow : ByteArray := prog_8_method_58_code
def yX6_peaceNow : MethodName := ⟨RX6, "peaceNow", "()I"⟩
abbrev cX6_peace : ByteArray := prog_8_method_59_code
def yX6_peace : MethodName := ⟨RX6, "peace", "()I"⟩
abbrev cX6_changes : ByteArray := prog_8_method_60_code
def yX6_changes : MethodName := ⟨RX6, "changes", "(I)V"⟩
abbrev cX6_chinOf : ByteArray := prog_8_method_61_code
def yX6_chinOf : MethodName := ⟨RX6, "chinOf", "(II)I"⟩
abbrev cX6_chin : ByteArray := prog_8_method_62_code
def yX6_chin : MethodName := ⟨RX6, "chin", "(II)I"⟩
abbrev cX6_dawnOf : ByteArray := prog_8_method_63_code
def yX6_dawnOf : MethodName := ⟨RX6, "dawnOf", "(II)I"⟩
abbrev cX6_dawn : ByteArray := prog_8_method_64_code
def yX6_dawn : MethodName := ⟨RX6, "dawn", "(II)I"⟩
abbrev cX6_mondayBy : ByteArray := prog_8_method_65_code
def yX6_mondayBy : MethodName := ⟨RX6, "mondayBy", "(I)I"⟩
abbrev cX6_monday : ByteArray := prog_8_method_66_code
def yX6_monday : MethodName := ⟨RX6, "monday", "(I)I"⟩
abbrev cX6_isSpared : ByteArray := prog_8_method_67_code
def yX6_isSpared : MethodName := ⟨RX6, "isSpared", "(I)Z"⟩
abbrev cX6_spareBy : ByteArray := prog_8_method_68_code
def yX6_spareBy : MethodName := ⟨RX6, "spareBy", "(I)I"⟩
abbrev cX6_spare : ByteArray := prog_8_method_69_code
def yX6_spare : MethodName := ⟨RX6, "spare", "(I)I"⟩
abbrev cX6_seen : ByteArray := prog_8_method_70_code
def yX6_seen : MethodName := ⟨RX6, "seen", "(III)I"⟩
abbrev cX6_forget : ByteArray := prog_8_method_71_code
def yX6_forget : MethodName := ⟨RX6, "forget", "()I"⟩
abbrev cX6_isSeen : ByteArray := prog_8_method_72_code
def yX6_isSeen : MethodName := ⟨RX6, "isSeen", "()Z"⟩
abbrev cX6_neverNow : ByteArray := prog_8_method_73_code
def yX6_neverNow : MethodName := ⟨RX6, "neverNow", "()I"⟩
abbrev cX6_never : ByteArray := prog_8_method_74_code
def yX6_never : MethodName := ⟨RX6, "never", "()I"⟩
abbrev cX6_sortOf : ByteArray := prog_8_method_75_code
def yX6_sortOf : MethodName := ⟨RX6, "sortOf", "(I)I"⟩
abbrev cX6_tempersOf : ByteArray := prog_8_method_76_code
def yX6_tempersOf : MethodName := ⟨RX6, "tempersOf", "(I)I"⟩
abbrev cX6_wasOf : ByteArray := prog_8_method_77_code
def yX6_wasOf : MethodName := ⟨RX6, "wasOf", "(II)I"⟩
abbrev cX6_was : ByteArray := prog_8_method_78_code
def yX6_was : MethodName := ⟨RX6, "was", "(II)I"⟩
abbrev cX6_alike : ByteArray := prog_8_method_79_code
def yX6_alike : MethodName := ⟨RX6, "alike", "(II)I"⟩
abbrev cX6_askOf : ByteArray := prog_8_method_80_code
def yX6_askOf : MethodName := ⟨RX6, "askOf", "(I)I"⟩
abbrev cX6_ask : ByteArray := prog_8_method_81_code
def yX6_ask : MethodName := ⟨RX6, "ask", "(I)I"⟩
abbrev cX6_chanceOf : ByteArray := prog_8_method_82_code
def yX6_chanceOf : MethodName := ⟨RX6, "chanceOf", "(III)J"⟩
abbrev cX6_chance : ByteArray := prog_8_method_83_code
def yX6_chance : MethodName := ⟨RX6, "chance", "(III)J"⟩
abbrev cX6_lot : ByteArray := prog_8_method_84_code
def yX6_lot : MethodName := ⟨RX6, "lot", "(I)I"⟩
abbrev cX6_allGold : ByteArray := prog_8_method_85_code
def yX6_allGold : MethodName := ⟨RX6, "allGold", "()I"⟩
abbrev cX6_yearsOf : ByteArray := prog_8_method_86_code
def yX6_yearsOf : MethodName := ⟨RX6, "yearsOf", "(III)I"⟩
abbrev cX6_years : ByteArray := prog_8_method_87_code
def yX6_years : MethodName := ⟨RX6, "years", "(III)I"⟩
abbrev cX6_write : ByteArray := prog_8_method_88_code
def yX6_write : MethodName := ⟨RX6, "write", "(II)I"⟩
abbrev cX6_count : ByteArray := prog_8_method_89_code
def yX6_count : MethodName := ⟨RX6, "count", "(I)I"⟩
abbrev cX6_tellsStand : ByteArray := prog_8_method_90_code
def yX6_tellsStand : MethodName := ⟨RX6, "tellsStand", "(JII)J"⟩
abbrev cX6_tellsQuarrel : ByteArray := prog_8_method_91_code
def yX6_tellsQuarrel : MethodName := ⟨RX6, "tellsQuarrel", "(JI)J"⟩
abbrev cX6_tellsDay : ByteArray := prog_8_method_92_code
def yX6_tellsDay : MethodName := ⟨RX6, "tellsDay", "(JII)J"⟩
abbrev cX6_tellsPerson : ByteArray := prog_8_method_93_code
def yX6_tellsPerson : MethodName := ⟨RX6, "tellsPerson", "(JI)J"⟩
abbrev cX6_digest : ByteArray := prog_8_method_94_code
def yX6_digest : MethodName := ⟨RX6, "digest", "()J"⟩
def RJ6 : String := "java/lang/Integer"
abbrev cJ6_bitCount_0f7a4 : ByteArray := prog_9_method_49_code
def yJ6_bitCount_0f7a4 : MethodName := ⟨RJ6, "bitCount", "(I)I"⟩
def RJ9 : String := "java/lang/Math"
abbrev cJ9_max_7cf53 : ByteArray := prog_10_method_65_code
def yJ9_max_7cf53 : MethodName := ⟨RJ9, "max", "(II)I"⟩
abbrev cJ9_min_7cf53 : ByteArray := prog_10_method_69_code
def yJ9_min_7cf53 : MethodName := ⟨RJ9, "min", "(II)I"⟩
def RJ10 : String := "java/lang/System"
def RJ7 : String := "java/util/Arrays"
abbrev cJ7_fill_53178 : ByteArray := prog_12_method_103_code
def yJ7_fill_53178 : MethodName := ⟨RJ7, "fill", "([II)V"⟩
def RL : String := "LilyQuarrelsLaw"
abbrev cL_law : ByteArray := code
def yL_law : MethodName := ⟨RL, "law", "([I)Z"⟩
