section
-- ===== PART A: goes FIRST, ahead of the names: the tables' words, and 'selects' of the private methods out of them =====
/-- a private method of a class that the tables say can be made, by its rows of tables_1 -/
def lw_okq (q : MethodName × Nat) : Prop := (q.1.cls ≠ "java/lang/invoke/MethodHandle" ∧ q.1.cls ≠ "java/lang/invoke/VarHandle") ∧ Cond.instantiable q.1.cls q.2 ∈ tables_1 ∧ Cond.privateMethod q.1 ∈ tables_1 ∧ Cond.instanceMethod q.1 ∈ tables_1
theorem lw_p0 : lw_okq (⟨"java/lang/Throwable", "fillInStackTrace", "(I)Ljava/lang/Throwable;"⟩, 6) := ⟨⟨by decide +kernel, by decide +kernel⟩, List.mem_of_getElem? (i := 497) (by decide +kernel), List.mem_of_getElem? (i := 495) (by decide +kernel), List.mem_of_getElem? (i := 496) (by decide +kernel)⟩
theorem lw_p1 : lw_okq (⟨"PaperParcels$Reader", "packageFault", "(LPaperParcels$Row;)I"⟩, 8) := ⟨⟨by decide +kernel, by decide +kernel⟩, List.mem_of_getElem? (i := 112) (by decide +kernel), List.mem_of_getElem? (i := 526) (by decide +kernel), List.mem_of_getElem? (i := 527) (by decide +kernel)⟩
theorem lw_p2 : lw_okq (⟨"PaperParcels$Reader", "isFault", "(I)Z"⟩, 8) := ⟨⟨by decide +kernel, by decide +kernel⟩, List.mem_of_getElem? (i := 112) (by decide +kernel), List.mem_of_getElem? (i := 548) (by decide +kernel), List.mem_of_getElem? (i := 549) (by decide +kernel)⟩
theorem lw_p3 : lw_okq (⟨"PaperParcels$Reader", "contentFault", "(LPaperParcels$Part;LPaperParcels$Row;)I"⟩, 8) := ⟨⟨by decide +kernel, by decide +kernel⟩, List.mem_of_getElem? (i := 112) (by decide +kernel), List.mem_of_getElem? (i := 552) (by decide +kernel), List.mem_of_getElem? (i := 553) (by decide +kernel)⟩
theorem lw_p4 : lw_okq (⟨"PaperParcels$Part", "follow", "(LPaperParcels$Row;I)Z"⟩, 5) := ⟨⟨by decide +kernel, by decide +kernel⟩, List.mem_of_getElem? (i := 120) (by decide +kernel), List.mem_of_getElem? (i := 561) (by decide +kernel), List.mem_of_getElem? (i := 562) (by decide +kernel)⟩
theorem lw_p5 : lw_okq (⟨"PaperParcels$Elements", "takeBegin", "()Z"⟩, 14) := ⟨⟨by decide +kernel, by decide +kernel⟩, List.mem_of_getElem? (i := 145) (by decide +kernel), List.mem_of_getElem? (i := 587) (by decide +kernel), List.mem_of_getElem? (i := 588) (by decide +kernel)⟩
theorem lw_p6 : lw_okq (⟨"PaperParcels$Elements", "addElement", "(I)I"⟩, 14) := ⟨⟨by decide +kernel, by decide +kernel⟩, List.mem_of_getElem? (i := 145) (by decide +kernel), List.mem_of_getElem? (i := 594) (by decide +kernel), List.mem_of_getElem? (i := 595) (by decide +kernel)⟩
theorem lw_p7 : lw_okq (⟨"PaperParcels$Elements", "takeAttribute", "(I)Z"⟩, 14) := ⟨⟨by decide +kernel, by decide +kernel⟩, List.mem_of_getElem? (i := 145) (by decide +kernel), List.mem_of_getElem? (i := 598) (by decide +kernel), List.mem_of_getElem? (i := 599) (by decide +kernel)⟩
theorem lw_p8 : lw_okq (⟨"PaperParcels$Elements", "take", "(I)Z"⟩, 14) := ⟨⟨by decide +kernel, by decide +kernel⟩, List.mem_of_getElem? (i := 145) (by decide +kernel), List.mem_of_getElem? (i := 606) (by decide +kernel), List.mem_of_getElem? (i := 607) (by decide +kernel)⟩
theorem lw_p9 : lw_okq (⟨"PaperParcels$Elements", "takeEnd", "()Z"⟩, 14) := ⟨⟨by decide +kernel, by decide +kernel⟩, List.mem_of_getElem? (i := 145) (by decide +kernel), List.mem_of_getElem? (i := 617) (by decide +kernel), List.mem_of_getElem? (i := 618) (by decide +kernel)⟩
theorem lw_p10 : lw_okq (⟨"PaperParcels$Elements", "takeLetter", "(I)Z"⟩, 14) := ⟨⟨by decide +kernel, by decide +kernel⟩, List.mem_of_getElem? (i := 145) (by decide +kernel), List.mem_of_getElem? (i := 621) (by decide +kernel), List.mem_of_getElem? (i := 622) (by decide +kernel)⟩
theorem lw_p11 : lw_okq (⟨"PaperParcels$Styles", "firstNamedAgain", "()I"⟩, 6) := ⟨⟨by decide +kernel, by decide +kernel⟩, List.mem_of_getElem? (i := 211) (by decide +kernel), List.mem_of_getElem? (i := 663) (by decide +kernel), List.mem_of_getElem? (i := 664) (by decide +kernel)⟩
theorem lw_p12 : lw_okq (⟨"PaperParcels$Styles", "firstWithoutName", "(LPaperParcels$Elements;I)I"⟩, 6) := ⟨⟨by decide +kernel, by decide +kernel⟩, List.mem_of_getElem? (i := 211) (by decide +kernel), List.mem_of_getElem? (i := 674) (by decide +kernel), List.mem_of_getElem? (i := 675) (by decide +kernel)⟩
theorem lw_p13 : lw_okq (⟨"PaperParcels$Styles", "firstWithoutEnd", "()I"⟩, 6) := ⟨⟨by decide +kernel, by decide +kernel⟩, List.mem_of_getElem? (i := 211) (by decide +kernel), List.mem_of_getElem? (i := 678) (by decide +kernel), List.mem_of_getElem? (i := 679) (by decide +kernel)⟩
theorem lw_p14 : lw_okq (⟨"PaperParcels$Styles", "parentOf", "(I)I"⟩, 6) := ⟨⟨by decide +kernel, by decide +kernel⟩, List.mem_of_getElem? (i := 211) (by decide +kernel), List.mem_of_getElem? (i := 682) (by decide +kernel), List.mem_of_getElem? (i := 683) (by decide +kernel)⟩
theorem lw_p15 : lw_okq (⟨"PaperParcels$Styles", "given", "(II)I"⟩, 6) := ⟨⟨by decide +kernel, by decide +kernel⟩, List.mem_of_getElem? (i := 211) (by decide +kernel), List.mem_of_getElem? (i := 690) (by decide +kernel), List.mem_of_getElem? (i := 691) (by decide +kernel)⟩
def lw_privs_1 : List (MethodName × Nat) := [(⟨"java/lang/Throwable", "fillInStackTrace", "(I)Ljava/lang/Throwable;"⟩, 6), (⟨"PaperParcels$Reader", "packageFault", "(LPaperParcels$Row;)I"⟩, 8), (⟨"PaperParcels$Reader", "isFault", "(I)Z"⟩, 8), (⟨"PaperParcels$Reader", "contentFault", "(LPaperParcels$Part;LPaperParcels$Row;)I"⟩, 8), (⟨"PaperParcels$Part", "follow", "(LPaperParcels$Row;I)Z"⟩, 5), (⟨"PaperParcels$Elements", "takeBegin", "()Z"⟩, 14), (⟨"PaperParcels$Elements", "addElement", "(I)I"⟩, 14), (⟨"PaperParcels$Elements", "takeAttribute", "(I)Z"⟩, 14), (⟨"PaperParcels$Elements", "take", "(I)Z"⟩, 14), (⟨"PaperParcels$Elements", "takeEnd", "()Z"⟩, 14), (⟨"PaperParcels$Elements", "takeLetter", "(I)Z"⟩, 14), (⟨"PaperParcels$Styles", "firstNamedAgain", "()I"⟩, 6), (⟨"PaperParcels$Styles", "firstWithoutName", "(LPaperParcels$Elements;I)I"⟩, 6), (⟨"PaperParcels$Styles", "firstWithoutEnd", "()I"⟩, 6), (⟨"PaperParcels$Styles", "parentOf", "(I)I"⟩, 6), (⟨"PaperParcels$Styles", "given", "(II)I"⟩, 6)]
theorem lw_r1 : ∀ q ∈ lw_privs_1, lw_okq q := List.forall_mem_cons.mpr ⟨lw_p0, List.forall_mem_cons.mpr ⟨lw_p1, List.forall_mem_cons.mpr ⟨lw_p2, List.forall_mem_cons.mpr ⟨lw_p3, List.forall_mem_cons.mpr ⟨lw_p4, List.forall_mem_cons.mpr ⟨lw_p5, List.forall_mem_cons.mpr ⟨lw_p6, List.forall_mem_cons.mpr ⟨lw_p7, List.forall_mem_cons.mpr ⟨lw_p8, List.forall_mem_cons.mpr ⟨lw_p9, List.forall_mem_cons.mpr ⟨lw_p10, List.forall_mem_cons.mpr ⟨lw_p11, List.forall_mem_cons.mpr ⟨lw_p12, List.forall_mem_cons.mpr ⟨lw_p13, List.forall_mem_cons.mpr ⟨lw_p14, List.forall_mem_cons.mpr ⟨lw_p15, fun _ h => absurd h List.not_mem_nil⟩⟩⟩⟩⟩⟩⟩⟩⟩⟩⟩⟩⟩⟩⟩⟩
theorem lw_p16 : lw_okq (⟨"PaperParcels$Builder", "addElement", "(I)Z"⟩, 6) := ⟨⟨by decide +kernel, by decide +kernel⟩, List.mem_of_getElem? (i := 236) (by decide +kernel), List.mem_of_getElem? (i := 708) (by decide +kernel), List.mem_of_getElem? (i := 709) (by decide +kernel)⟩
theorem lw_p17 : lw_okq (⟨"PaperParcels$Builder", "addLetter", "(II)Z"⟩, 6) := ⟨⟨by decide +kernel, by decide +kernel⟩, List.mem_of_getElem? (i := 236) (by decide +kernel), List.mem_of_getElem? (i := 724) (by decide +kernel), List.mem_of_getElem? (i := 725) (by decide +kernel)⟩
theorem lw_p18 : lw_okq (⟨"PaperParcels", "inSlot", "(I)LPaperParcels$Paper;"⟩, 5) := ⟨⟨by decide +kernel, by decide +kernel⟩, List.mem_of_getElem? (i := 28) (by decide +kernel), List.mem_of_getElem? (i := 759) (by decide +kernel), List.mem_of_getElem? (i := 760) (by decide +kernel)⟩
theorem lw_p19 : lw_okq (⟨"PaperParcels$Script", "fillCosts", "()V"⟩, 14) := ⟨⟨by decide +kernel, by decide +kernel⟩, List.mem_of_getElem? (i := 288) (by decide +kernel), List.mem_of_getElem? (i := 853) (by decide +kernel), List.mem_of_getElem? (i := 854) (by decide +kernel)⟩
theorem lw_p20 : lw_okq (⟨"PaperParcels$Script", "costTakingOut", "(II)I"⟩, 14) := ⟨⟨by decide +kernel, by decide +kernel⟩, List.mem_of_getElem? (i := 288) (by decide +kernel), List.mem_of_getElem? (i := 857) (by decide +kernel), List.mem_of_getElem? (i := 858) (by decide +kernel)⟩
theorem lw_p21 : lw_okq (⟨"PaperParcels$Script", "costPuttingIn", "(II)I"⟩, 14) := ⟨⟨by decide +kernel, by decide +kernel⟩, List.mem_of_getElem? (i := 288) (by decide +kernel), List.mem_of_getElem? (i := 861) (by decide +kernel), List.mem_of_getElem? (i := 862) (by decide +kernel)⟩
theorem lw_p22 : lw_okq (⟨"PaperParcels$Script", "sameKind", "(II)Z"⟩, 14) := ⟨⟨by decide +kernel, by decide +kernel⟩, List.mem_of_getElem? (i := 288) (by decide +kernel), List.mem_of_getElem? (i := 866) (by decide +kernel), List.mem_of_getElem? (i := 867) (by decide +kernel)⟩
theorem lw_p23 : lw_okq (⟨"PaperParcels$Script", "costOfChange", "(II)I"⟩, 14) := ⟨⟨by decide +kernel, by decide +kernel⟩, List.mem_of_getElem? (i := 288) (by decide +kernel), List.mem_of_getElem? (i := 870) (by decide +kernel), List.mem_of_getElem? (i := 871) (by decide +kernel)⟩
theorem lw_p24 : lw_okq (⟨"PaperParcels$Script", "sameSigns", "(II)Z"⟩, 14) := ⟨⟨by decide +kernel, by decide +kernel⟩, List.mem_of_getElem? (i := 288) (by decide +kernel), List.mem_of_getElem? (i := 874) (by decide +kernel), List.mem_of_getElem? (i := 875) (by decide +kernel)⟩
theorem lw_p25 : lw_okq (⟨"PaperParcels$Script", "costTogether", "(II)I"⟩, 14) := ⟨⟨by decide +kernel, by decide +kernel⟩, List.mem_of_getElem? (i := 288) (by decide +kernel), List.mem_of_getElem? (i := 879) (by decide +kernel), List.mem_of_getElem? (i := 880) (by decide +kernel)⟩
theorem lw_p26 : lw_okq (⟨"PaperParcels$Script", "addSteps", "()V"⟩, 14) := ⟨⟨by decide +kernel, by decide +kernel⟩, List.mem_of_getElem? (i := 288) (by decide +kernel), List.mem_of_getElem? (i := 884) (by decide +kernel), List.mem_of_getElem? (i := 885) (by decide +kernel)⟩
theorem lw_p27 : lw_okq (⟨"PaperParcels$Script", "addChange", "(II)V"⟩, 14) := ⟨⟨by decide +kernel, by decide +kernel⟩, List.mem_of_getElem? (i := 288) (by decide +kernel), List.mem_of_getElem? (i := 888) (by decide +kernel), List.mem_of_getElem? (i := 889) (by decide +kernel)⟩
theorem lw_p28 : lw_okq (⟨"PaperParcels$Script", "addStep", "(IIII)V"⟩, 14) := ⟨⟨by decide +kernel, by decide +kernel⟩, List.mem_of_getElem? (i := 288) (by decide +kernel), List.mem_of_getElem? (i := 892) (by decide +kernel), List.mem_of_getElem? (i := 893) (by decide +kernel)⟩
theorem lw_p29 : lw_okq (⟨"PaperParcels$Script", "isLeastTogether", "(II)Z"⟩, 14) := ⟨⟨by decide +kernel, by decide +kernel⟩, List.mem_of_getElem? (i := 288) (by decide +kernel), List.mem_of_getElem? (i := 896) (by decide +kernel), List.mem_of_getElem? (i := 897) (by decide +kernel)⟩
theorem lw_p30 : lw_okq (⟨"PaperParcels$Script", "copyRows", "()V"⟩, 14) := ⟨⟨by decide +kernel, by decide +kernel⟩, List.mem_of_getElem? (i := 288) (by decide +kernel), List.mem_of_getElem? (i := 920) (by decide +kernel), List.mem_of_getElem? (i := 921) (by decide +kernel)⟩
theorem lw_p31 : lw_okq (⟨"PaperParcels$Script", "endRows", "(II)V"⟩, 14) := ⟨⟨by decide +kernel, by decide +kernel⟩, List.mem_of_getElem? (i := 288) (by decide +kernel), List.mem_of_getElem? (i := 924) (by decide +kernel), List.mem_of_getElem? (i := 925) (by decide +kernel)⟩
def lw_privs_2 : List (MethodName × Nat) := [(⟨"PaperParcels$Builder", "addElement", "(I)Z"⟩, 6), (⟨"PaperParcels$Builder", "addLetter", "(II)Z"⟩, 6), (⟨"PaperParcels", "inSlot", "(I)LPaperParcels$Paper;"⟩, 5), (⟨"PaperParcels$Script", "fillCosts", "()V"⟩, 14), (⟨"PaperParcels$Script", "costTakingOut", "(II)I"⟩, 14), (⟨"PaperParcels$Script", "costPuttingIn", "(II)I"⟩, 14), (⟨"PaperParcels$Script", "sameKind", "(II)Z"⟩, 14), (⟨"PaperParcels$Script", "costOfChange", "(II)I"⟩, 14), (⟨"PaperParcels$Script", "sameSigns", "(II)Z"⟩, 14), (⟨"PaperParcels$Script", "costTogether", "(II)I"⟩, 14), (⟨"PaperParcels$Script", "addSteps", "()V"⟩, 14), (⟨"PaperParcels$Script", "addChange", "(II)V"⟩, 14), (⟨"PaperParcels$Script", "addStep", "(IIII)V"⟩, 14), (⟨"PaperParcels$Script", "isLeastTogether", "(II)Z"⟩, 14), (⟨"PaperParcels$Script", "copyRows", "()V"⟩, 14), (⟨"PaperParcels$Script", "endRows", "(II)V"⟩, 14)]
theorem lw_r2 : ∀ q ∈ lw_privs_2, lw_okq q := List.forall_mem_cons.mpr ⟨lw_p16, List.forall_mem_cons.mpr ⟨lw_p17, List.forall_mem_cons.mpr ⟨lw_p18, List.forall_mem_cons.mpr ⟨lw_p19, List.forall_mem_cons.mpr ⟨lw_p20, List.forall_mem_cons.mpr ⟨lw_p21, List.forall_mem_cons.mpr ⟨lw_p22, List.forall_mem_cons.mpr ⟨lw_p23, List.forall_mem_cons.mpr ⟨lw_p24, List.forall_mem_cons.mpr ⟨lw_p25, List.forall_mem_cons.mpr ⟨lw_p26, List.forall_mem_cons.mpr ⟨lw_p27, List.forall_mem_cons.mpr ⟨lw_p28, List.forall_mem_cons.mpr ⟨lw_p29, List.forall_mem_cons.mpr ⟨lw_p30, List.forall_mem_cons.mpr ⟨lw_p31, fun _ h => absurd h List.not_mem_nil⟩⟩⟩⟩⟩⟩⟩⟩⟩⟩⟩⟩⟩⟩⟩⟩
theorem lw_p32 : lw_okq (⟨"PaperParcels$Script", "putIn", "(II)V"⟩, 14) := ⟨⟨by decide +kernel, by decide +kernel⟩, List.mem_of_getElem? (i := 288) (by decide +kernel), List.mem_of_getElem? (i := 928) (by decide +kernel), List.mem_of_getElem? (i := 929) (by decide +kernel)⟩
theorem lw_p33 : lw_okq (⟨"PaperParcels$Script", "copyFresh", "(II)V"⟩, 14) := ⟨⟨by decide +kernel, by decide +kernel⟩, List.mem_of_getElem? (i := 288) (by decide +kernel), List.mem_of_getElem? (i := 932) (by decide +kernel), List.mem_of_getElem? (i := 933) (by decide +kernel)⟩
theorem lw_p34 : lw_okq (⟨"PaperParcels$Script", "copyOld", "(II)V"⟩, 14) := ⟨⟨by decide +kernel, by decide +kernel⟩, List.mem_of_getElem? (i := 288) (by decide +kernel), List.mem_of_getElem? (i := 937) (by decide +kernel), List.mem_of_getElem? (i := 938) (by decide +kernel)⟩
theorem lw_p35 : lw_okq (⟨"PaperParcels$Emitter", "gatherLooks", "(LPaperParcels$Paper;)Z"⟩, 6) := ⟨⟨by decide +kernel, by decide +kernel⟩, List.mem_of_getElem? (i := 370) (by decide +kernel), List.mem_of_getElem? (i := 953) (by decide +kernel), List.mem_of_getElem? (i := 954) (by decide +kernel)⟩
theorem lw_p36 : lw_okq (⟨"PaperParcels$Emitter", "styleFor", "(I)I"⟩, 6) := ⟨⟨by decide +kernel, by decide +kernel⟩, List.mem_of_getElem? (i := 370) (by decide +kernel), List.mem_of_getElem? (i := 960) (by decide +kernel), List.mem_of_getElem? (i := 961) (by decide +kernel)⟩
theorem lw_p37 : lw_okq (⟨"PaperParcels$Emitter", "putSheet", "()V"⟩, 6) := ⟨⟨by decide +kernel, by decide +kernel⟩, List.mem_of_getElem? (i := 370) (by decide +kernel), List.mem_of_getElem? (i := 964) (by decide +kernel), List.mem_of_getElem? (i := 965) (by decide +kernel)⟩
theorem lw_p38 : lw_okq (⟨"PaperParcels$Emitter", "putStyle", "(I)V"⟩, 6) := ⟨⟨by decide +kernel, by decide +kernel⟩, List.mem_of_getElem? (i := 370) (by decide +kernel), List.mem_of_getElem? (i := 1024) (by decide +kernel), List.mem_of_getElem? (i := 1025) (by decide +kernel)⟩
theorem lw_p39 : lw_okq (⟨"PaperParcels$Emitter", "putBody", "(LPaperParcels$Paper;)V"⟩, 6) := ⟨⟨by decide +kernel, by decide +kernel⟩, List.mem_of_getElem? (i := 370) (by decide +kernel), List.mem_of_getElem? (i := 1036) (by decide +kernel), List.mem_of_getElem? (i := 1037) (by decide +kernel)⟩
theorem lw_p40 : lw_okq (⟨"PaperParcels$Emitter", "putEnds", "(LPaperParcels$Paper;II)V"⟩, 6) := ⟨⟨by decide +kernel, by decide +kernel⟩, List.mem_of_getElem? (i := 370) (by decide +kernel), List.mem_of_getElem? (i := 1040) (by decide +kernel), List.mem_of_getElem? (i := 1041) (by decide +kernel)⟩
theorem lw_p41 : lw_okq (⟨"PaperParcels$Emitter", "putEnd", "(LPaperParcels$Paper;I)V"⟩, 6) := ⟨⟨by decide +kernel, by decide +kernel⟩, List.mem_of_getElem? (i := 370) (by decide +kernel), List.mem_of_getElem? (i := 1044) (by decide +kernel), List.mem_of_getElem? (i := 1045) (by decide +kernel)⟩
theorem lw_p42 : lw_okq (⟨"PaperParcels$Emitter", "putRun", "(LPaperParcels$Paper;I)V"⟩, 6) := ⟨⟨by decide +kernel, by decide +kernel⟩, List.mem_of_getElem? (i := 370) (by decide +kernel), List.mem_of_getElem? (i := 1051) (by decide +kernel), List.mem_of_getElem? (i := 1052) (by decide +kernel)⟩
theorem lw_p43 : lw_okq (⟨"PaperParcels$Emitter", "putBegin", "(LPaperParcels$Paper;I)V"⟩, 6) := ⟨⟨by decide +kernel, by decide +kernel⟩, List.mem_of_getElem? (i := 370) (by decide +kernel), List.mem_of_getElem? (i := 1055) (by decide +kernel), List.mem_of_getElem? (i := 1056) (by decide +kernel)⟩
theorem lw_p44 : lw_okq (⟨"PaperParcels$Emitter", "putPart", "(ILPaperParcels$Row;I)V"⟩, 6) := ⟨⟨by decide +kernel, by decide +kernel⟩, List.mem_of_getElem? (i := 370) (by decide +kernel), List.mem_of_getElem? (i := 1065) (by decide +kernel), List.mem_of_getElem? (i := 1066) (by decide +kernel)⟩
theorem lw_p45 : lw_okq (⟨"PaperParcels$Emitter", "pack", "(LPaperParcels$Row;)V"⟩, 6) := ⟨⟨by decide +kernel, by decide +kernel⟩, List.mem_of_getElem? (i := 370) (by decide +kernel), List.mem_of_getElem? (i := 1069) (by decide +kernel), List.mem_of_getElem? (i := 1070) (by decide +kernel)⟩
theorem lw_p46 : lw_okq (⟨"PaperParcelsModel", "textFault", "()I"⟩, 57) := ⟨⟨by decide +kernel, by decide +kernel⟩, List.mem_of_getElem? (i := 1103) (by decide +kernel), List.mem_of_getElem? (i := 1307) (by decide +kernel), List.mem_of_getElem? (i := 1308) (by decide +kernel)⟩
theorem lw_p47 : lw_okq (⟨"PaperParcelsModel", "outline", "()I"⟩, 57) := ⟨⟨by decide +kernel, by decide +kernel⟩, List.mem_of_getElem? (i := 1103) (by decide +kernel), List.mem_of_getElem? (i := 1311) (by decide +kernel), List.mem_of_getElem? (i := 1312) (by decide +kernel)⟩
def lw_privs_3 : List (MethodName × Nat) := [(⟨"PaperParcels$Script", "putIn", "(II)V"⟩, 14), (⟨"PaperParcels$Script", "copyFresh", "(II)V"⟩, 14), (⟨"PaperParcels$Script", "copyOld", "(II)V"⟩, 14), (⟨"PaperParcels$Emitter", "gatherLooks", "(LPaperParcels$Paper;)Z"⟩, 6), (⟨"PaperParcels$Emitter", "styleFor", "(I)I"⟩, 6), (⟨"PaperParcels$Emitter", "putSheet", "()V"⟩, 6), (⟨"PaperParcels$Emitter", "putStyle", "(I)V"⟩, 6), (⟨"PaperParcels$Emitter", "putBody", "(LPaperParcels$Paper;)V"⟩, 6), (⟨"PaperParcels$Emitter", "putEnds", "(LPaperParcels$Paper;II)V"⟩, 6), (⟨"PaperParcels$Emitter", "putEnd", "(LPaperParcels$Paper;I)V"⟩, 6), (⟨"PaperParcels$Emitter", "putRun", "(LPaperParcels$Paper;I)V"⟩, 6), (⟨"PaperParcels$Emitter", "putBegin", "(LPaperParcels$Paper;I)V"⟩, 6), (⟨"PaperParcels$Emitter", "putPart", "(ILPaperParcels$Row;I)V"⟩, 6), (⟨"PaperParcels$Emitter", "pack", "(LPaperParcels$Row;)V"⟩, 6), (⟨"PaperParcelsModel", "textFault", "()I"⟩, 57), (⟨"PaperParcelsModel", "outline", "()I"⟩, 57)]
theorem lw_r3 : ∀ q ∈ lw_privs_3, lw_okq q := List.forall_mem_cons.mpr ⟨lw_p32, List.forall_mem_cons.mpr ⟨lw_p33, List.forall_mem_cons.mpr ⟨lw_p34, List.forall_mem_cons.mpr ⟨lw_p35, List.forall_mem_cons.mpr ⟨lw_p36, List.forall_mem_cons.mpr ⟨lw_p37, List.forall_mem_cons.mpr ⟨lw_p38, List.forall_mem_cons.mpr ⟨lw_p39, List.forall_mem_cons.mpr ⟨lw_p40, List.forall_mem_cons.mpr ⟨lw_p41, List.forall_mem_cons.mpr ⟨lw_p42, List.forall_mem_cons.mpr ⟨lw_p43, List.forall_mem_cons.mpr ⟨lw_p44, List.forall_mem_cons.mpr ⟨lw_p45, List.forall_mem_cons.mpr ⟨lw_p46, List.forall_mem_cons.mpr ⟨lw_p47, fun _ h => absurd h List.not_mem_nil⟩⟩⟩⟩⟩⟩⟩⟩⟩⟩⟩⟩⟩⟩⟩⟩
theorem lw_p48 : lw_okq (⟨"PaperParcelsModel", "charAt", "(I)I"⟩, 57) := ⟨⟨by decide +kernel, by decide +kernel⟩, List.mem_of_getElem? (i := 1103) (by decide +kernel), List.mem_of_getElem? (i := 1315) (by decide +kernel), List.mem_of_getElem? (i := 1316) (by decide +kernel)⟩
theorem lw_p49 : lw_okq (⟨"PaperParcelsModel", "fail", "(II)I"⟩, 57) := ⟨⟨by decide +kernel, by decide +kernel⟩, List.mem_of_getElem? (i := 1103) (by decide +kernel), List.mem_of_getElem? (i := 1325) (by decide +kernel), List.mem_of_getElem? (i := 1326) (by decide +kernel)⟩
theorem lw_p50 : lw_okq (⟨"PaperParcelsModel", "partFault", "(I)I"⟩, 57) := ⟨⟨by decide +kernel, by decide +kernel⟩, List.mem_of_getElem? (i := 1103) (by decide +kernel), List.mem_of_getElem? (i := 1329) (by decide +kernel), List.mem_of_getElem? (i := 1330) (by decide +kernel)⟩
theorem lw_p51 : lw_okq (⟨"PaperParcelsModel", "unpack", "(I)I"⟩, 57) := ⟨⟨by decide +kernel, by decide +kernel⟩, List.mem_of_getElem? (i := 1103) (by decide +kernel), List.mem_of_getElem? (i := 1333) (by decide +kernel), List.mem_of_getElem? (i := 1334) (by decide +kernel)⟩
theorem lw_p52 : lw_okq (⟨"PaperParcelsModel", "reference", "(III)I"⟩, 57) := ⟨⟨by decide +kernel, by decide +kernel⟩, List.mem_of_getElem? (i := 1103) (by decide +kernel), List.mem_of_getElem? (i := 1337) (by decide +kernel), List.mem_of_getElem? (i := 1338) (by decide +kernel)⟩
theorem lw_p53 : lw_okq (⟨"PaperParcelsModel", "isChecked", "(I)Z"⟩, 57) := ⟨⟨by decide +kernel, by decide +kernel⟩, List.mem_of_getElem? (i := 1103) (by decide +kernel), List.mem_of_getElem? (i := 1341) (by decide +kernel), List.mem_of_getElem? (i := 1342) (by decide +kernel)⟩
theorem lw_p54 : lw_okq (⟨"PaperParcelsModel", "scan", "(I)I"⟩, 57) := ⟨⟨by decide +kernel, by decide +kernel⟩, List.mem_of_getElem? (i := 1103) (by decide +kernel), List.mem_of_getElem? (i := 1350) (by decide +kernel), List.mem_of_getElem? (i := 1351) (by decide +kernel)⟩
theorem lw_p55 : lw_okq (⟨"PaperParcelsModel", "in", "(II)I"⟩, 57) := ⟨⟨by decide +kernel, by decide +kernel⟩, List.mem_of_getElem? (i := 1103) (by decide +kernel), List.mem_of_getElem? (i := 1354) (by decide +kernel), List.mem_of_getElem? (i := 1355) (by decide +kernel)⟩
theorem lw_p56 : lw_okq (⟨"PaperParcelsModel", "passEnd", "(I)V"⟩, 57) := ⟨⟨by decide +kernel, by decide +kernel⟩, List.mem_of_getElem? (i := 1103) (by decide +kernel), List.mem_of_getElem? (i := 1358) (by decide +kernel), List.mem_of_getElem? (i := 1359) (by decide +kernel)⟩
theorem lw_p57 : lw_okq (⟨"PaperParcelsModel", "stop", "(I)V"⟩, 57) := ⟨⟨by decide +kernel, by decide +kernel⟩, List.mem_of_getElem? (i := 1103) (by decide +kernel), List.mem_of_getElem? (i := 1362) (by decide +kernel), List.mem_of_getElem? (i := 1363) (by decide +kernel)⟩
theorem lw_p58 : lw_okq (⟨"PaperParcelsModel", "passBeginning", "(I)V"⟩, 57) := ⟨⟨by decide +kernel, by decide +kernel⟩, List.mem_of_getElem? (i := 1103) (by decide +kernel), List.mem_of_getElem? (i := 1366) (by decide +kernel), List.mem_of_getElem? (i := 1367) (by decide +kernel)⟩
theorem lw_p59 : lw_okq (⟨"PaperParcelsModel", "passAttribute", "(II)I"⟩, 57) := ⟨⟨by decide +kernel, by decide +kernel⟩, List.mem_of_getElem? (i := 1103) (by decide +kernel), List.mem_of_getElem? (i := 1373) (by decide +kernel), List.mem_of_getElem? (i := 1374) (by decide +kernel)⟩
theorem lw_p60 : lw_okq (⟨"PaperParcelsModel", "documentFault", "()I"⟩, 57) := ⟨⟨by decide +kernel, by decide +kernel⟩, List.mem_of_getElem? (i := 1103) (by decide +kernel), List.mem_of_getElem? (i := 1383) (by decide +kernel), List.mem_of_getElem? (i := 1384) (by decide +kernel)⟩
theorem lw_p61 : lw_okq (⟨"PaperParcelsModel", "elementFault", "(I)I"⟩, 57) := ⟨⟨by decide +kernel, by decide +kernel⟩, List.mem_of_getElem? (i := 1103) (by decide +kernel), List.mem_of_getElem? (i := 1387) (by decide +kernel), List.mem_of_getElem? (i := 1388) (by decide +kernel)⟩
theorem lw_p62 : lw_okq (⟨"PaperParcelsModel", "misfit", "(II)I"⟩, 57) := ⟨⟨by decide +kernel, by decide +kernel⟩, List.mem_of_getElem? (i := 1103) (by decide +kernel), List.mem_of_getElem? (i := 1391) (by decide +kernel), List.mem_of_getElem? (i := 1392) (by decide +kernel)⟩
theorem lw_p63 : lw_okq (⟨"PaperParcelsModel", "stands", "(II)Z"⟩, 57) := ⟨⟨by decide +kernel, by decide +kernel⟩, List.mem_of_getElem? (i := 1103) (by decide +kernel), List.mem_of_getElem? (i := 1395) (by decide +kernel), List.mem_of_getElem? (i := 1396) (by decide +kernel)⟩
def lw_privs_4 : List (MethodName × Nat) := [(⟨"PaperParcelsModel", "charAt", "(I)I"⟩, 57), (⟨"PaperParcelsModel", "fail", "(II)I"⟩, 57), (⟨"PaperParcelsModel", "partFault", "(I)I"⟩, 57), (⟨"PaperParcelsModel", "unpack", "(I)I"⟩, 57), (⟨"PaperParcelsModel", "reference", "(III)I"⟩, 57), (⟨"PaperParcelsModel", "isChecked", "(I)Z"⟩, 57), (⟨"PaperParcelsModel", "scan", "(I)I"⟩, 57), (⟨"PaperParcelsModel", "in", "(II)I"⟩, 57), (⟨"PaperParcelsModel", "passEnd", "(I)V"⟩, 57), (⟨"PaperParcelsModel", "stop", "(I)V"⟩, 57), (⟨"PaperParcelsModel", "passBeginning", "(I)V"⟩, 57), (⟨"PaperParcelsModel", "passAttribute", "(II)I"⟩, 57), (⟨"PaperParcelsModel", "documentFault", "()I"⟩, 57), (⟨"PaperParcelsModel", "elementFault", "(I)I"⟩, 57), (⟨"PaperParcelsModel", "misfit", "(II)I"⟩, 57), (⟨"PaperParcelsModel", "stands", "(II)Z"⟩, 57)]
theorem lw_r4 : ∀ q ∈ lw_privs_4, lw_okq q := List.forall_mem_cons.mpr ⟨lw_p48, List.forall_mem_cons.mpr ⟨lw_p49, List.forall_mem_cons.mpr ⟨lw_p50, List.forall_mem_cons.mpr ⟨lw_p51, List.forall_mem_cons.mpr ⟨lw_p52, List.forall_mem_cons.mpr ⟨lw_p53, List.forall_mem_cons.mpr ⟨lw_p54, List.forall_mem_cons.mpr ⟨lw_p55, List.forall_mem_cons.mpr ⟨lw_p56, List.forall_mem_cons.mpr ⟨lw_p57, List.forall_mem_cons.mpr ⟨lw_p58, List.forall_mem_cons.mpr ⟨lw_p59, List.forall_mem_cons.mpr ⟨lw_p60, List.forall_mem_cons.mpr ⟨lw_p61, List.forall_mem_cons.mpr ⟨lw_p62, List.forall_mem_cons.mpr ⟨lw_p63, fun _ h => absurd h List.not_mem_nil⟩⟩⟩⟩⟩⟩⟩⟩⟩⟩⟩⟩⟩⟩⟩⟩
theorem lw_p64 : lw_okq (⟨"PaperParcelsModel", "kindOver", "(II)I"⟩, 57) := ⟨⟨by decide +kernel, by decide +kernel⟩, List.mem_of_getElem? (i := 1103) (by decide +kernel), List.mem_of_getElem? (i := 1399) (by decide +kernel), List.mem_of_getElem? (i := 1400) (by decide +kernel)⟩
theorem lw_p65 : lw_okq (⟨"PaperParcelsModel", "badAttribute", "(II)I"⟩, 57) := ⟨⟨by decide +kernel, by decide +kernel⟩, List.mem_of_getElem? (i := 1103) (by decide +kernel), List.mem_of_getElem? (i := 1403) (by decide +kernel), List.mem_of_getElem? (i := 1404) (by decide +kernel)⟩
theorem lw_p66 : lw_okq (⟨"PaperParcelsModel", "pastValue", "(II)I"⟩, 57) := ⟨⟨by decide +kernel, by decide +kernel⟩, List.mem_of_getElem? (i := 1103) (by decide +kernel), List.mem_of_getElem? (i := 1407) (by decide +kernel), List.mem_of_getElem? (i := 1408) (by decide +kernel)⟩
theorem lw_p67 : lw_okq (⟨"PaperParcelsModel", "may", "(IIIII)Z"⟩, 57) := ⟨⟨by decide +kernel, by decide +kernel⟩, List.mem_of_getElem? (i := 1103) (by decide +kernel), List.mem_of_getElem? (i := 1411) (by decide +kernel), List.mem_of_getElem? (i := 1412) (by decide +kernel)⟩
theorem lw_p68 : lw_okq (⟨"PaperParcelsModel", "valueAt", "(III)I"⟩, 57) := ⟨⟨by decide +kernel, by decide +kernel⟩, List.mem_of_getElem? (i := 1103) (by decide +kernel), List.mem_of_getElem? (i := 1415) (by decide +kernel), List.mem_of_getElem? (i := 1416) (by decide +kernel)⟩
theorem lw_p69 : lw_okq (⟨"PaperParcelsModel", "firstLetter", "(II)I"⟩, 57) := ⟨⟨by decide +kernel, by decide +kernel⟩, List.mem_of_getElem? (i := 1103) (by decide +kernel), List.mem_of_getElem? (i := 1419) (by decide +kernel), List.mem_of_getElem? (i := 1420) (by decide +kernel)⟩
theorem lw_p70 : lw_okq (⟨"PaperParcelsModel", "has", "(IIII)Z"⟩, 57) := ⟨⟨by decide +kernel, by decide +kernel⟩, List.mem_of_getElem? (i := 1103) (by decide +kernel), List.mem_of_getElem? (i := 1423) (by decide +kernel), List.mem_of_getElem? (i := 1424) (by decide +kernel)⟩
theorem lw_p71 : lw_okq (⟨"PaperParcelsModel", "noteStyles", "()I"⟩, 57) := ⟨⟨by decide +kernel, by decide +kernel⟩, List.mem_of_getElem? (i := 1103) (by decide +kernel), List.mem_of_getElem? (i := 1427) (by decide +kernel), List.mem_of_getElem? (i := 1428) (by decide +kernel)⟩
theorem lw_p72 : lw_okq (⟨"PaperParcelsModel", "capital", "(III)I"⟩, 57) := ⟨⟨by decide +kernel, by decide +kernel⟩, List.mem_of_getElem? (i := 1103) (by decide +kernel), List.mem_of_getElem? (i := 1431) (by decide +kernel), List.mem_of_getElem? (i := 1432) (by decide +kernel)⟩
theorem lw_p73 : lw_okq (⟨"PaperParcelsModel", "number", "(II)I"⟩, 57) := ⟨⟨by decide +kernel, by decide +kernel⟩, List.mem_of_getElem? (i := 1103) (by decide +kernel), List.mem_of_getElem? (i := 1435) (by decide +kernel), List.mem_of_getElem? (i := 1436) (by decide +kernel)⟩
theorem lw_p74 : lw_okq (⟨"PaperParcelsModel", "ends", "(I)Z"⟩, 57) := ⟨⟨by decide +kernel, by decide +kernel⟩, List.mem_of_getElem? (i := 1103) (by decide +kernel), List.mem_of_getElem? (i := 1439) (by decide +kernel), List.mem_of_getElem? (i := 1440) (by decide +kernel)⟩
theorem lw_p75 : lw_okq (⟨"PaperParcelsModel", "unknownStyle", "()I"⟩, 57) := ⟨⟨by decide +kernel, by decide +kernel⟩, List.mem_of_getElem? (i := 1103) (by decide +kernel), List.mem_of_getElem? (i := 1443) (by decide +kernel), List.mem_of_getElem? (i := 1444) (by decide +kernel)⟩
theorem lw_p76 : lw_okq (⟨"PaperParcelsModel", "form", "()V"⟩, 57) := ⟨⟨by decide +kernel, by decide +kernel⟩, List.mem_of_getElem? (i := 1103) (by decide +kernel), List.mem_of_getElem? (i := 1447) (by decide +kernel), List.mem_of_getElem? (i := 1448) (by decide +kernel)⟩
theorem lw_p77 : lw_okq (⟨"PaperParcelsModel", "addNode", "(III)V"⟩, 57) := ⟨⟨by decide +kernel, by decide +kernel⟩, List.mem_of_getElem? (i := 1103) (by decide +kernel), List.mem_of_getElem? (i := 1451) (by decide +kernel), List.mem_of_getElem? (i := 1452) (by decide +kernel)⟩
theorem lw_p78 : lw_okq (⟨"PaperParcelsModel", "formParagraph", "(I)V"⟩, 57) := ⟨⟨by decide +kernel, by decide +kernel⟩, List.mem_of_getElem? (i := 1103) (by decide +kernel), List.mem_of_getElem? (i := 1455) (by decide +kernel), List.mem_of_getElem? (i := 1456) (by decide +kernel)⟩
theorem lw_p79 : lw_okq (⟨"PaperParcelsModel", "giveLook", "(II)V"⟩, 57) := ⟨⟨by decide +kernel, by decide +kernel⟩, List.mem_of_getElem? (i := 1103) (by decide +kernel), List.mem_of_getElem? (i := 1459) (by decide +kernel), List.mem_of_getElem? (i := 1460) (by decide +kernel)⟩
def lw_privs_5 : List (MethodName × Nat) := [(⟨"PaperParcelsModel", "kindOver", "(II)I"⟩, 57), (⟨"PaperParcelsModel", "badAttribute", "(II)I"⟩, 57), (⟨"PaperParcelsModel", "pastValue", "(II)I"⟩, 57), (⟨"PaperParcelsModel", "may", "(IIIII)Z"⟩, 57), (⟨"PaperParcelsModel", "valueAt", "(III)I"⟩, 57), (⟨"PaperParcelsModel", "firstLetter", "(II)I"⟩, 57), (⟨"PaperParcelsModel", "has", "(IIII)Z"⟩, 57), (⟨"PaperParcelsModel", "noteStyles", "()I"⟩, 57), (⟨"PaperParcelsModel", "capital", "(III)I"⟩, 57), (⟨"PaperParcelsModel", "number", "(II)I"⟩, 57), (⟨"PaperParcelsModel", "ends", "(I)Z"⟩, 57), (⟨"PaperParcelsModel", "unknownStyle", "()I"⟩, 57), (⟨"PaperParcelsModel", "form", "()V"⟩, 57), (⟨"PaperParcelsModel", "addNode", "(III)V"⟩, 57), (⟨"PaperParcelsModel", "formParagraph", "(I)V"⟩, 57), (⟨"PaperParcelsModel", "giveLook", "(II)V"⟩, 57)]
theorem lw_r5 : ∀ q ∈ lw_privs_5, lw_okq q := List.forall_mem_cons.mpr ⟨lw_p64, List.forall_mem_cons.mpr ⟨lw_p65, List.forall_mem_cons.mpr ⟨lw_p66, List.forall_mem_cons.mpr ⟨lw_p67, List.forall_mem_cons.mpr ⟨lw_p68, List.forall_mem_cons.mpr ⟨lw_p69, List.forall_mem_cons.mpr ⟨lw_p70, List.forall_mem_cons.mpr ⟨lw_p71, List.forall_mem_cons.mpr ⟨lw_p72, List.forall_mem_cons.mpr ⟨lw_p73, List.forall_mem_cons.mpr ⟨lw_p74, List.forall_mem_cons.mpr ⟨lw_p75, List.forall_mem_cons.mpr ⟨lw_p76, List.forall_mem_cons.mpr ⟨lw_p77, List.forall_mem_cons.mpr ⟨lw_p78, List.forall_mem_cons.mpr ⟨lw_p79, fun _ h => absurd h List.not_mem_nil⟩⟩⟩⟩⟩⟩⟩⟩⟩⟩⟩⟩⟩⟩⟩⟩
theorem lw_p80 : lw_okq (⟨"PaperParcelsModel", "lookOf", "(II)I"⟩, 57) := ⟨⟨by decide +kernel, by decide +kernel⟩, List.mem_of_getElem? (i := 1103) (by decide +kernel), List.mem_of_getElem? (i := 1463) (by decide +kernel), List.mem_of_getElem? (i := 1464) (by decide +kernel)⟩
theorem lw_p81 : lw_okq (⟨"PaperParcelsModel", "given", "(II)I"⟩, 57) := ⟨⟨by decide +kernel, by decide +kernel⟩, List.mem_of_getElem? (i := 1103) (by decide +kernel), List.mem_of_getElem? (i := 1467) (by decide +kernel), List.mem_of_getElem? (i := 1468) (by decide +kernel)⟩
theorem lw_p82 : lw_okq (⟨"PaperParcelsModel", "paragraphOf", "(I)I"⟩, 57) := ⟨⟨by decide +kernel, by decide +kernel⟩, List.mem_of_getElem? (i := 1103) (by decide +kernel), List.mem_of_getElem? (i := 1471) (by decide +kernel), List.mem_of_getElem? (i := 1472) (by decide +kernel)⟩
theorem lw_p83 : lw_okq (⟨"PaperParcelsModel", "hasLook", "(II)Z"⟩, 57) := ⟨⟨by decide +kernel, by decide +kernel⟩, List.mem_of_getElem? (i := 1103) (by decide +kernel), List.mem_of_getElem? (i := 1475) (by decide +kernel), List.mem_of_getElem? (i := 1476) (by decide +kernel)⟩
theorem lw_p84 : lw_okq (⟨"PaperParcelsModel", "addLetter", "(II)V"⟩, 57) := ⟨⟨by decide +kernel, by decide +kernel⟩, List.mem_of_getElem? (i := 1103) (by decide +kernel), List.mem_of_getElem? (i := 1479) (by decide +kernel), List.mem_of_getElem? (i := 1480) (by decide +kernel)⟩
theorem lw_p85 : lw_okq (⟨"PaperParcelsModel", "copyNode", "(IIII)V"⟩, 57) := ⟨⟨by decide +kernel, by decide +kernel⟩, List.mem_of_getElem? (i := 1103) (by decide +kernel), List.mem_of_getElem? (i := 1483) (by decide +kernel), List.mem_of_getElem? (i := 1484) (by decide +kernel)⟩
theorem lw_p86 : lw_okq (⟨"PaperParcelsModel", "copyInside", "(IIII)V"⟩, 57) := ⟨⟨by decide +kernel, by decide +kernel⟩, List.mem_of_getElem? (i := 1103) (by decide +kernel), List.mem_of_getElem? (i := 1487) (by decide +kernel), List.mem_of_getElem? (i := 1488) (by decide +kernel)⟩
theorem lw_p87 : lw_okq (⟨"PaperParcelsModel", "isNode", "(II)Z"⟩, 57) := ⟨⟨by decide +kernel, by decide +kernel⟩, List.mem_of_getElem? (i := 1103) (by decide +kernel), List.mem_of_getElem? (i := 1506) (by decide +kernel), List.mem_of_getElem? (i := 1507) (by decide +kernel)⟩
theorem lw_p88 : lw_okq (⟨"PaperParcelsModel", "refuse", "(I)I"⟩, 57) := ⟨⟨by decide +kernel, by decide +kernel⟩, List.mem_of_getElem? (i := 1103) (by decide +kernel), List.mem_of_getElem? (i := 1518) (by decide +kernel), List.mem_of_getElem? (i := 1519) (by decide +kernel)⟩
theorem lw_p89 : lw_okq (⟨"PaperParcelsModel", "weigh", "(I)V"⟩, 57) := ⟨⟨by decide +kernel, by decide +kernel⟩, List.mem_of_getElem? (i := 1103) (by decide +kernel), List.mem_of_getElem? (i := 1534) (by decide +kernel), List.mem_of_getElem? (i := 1535) (by decide +kernel)⟩
theorem lw_p90 : lw_okq (⟨"PaperParcelsModel", "costs", "()V"⟩, 57) := ⟨⟨by decide +kernel, by decide +kernel⟩, List.mem_of_getElem? (i := 1103) (by decide +kernel), List.mem_of_getElem? (i := 1538) (by decide +kernel), List.mem_of_getElem? (i := 1539) (by decide +kernel)⟩
theorem lw_p91 : lw_okq (⟨"PaperParcelsModel", "lay", "(II)V"⟩, 57) := ⟨⟨by decide +kernel, by decide +kernel⟩, List.mem_of_getElem? (i := 1103) (by decide +kernel), List.mem_of_getElem? (i := 1542) (by decide +kernel), List.mem_of_getElem? (i := 1543) (by decide +kernel)⟩
theorem lw_p92 : lw_okq (⟨"PaperParcelsModel", "isPair", "(II)Z"⟩, 57) := ⟨⟨by decide +kernel, by decide +kernel⟩, List.mem_of_getElem? (i := 1103) (by decide +kernel), List.mem_of_getElem? (i := 1547) (by decide +kernel), List.mem_of_getElem? (i := 1548) (by decide +kernel)⟩
theorem lw_p93 : lw_okq (⟨"PaperParcelsModel", "change", "(II)I"⟩, 57) := ⟨⟨by decide +kernel, by decide +kernel⟩, List.mem_of_getElem? (i := 1103) (by decide +kernel), List.mem_of_getElem? (i := 1551) (by decide +kernel), List.mem_of_getElem? (i := 1552) (by decide +kernel)⟩
theorem lw_p94 : lw_okq (⟨"PaperParcelsModel", "sameLetters", "(II)Z"⟩, 57) := ⟨⟨by decide +kernel, by decide +kernel⟩, List.mem_of_getElem? (i := 1103) (by decide +kernel), List.mem_of_getElem? (i := 1555) (by decide +kernel), List.mem_of_getElem? (i := 1556) (by decide +kernel)⟩
theorem lw_p95 : lw_okq (⟨"PaperParcelsModel", "beginPair", "(III)V"⟩, 57) := ⟨⟨by decide +kernel, by decide +kernel⟩, List.mem_of_getElem? (i := 1103) (by decide +kernel), List.mem_of_getElem? (i := 1559) (by decide +kernel), List.mem_of_getElem? (i := 1560) (by decide +kernel)⟩
def lw_privs_6 : List (MethodName × Nat) := [(⟨"PaperParcelsModel", "lookOf", "(II)I"⟩, 57), (⟨"PaperParcelsModel", "given", "(II)I"⟩, 57), (⟨"PaperParcelsModel", "paragraphOf", "(I)I"⟩, 57), (⟨"PaperParcelsModel", "hasLook", "(II)Z"⟩, 57), (⟨"PaperParcelsModel", "addLetter", "(II)V"⟩, 57), (⟨"PaperParcelsModel", "copyNode", "(IIII)V"⟩, 57), (⟨"PaperParcelsModel", "copyInside", "(IIII)V"⟩, 57), (⟨"PaperParcelsModel", "isNode", "(II)Z"⟩, 57), (⟨"PaperParcelsModel", "refuse", "(I)I"⟩, 57), (⟨"PaperParcelsModel", "weigh", "(I)V"⟩, 57), (⟨"PaperParcelsModel", "costs", "()V"⟩, 57), (⟨"PaperParcelsModel", "lay", "(II)V"⟩, 57), (⟨"PaperParcelsModel", "isPair", "(II)Z"⟩, 57), (⟨"PaperParcelsModel", "change", "(II)I"⟩, 57), (⟨"PaperParcelsModel", "sameLetters", "(II)Z"⟩, 57), (⟨"PaperParcelsModel", "beginPair", "(III)V"⟩, 57)]
theorem lw_r6 : ∀ q ∈ lw_privs_6, lw_okq q := List.forall_mem_cons.mpr ⟨lw_p80, List.forall_mem_cons.mpr ⟨lw_p81, List.forall_mem_cons.mpr ⟨lw_p82, List.forall_mem_cons.mpr ⟨lw_p83, List.forall_mem_cons.mpr ⟨lw_p84, List.forall_mem_cons.mpr ⟨lw_p85, List.forall_mem_cons.mpr ⟨lw_p86, List.forall_mem_cons.mpr ⟨lw_p87, List.forall_mem_cons.mpr ⟨lw_p88, List.forall_mem_cons.mpr ⟨lw_p89, List.forall_mem_cons.mpr ⟨lw_p90, List.forall_mem_cons.mpr ⟨lw_p91, List.forall_mem_cons.mpr ⟨lw_p92, List.forall_mem_cons.mpr ⟨lw_p93, List.forall_mem_cons.mpr ⟨lw_p94, List.forall_mem_cons.mpr ⟨lw_p95, fun _ h => absurd h List.not_mem_nil⟩⟩⟩⟩⟩⟩⟩⟩⟩⟩⟩⟩⟩⟩⟩⟩
theorem lw_p96 : lw_okq (⟨"PaperParcelsModel", "addStep", "(IIII)V"⟩, 57) := ⟨⟨by decide +kernel, by decide +kernel⟩, List.mem_of_getElem? (i := 1103) (by decide +kernel), List.mem_of_getElem? (i := 1563) (by decide +kernel), List.mem_of_getElem? (i := 1564) (by decide +kernel)⟩
theorem lw_p97 : lw_okq (⟨"PaperParcelsModel", "goOn", "(I)Z"⟩, 57) := ⟨⟨by decide +kernel, by decide +kernel⟩, List.mem_of_getElem? (i := 1103) (by decide +kernel), List.mem_of_getElem? (i := 1567) (by decide +kernel), List.mem_of_getElem? (i := 1568) (by decide +kernel)⟩
theorem lw_p98 : lw_okq (⟨"PaperParcelsModel", "mark", "(I)V"⟩, 57) := ⟨⟨by decide +kernel, by decide +kernel⟩, List.mem_of_getElem? (i := 1103) (by decide +kernel), List.mem_of_getElem? (i := 1583) (by decide +kernel), List.mem_of_getElem? (i := 1584) (by decide +kernel)⟩
theorem lw_p99 : lw_okq (⟨"PaperParcelsModel", "endOf", "(II)I"⟩, 57) := ⟨⟨by decide +kernel, by decide +kernel⟩, List.mem_of_getElem? (i := 1103) (by decide +kernel), List.mem_of_getElem? (i := 1587) (by decide +kernel), List.mem_of_getElem? (i := 1588) (by decide +kernel)⟩
theorem lw_p100 : lw_okq (⟨"PaperParcelsModel", "putIn", "(III)V"⟩, 57) := ⟨⟨by decide +kernel, by decide +kernel⟩, List.mem_of_getElem? (i := 1103) (by decide +kernel), List.mem_of_getElem? (i := 1591) (by decide +kernel), List.mem_of_getElem? (i := 1592) (by decide +kernel)⟩
theorem lw_p101 : lw_okq (⟨"PaperParcelsModel", "keep", "(I)V"⟩, 57) := ⟨⟨by decide +kernel, by decide +kernel⟩, List.mem_of_getElem? (i := 1103) (by decide +kernel), List.mem_of_getElem? (i := 1595) (by decide +kernel), List.mem_of_getElem? (i := 1596) (by decide +kernel)⟩
theorem lw_p102 : lw_okq (⟨"PaperParcelsModel", "sayStyles", "(I)V"⟩, 57) := ⟨⟨by decide +kernel, by decide +kernel⟩, List.mem_of_getElem? (i := 1103) (by decide +kernel), List.mem_of_getElem? (i := 1603) (by decide +kernel), List.mem_of_getElem? (i := 1604) (by decide +kernel)⟩
theorem lw_p103 : lw_okq (⟨"PaperParcelsModel", "needs", "(II)Z"⟩, 57) := ⟨⟨by decide +kernel, by decide +kernel⟩, List.mem_of_getElem? (i := 1103) (by decide +kernel), List.mem_of_getElem? (i := 1607) (by decide +kernel), List.mem_of_getElem? (i := 1608) (by decide +kernel)⟩
theorem lw_p104 : lw_okq (⟨"PaperParcelsModel", "placeOfLook", "(II)I"⟩, 57) := ⟨⟨by decide +kernel, by decide +kernel⟩, List.mem_of_getElem? (i := 1103) (by decide +kernel), List.mem_of_getElem? (i := 1611) (by decide +kernel), List.mem_of_getElem? (i := 1612) (by decide +kernel)⟩
theorem lw_p105 : lw_okq (⟨"PaperParcelsModel", "sayAll", "(IJ)V"⟩, 57) := ⟨⟨by decide +kernel, by decide +kernel⟩, List.mem_of_getElem? (i := 1103) (by decide +kernel), List.mem_of_getElem? (i := 1616) (by decide +kernel), List.mem_of_getElem? (i := 1617) (by decide +kernel)⟩
theorem lw_p106 : lw_okq (⟨"PaperParcelsModel", "say", "(II)V"⟩, 57) := ⟨⟨by decide +kernel, by decide +kernel⟩, List.mem_of_getElem? (i := 1103) (by decide +kernel), List.mem_of_getElem? (i := 1620) (by decide +kernel), List.mem_of_getElem? (i := 1621) (by decide +kernel)⟩
theorem lw_p107 : lw_okq (⟨"PaperParcelsModel", "sayAttribute", "(IIII)V"⟩, 57) := ⟨⟨by decide +kernel, by decide +kernel⟩, List.mem_of_getElem? (i := 1103) (by decide +kernel), List.mem_of_getElem? (i := 1627) (by decide +kernel), List.mem_of_getElem? (i := 1628) (by decide +kernel)⟩
theorem lw_p108 : lw_okq (⟨"PaperParcelsModel", "sayNodes", "(I)V"⟩, 57) := ⟨⟨by decide +kernel, by decide +kernel⟩, List.mem_of_getElem? (i := 1103) (by decide +kernel), List.mem_of_getElem? (i := 1632) (by decide +kernel), List.mem_of_getElem? (i := 1633) (by decide +kernel)⟩
theorem lw_p109 : lw_okq (⟨"PaperParcelsModel", "sayRun", "(II)V"⟩, 57) := ⟨⟨by decide +kernel, by decide +kernel⟩, List.mem_of_getElem? (i := 1103) (by decide +kernel), List.mem_of_getElem? (i := 1640) (by decide +kernel), List.mem_of_getElem? (i := 1641) (by decide +kernel)⟩
theorem lw_p110 : lw_okq (⟨"PaperParcelsModel", "pack", "(II)V"⟩, 57) := ⟨⟨by decide +kernel, by decide +kernel⟩, List.mem_of_getElem? (i := 1103) (by decide +kernel), List.mem_of_getElem? (i := 1646) (by decide +kernel), List.mem_of_getElem? (i := 1647) (by decide +kernel)⟩
theorem lw_p111 : lw_okq (⟨"PaperParcelsModel", "alike", "(III)I"⟩, 57) := ⟨⟨by decide +kernel, by decide +kernel⟩, List.mem_of_getElem? (i := 1103) (by decide +kernel), List.mem_of_getElem? (i := 1650) (by decide +kernel), List.mem_of_getElem? (i := 1651) (by decide +kernel)⟩
def lw_privs_7 : List (MethodName × Nat) := [(⟨"PaperParcelsModel", "addStep", "(IIII)V"⟩, 57), (⟨"PaperParcelsModel", "goOn", "(I)Z"⟩, 57), (⟨"PaperParcelsModel", "mark", "(I)V"⟩, 57), (⟨"PaperParcelsModel", "endOf", "(II)I"⟩, 57), (⟨"PaperParcelsModel", "putIn", "(III)V"⟩, 57), (⟨"PaperParcelsModel", "keep", "(I)V"⟩, 57), (⟨"PaperParcelsModel", "sayStyles", "(I)V"⟩, 57), (⟨"PaperParcelsModel", "needs", "(II)Z"⟩, 57), (⟨"PaperParcelsModel", "placeOfLook", "(II)I"⟩, 57), (⟨"PaperParcelsModel", "sayAll", "(IJ)V"⟩, 57), (⟨"PaperParcelsModel", "say", "(II)V"⟩, 57), (⟨"PaperParcelsModel", "sayAttribute", "(IIII)V"⟩, 57), (⟨"PaperParcelsModel", "sayNodes", "(I)V"⟩, 57), (⟨"PaperParcelsModel", "sayRun", "(II)V"⟩, 57), (⟨"PaperParcelsModel", "pack", "(II)V"⟩, 57), (⟨"PaperParcelsModel", "alike", "(III)I"⟩, 57)]
theorem lw_r7 : ∀ q ∈ lw_privs_7, lw_okq q := List.forall_mem_cons.mpr ⟨lw_p96, List.forall_mem_cons.mpr ⟨lw_p97, List.forall_mem_cons.mpr ⟨lw_p98, List.forall_mem_cons.mpr ⟨lw_p99, List.forall_mem_cons.mpr ⟨lw_p100, List.forall_mem_cons.mpr ⟨lw_p101, List.forall_mem_cons.mpr ⟨lw_p102, List.forall_mem_cons.mpr ⟨lw_p103, List.forall_mem_cons.mpr ⟨lw_p104, List.forall_mem_cons.mpr ⟨lw_p105, List.forall_mem_cons.mpr ⟨lw_p106, List.forall_mem_cons.mpr ⟨lw_p107, List.forall_mem_cons.mpr ⟨lw_p108, List.forall_mem_cons.mpr ⟨lw_p109, List.forall_mem_cons.mpr ⟨lw_p110, List.forall_mem_cons.mpr ⟨lw_p111, fun _ h => absurd h List.not_mem_nil⟩⟩⟩⟩⟩⟩⟩⟩⟩⟩⟩⟩⟩⟩⟩⟩
theorem lw_p112 : lw_okq (⟨"PaperParcelsModel", "put", "(II)V"⟩, 57) := ⟨⟨by decide +kernel, by decide +kernel⟩, List.mem_of_getElem? (i := 1103) (by decide +kernel), List.mem_of_getElem? (i := 1654) (by decide +kernel), List.mem_of_getElem? (i := 1655) (by decide +kernel)⟩
theorem lw_p113 : lw_okq (⟨"PaperParcelsModel", "typePart", "(II)V"⟩, 57) := ⟨⟨by decide +kernel, by decide +kernel⟩, List.mem_of_getElem? (i := 1103) (by decide +kernel), List.mem_of_getElem? (i := 1658) (by decide +kernel), List.mem_of_getElem? (i := 1659) (by decide +kernel)⟩
theorem lw_p114 : lw_okq (⟨"PaperParcelsModel", "type", "(I)V"⟩, 57) := ⟨⟨by decide +kernel, by decide +kernel⟩, List.mem_of_getElem? (i := 1103) (by decide +kernel), List.mem_of_getElem? (i := 1662) (by decide +kernel), List.mem_of_getElem? (i := 1663) (by decide +kernel)⟩
def lw_privs_8 : List (MethodName × Nat) := [(⟨"PaperParcelsModel", "put", "(II)V"⟩, 57), (⟨"PaperParcelsModel", "typePart", "(II)V"⟩, 57), (⟨"PaperParcelsModel", "type", "(I)V"⟩, 57)]
theorem lw_r8 : ∀ q ∈ lw_privs_8, lw_okq q := List.forall_mem_cons.mpr ⟨lw_p112, List.forall_mem_cons.mpr ⟨lw_p113, List.forall_mem_cons.mpr ⟨lw_p114, fun _ h => absurd h List.not_mem_nil⟩⟩⟩
def lw_privs : List (MethodName × Nat) := lw_privs_1 ++ (lw_privs_2 ++ (lw_privs_3 ++ (lw_privs_4 ++ (lw_privs_5 ++ (lw_privs_6 ++ (lw_privs_7 ++ (lw_privs_8)))))))
def lw_tbl : List Cond := k2_sels lw_privs ++ tables_1
theorem lw_privs_ok : ∀ q ∈ lw_privs, lw_okq q := by
  show ∀ q ∈ lw_privs_1 ++ (lw_privs_2 ++ (lw_privs_3 ++ (lw_privs_4 ++ (lw_privs_5 ++ (lw_privs_6 ++ (lw_privs_7 ++ (lw_privs_8))))))), lw_okq q
  exact List.forall_mem_append.mpr ⟨lw_r1, List.forall_mem_append.mpr ⟨lw_r2, List.forall_mem_append.mpr ⟨lw_r3, List.forall_mem_append.mpr ⟨lw_r4, List.forall_mem_append.mpr ⟨lw_r5, List.forall_mem_append.mpr ⟨lw_r6, List.forall_mem_append.mpr ⟨lw_r7, lw_r8⟩⟩⟩⟩⟩⟩⟩
end
section
/-! An abstract machine over places: what a method does to the cells that the law has made, by computation. A reference is the number of a cell (its place); 'ad' says at which address a place lies. -/
def am_v (ad : Nat → Nat) (v : Value) : Value := match v with
  | .ref k => .ref (ad k)
  | w => w
/-- locals by their numbers; none: nothing is known -/
def am_has (ad : Nat → Nat) (ls : Array Slot) (nL : Nat) (L : List (Option Value)) : Prop := ls.size = nL ∧ lv_wf ls ∧ L.length = nL ∧ ∀ (i : Nat) (w : Value), L[i]? = some (some w) → ls[i]? = some (.val (am_v ad w))
def am_le (L' L : List (Option Value)) : Prop := L'.length = L.length ∧ ∀ (i : Nat) (w : Value), L'[i]? = some (some w) → L[i]? = some (some w)
theorem am_has_le {ad : Nat → Nat} {ls : Array Slot} {nL : Nat} {L L' : List (Option Value)} (h : am_has ad ls nL L) (hl : am_le L' L) : am_has ad ls nL L' :=
  ⟨h.1, h.2.1, hl.1.trans h.2.2.1, fun i w hw => h.2.2.2 i w (hl.2 i w hw)⟩
theorem am_cat (ad : Nat → Nat) (v : Value) : (am_v ad v).category = v.category := by cases v <;> rfl
/-- no long stands just below the local i -/
def am_lo (L : List (Option Value)) (i : Nat) : Bool := match i with
  | 0 => true
  | j + 1 => match L[j]? with
    | some (some v) => v.category == 1
    | _ => true
def am_s1 (L : List (Option Value)) (i : Nat) (v : Value) : Option (List (Option Value)) := if i < L.length ∧ am_lo L i = true then some (L.set i (some v)) else none
def am_s2 (L : List (Option Value)) (i : Nat) (v : Value) : Option (List (Option Value)) := if i + 1 < L.length ∧ am_lo L i = true then some ((L.set i (some v)).set (i + 1) none) else none
/-- the list of the kit's locals that says as much -/
def am_ll (ad : Nat → Nat) (L : List (Option Value)) : List (Nat × Value) := (List.range L.length).filterMap (fun i => match L[i]? with
  | some (some w) => some (i, am_v ad w)
  | _ => none)
theorem am_ll_mem {ad : Nat → Nat} {L : List (Option Value)} {q : Nat × Value} : q ∈ am_ll ad L ↔ ∃ w, L[q.1]? = some (some w) ∧ q.2 = am_v ad w := by
  unfold am_ll
  rw [List.mem_filterMap]
  constructor
  · rintro ⟨i, hi, h⟩
    split at h
    · next w hw =>
      cases h
      exact ⟨w, hw, rfl⟩
    · cases h
  · rintro ⟨w, hw, e⟩
    refine ⟨q.1, List.mem_range.mpr (List.getElem?_eq_some_iff.mp hw).1, ?_⟩
    rw [hw]
    simp only
    rw [← e]
theorem am_has_lv {ad : Nat → Nat} {ls : Array Slot} {nL : Nat} {L : List (Option Value)} (h : am_has ad ls nL L) : lv_has ls nL (am_ll ad L) := by
  refine ⟨h.1, h.2.1, fun q hq => ?_⟩
  obtain ⟨w, hw, e⟩ := am_ll_mem.mp hq
  rw [e]
  exact h.2.2.2 _ _ hw
theorem am_has_s1 {ad : Nat → Nat} {ls' : Array Slot} {nL i : Nat} {v : Value} {L L' : List (Option Value)} (hn : L.length = nL) (hs : am_s1 L i v = some L')
    (h : lv_has ls' nL ((i, am_v ad v) :: (am_ll ad L).filter (fun q => !(q.1 == i) && !(q.1 + 1 == i && q.2.category == 2)))) : am_has ad ls' nL L' := by
  unfold am_s1 at hs
  split at hs
  · next hc =>
    cases hs
    refine ⟨h.1, h.2.1, by simpa using hn, fun j w hw => ?_⟩
    by_cases hj : j = i
    · subst hj
      rw [List.getElem?_set_self hc.1] at hw
      cases hw
      exact h.2.2 (j, am_v ad v) List.mem_cons_self
    · rw [List.getElem?_set_ne (fun e => hj e.symm)] at hw
      refine h.2.2 (j, am_v ad w) (List.mem_cons_of_mem _ (List.mem_filter.mpr ⟨am_ll_mem.mpr ⟨w, hw, rfl⟩, ?_⟩))
      have h1 : (j == i) = false := by simpa using hj
      simp only [h1, Bool.not_false, Bool.true_and, Bool.not_eq_true']
      by_cases hj1 : j + 1 = i
      · subst hj1
        have h2 := hc.2
        simp only [am_lo, hw] at h2
        rw [am_cat]
        have h3 : w.category = 1 := by simpa using h2
        simp [h3]
      · have h2 : (j + 1 == i) = false := by simpa using hj1
        simp [h2]
  · cases hs
theorem am_has_s2 {ad : Nat → Nat} {ls' : Array Slot} {nL i : Nat} {v : Value} {L L' : List (Option Value)} (hn : L.length = nL) (hs : am_s2 L i v = some L')
    (h : lv_has ls' nL ((i, am_v ad v) :: (am_ll ad L).filter (fun q => !(q.1 == i) && (!(q.1 == i + 1) && !(q.1 + 1 == i && q.2.category == 2))))) : am_has ad ls' nL L' := by
  unfold am_s2 at hs
  split at hs
  · next hc =>
    cases hs
    refine ⟨h.1, h.2.1, by simpa using hn, fun j w hw => ?_⟩
    by_cases hj2 : j = i + 1
    · subst hj2
      rw [List.getElem?_set_self (by simpa using hc.1)] at hw
      cases hw
    · rw [List.getElem?_set_ne (fun e => hj2 e.symm)] at hw
      by_cases hj : j = i
      · subst hj
        rw [List.getElem?_set_self (by omega)] at hw
        cases hw
        exact h.2.2 (j, am_v ad v) List.mem_cons_self
      · rw [List.getElem?_set_ne (fun e => hj e.symm)] at hw
        refine h.2.2 (j, am_v ad w) (List.mem_cons_of_mem _ (List.mem_filter.mpr ⟨am_ll_mem.mpr ⟨w, hw, rfl⟩, ?_⟩))
        have h1 : (j == i) = false := by simpa using hj
        have h1' : (j == i + 1) = false := by simpa using hj2
        simp only [h1, h1', Bool.not_false, Bool.true_and, Bool.not_eq_true']
        by_cases hj1 : j + 1 = i
        · subst hj1
          have h2 := hc.2
          simp only [am_lo, hw] at h2
          rw [am_cat]
          have h3 : w.category = 1 := by simpa using h2
          simp [h3]
        · have h2 : (j + 1 == i) = false := by simpa using hj1
          simp [h2]
  · cases hs
end
section
/-! The instructions that touch no cell: pc, locals, stack. -/
abbrev am_cfg : Type := Nat × List (Option Value) × List Value
def am_tgt (pc : Nat) (off : Int) : Nat := ((pc : Int) + off).toNat
def am_pA (i : Instr) (n pc : Nat) (L : List (Option Value)) (st : List Value) : Option am_cfg := match i, n with
  | .iconst k, 1 => some (pc + 1, L, .int (Int32.ofInt k) :: st)
  | .bipush k, 2 => some (pc + 2, L, .int (Int8.ofInt k).toInt32 :: st)
  | .sipush k, 3 => some (pc + 3, L, .int (Int16.ofInt k).toInt32 :: st)
  | .lconst k, 1 => some (pc + 1, L, .long (Int64.ofNat (k : Nat)) :: st)
  | .iload_n k, 1 => match L[(k : Nat)]? with
    | some (some (.int x)) => some (pc + 1, L, .int x :: st)
    | _ => none
  | .iload k, 2 => match L[k]? with
    | some (some (.int x)) => some (pc + 2, L, .int x :: st)
    | _ => none
  | .lload_n k, 1 => match L[(k : Nat)]? with
    | some (some (.long x)) => some (pc + 1, L, .long x :: st)
    | _ => none
  | .lload k, 2 => match L[k]? with
    | some (some (.long x)) => some (pc + 2, L, .long x :: st)
    | _ => none
  | .aload_n k, 1 => match L[(k : Nat)]? with
    | some (some (.ref x)) => some (pc + 1, L, .ref x :: st)
    | _ => none
  | .aload k, 2 => match L[k]? with
    | some (some (.ref x)) => some (pc + 2, L, .ref x :: st)
    | _ => none
  | _, _ => none
def am_pB (i : Instr) (n pc : Nat) (L : List (Option Value)) (st : List Value) : Option am_cfg := match i, n, st with
  | .istore_n k, 1, .int x :: t => (am_s1 L (k : Nat) (.int x)).map (fun L' => (pc + 1, L', t))
  | .istore k, 2, .int x :: t => (am_s1 L k (.int x)).map (fun L' => (pc + 2, L', t))
  | .astore_n k, 1, .ref x :: t => (am_s1 L (k : Nat) (.ref x)).map (fun L' => (pc + 1, L', t))
  | .astore k, 2, .ref x :: t => (am_s1 L k (.ref x)).map (fun L' => (pc + 2, L', t))
  | .lstore_n k, 1, .long x :: t => (am_s2 L (k : Nat) (.long x)).map (fun L' => (pc + 1, L', t))
  | .lstore k, 2, .long x :: t => (am_s2 L k (.long x)).map (fun L' => (pc + 2, L', t))
  | .iinc k d, 3, t => match L[k]? with
    | some (some (.int x)) => (am_s1 L k (.int (x + Int32.ofInt d))).map (fun L' => (pc + 3, L', t))
    | _ => none
  | _, _, _ => none
def am_pC (i : Instr) (n pc : Nat) (L : List (Option Value)) (st : List Value) : Option am_cfg := match i, n, st with
  | .iadd, 1, .int y :: .int x :: t => some (pc + 1, L, .int (x + y) :: t)
  | .isub, 1, .int y :: .int x :: t => some (pc + 1, L, .int (x - y) :: t)
  | .imul, 1, .int y :: .int x :: t => some (pc + 1, L, .int (x * y) :: t)
  | .iand, 1, .int y :: .int x :: t => some (pc + 1, L, .int (x &&& y) :: t)
  | .ior, 1, .int y :: .int x :: t => some (pc + 1, L, .int (x ||| y) :: t)
  | .ixor, 1, .int y :: .int x :: t => some (pc + 1, L, .int (x ^^^ y) :: t)
  | .ineg, 1, .int x :: t => some (pc + 1, L, .int (-x) :: t)
  | .ishl, 1, .int y :: .int x :: t => some (pc + 1, L, .int (x <<< (y &&& 31)) :: t)
  | .ishr, 1, .int y :: .int x :: t => some (pc + 1, L, .int (x >>> (y &&& 31)) :: t)
  | .iushr, 1, .int y :: .int x :: t => some (pc + 1, L, .int (x.toUInt32 >>> (y.toUInt32 &&& Int32.toUInt32 31)).toInt32 :: t)
  | .idiv, 1, .int y :: .int x :: t => if y = 0 then none else some (pc + 1, L, .int (x / y) :: t)
  | .irem, 1, .int y :: .int x :: t => if y = 0 then none else some (pc + 1, L, .int (x - x / y * y) :: t)
  | .i2l, 1, .int x :: t => some (pc + 1, L, .long x.toInt64 :: t)
  | .l2i, 1, .long x :: t => some (pc + 1, L, .int x.toInt32 :: t)
  | _, _, _ => none
def am_pD (i : Instr) (n pc : Nat) (L : List (Option Value)) (st : List Value) : Option am_cfg := match i, n, st with
  | .ladd, 1, .long y :: .long x :: t => some (pc + 1, L, .long (x + y) :: t)
  | .land, 1, .long y :: .long x :: t => some (pc + 1, L, .long (x &&& y) :: t)
  | .lor, 1, .long y :: .long x :: t => some (pc + 1, L, .long (x ||| y) :: t)
  | .lshl, 1, .int y :: .long x :: t => some (pc + 1, L, .long (x <<< (y.toInt64 &&& 63)) :: t)
  | .lshr, 1, .int y :: .long x :: t => some (pc + 1, L, .long (x >>> (y.toInt64 &&& 63)) :: t)
  | .lushr, 1, .int y :: .long x :: t => some (pc + 1, L, .long (x.toUInt64 >>> (y.toInt64.toUInt64 &&& Int64.toUInt64 63)).toInt64 :: t)
  | .lcmp, 1, .long y :: .long x :: t => some (pc + 1, L, .int (lg_cmp x y) :: t)
  | .dup, 1, a :: t => if a.category = 1 then some (pc + 1, L, a :: a :: t) else none
  | .pop, 1, a :: t => if a.category = 1 then some (pc + 1, L, t) else none
  | .dup_x1, 1, a :: b :: t => if a.category = 1 ∧ b.category = 1 then some (pc + 1, L, a :: b :: a :: t) else none
  | .dup_x2, 1, a :: b :: d :: t => if a.category = 1 ∧ b.category = 1 ∧ d.category = 1 then some (pc + 1, L, a :: b :: d :: a :: t) else none
  | .dup2, 1, a :: b :: t => if a.category = 1 ∧ b.category = 1 then some (pc + 1, L, a :: b :: a :: b :: t) else none
  | _, _, _ => none
/-- a jump -/
def am_go (pc : Nat) (off : Int) (L : List (Option Value)) (t : List Value) : Option am_cfg := if (pc : Int) + off = (am_tgt pc off : Int) then some (am_tgt pc off, L, t) else none
/-- a branch: its condition, where it leads -/
def am_br (b : Prop) [Decidable b] (pc : Nat) (off : Int) (L : List (Option Value)) (t : List Value) : Option am_cfg := if b then am_go pc off L t else (if (pc : Int) + off = (am_tgt pc off : Int) then some (pc + 3, L, t) else none)
def am_pE (i : Instr) (n pc : Nat) (L : List (Option Value)) (st : List Value) : Option am_cfg := match i, n, st with
  | .ifCond .eq off, 3, .int x :: t => am_br (x = 0) pc off L t
  | .ifCond .ne off, 3, .int x :: t => am_br (¬ x = 0) pc off L t
  | .ifCond .lt off, 3, .int x :: t => am_br (x < 0) pc off L t
  | .ifCond .ge off, 3, .int x :: t => am_br (0 ≤ x) pc off L t
  | .ifCond .gt off, 3, .int x :: t => am_br (0 < x) pc off L t
  | .ifCond .le off, 3, .int x :: t => am_br (x ≤ 0) pc off L t
  | .if_icmp .eq off, 3, .int y :: .int x :: t => am_br (x = y) pc off L t
  | .if_icmp .ne off, 3, .int y :: .int x :: t => am_br (¬ x = y) pc off L t
  | .if_icmp .lt off, 3, .int y :: .int x :: t => am_br (x < y) pc off L t
  | .if_icmp .ge off, 3, .int y :: .int x :: t => am_br (y ≤ x) pc off L t
  | .if_icmp .gt off, 3, .int y :: .int x :: t => am_br (y < x) pc off L t
  | .if_icmp .le off, 3, .int y :: .int x :: t => am_br (x ≤ y) pc off L t
  | .goto off, 3, t => if (pc : Int) + off = (am_tgt pc off : Int) then some (am_tgt pc off, L, t) else none
  | .tableswitch d lo hi offs, _, .int x :: t => if x.toInt < lo ∨ hi < x.toInt then (if (pc : Int) + d = (am_tgt pc d : Int) then some (am_tgt pc d, L, t) else none)
    else match offs[(x.toInt - lo).toNat]? with
      | some off => if (pc : Int) + off = (am_tgt pc off : Int) then some (am_tgt pc off, L, t) else none
      | none => none
  | .lookupswitch d ps, _, .int x :: t => if (ps.toList.zip (ps.toList.drop 1)).all (fun (a, next) => a.1 < next.1) = true ∧ (pc : Int) + Op.lookupswitch.offset ps.toList d x.toInt = (am_tgt pc (Op.lookupswitch.offset ps.toList d x.toInt) : Int) then some (am_tgt pc (Op.lookupswitch.offset ps.toList d x.toInt), L, t) else none
  | _, _, _ => none
theorem am_s1_lt {L L' : List (Option Value)} {i : Nat} {v : Value} (h : am_s1 L i v = some L') : i < L.length := by
  unfold am_s1 at h
  split at h
  · next hc => exact hc.1
  · cases h
theorem am_s2_lt {L L' : List (Option Value)} {i : Nat} {v : Value} (h : am_s2 L i v = some L') : i + 1 < L.length := by
  unfold am_s2 at h
  split at h
  · next hc => exact hc.1
  · cases h
section AMP
variable {p : Program} {l : Launch} {e : Env} {R : Room} {s : State} {m : MethodId} {args : Array Value} {below : List Frame} {meth : Method} {c : Code} {H : Heap} {locs : List Loc} {cells slots : Nat} {Q : State → Prop}
variable {cc : ByteArray} {ad : Nat → Nat} {nL : Nat}
set_option maxHeartbeats 4000000 in
theorem am_pA_ok (hx : p.tables.exec = Jvm.exec) (hb : c.code = cc) {i : Instr} {n pc : Nat} {L : List (Option Value)} {st : List Value} {r : am_cfg} {ls : Array Slot} (hL : am_has ad ls nL L) (hd : decode cc pc = .ok (i, n)) (h : am_pA i n pc L st = some r)
    (k : ∀ ls', am_has ad ls' nL r.2.1 → W p l e R s m args below meth c H locs cells slots Q (F0 m r.1 ls' (r.2.2.map (am_v ad)))) : W p l e R s m args below meth c H locs cells slots Q (F0 m pc ls (st.map (am_v ad))) := by
  unfold am_pA at h
  split at h
  · cases h; exact lv_iconst hx hb hd rfl (k _ hL)
  · cases h; exact lv_bipush hx hb hd rfl (k _ hL)
  · cases h; exact lv_sipush hx hb hd rfl (k _ hL)
  · cases h; exact lv_lconst hx hb hd rfl (k _ hL)
  · split at h
    · next x hl => cases h; exact lv_iload_n hx hb hd rfl (hL.2.2.2 _ _ hl) (k _ hL)
    · cases h
  · split at h
    · next x hl => cases h; exact lv_iload hx hb hd (hL.2.2.2 _ _ hl) (k _ hL)
    · cases h
  · split at h
    · next x hl => cases h; exact lv_lload_n hx hb hd rfl (hL.2.2.2 _ _ hl) (k _ hL)
    · cases h
  · split at h
    · next x hl => cases h; exact lv_lload hx hb hd (hL.2.2.2 _ _ hl) (k _ hL)
    · cases h
  · split at h
    · next x hl => cases h; exact lv_aload_n hx hb hd rfl (hL.2.2.2 _ _ hl) (k _ hL)
    · cases h
  · split at h
    · next x hl => cases h; exact lv_aload hx hb hd (hL.2.2.2 _ _ hl) (k _ hL)
    · cases h
  · cases h
set_option maxHeartbeats 4000000 in
theorem am_pB_ok (hx : p.tables.exec = Jvm.exec) (hb : c.code = cc) {i : Instr} {n pc : Nat} {L : List (Option Value)} {st : List Value} {r : am_cfg} {ls : Array Slot} (hL : am_has ad ls nL L) (hd : decode cc pc = .ok (i, n)) (h : am_pB i n pc L st = some r)
    (k : ∀ ls', am_has ad ls' nL r.2.1 → W p l e R s m args below meth c H locs cells slots Q (F0 m r.1 ls' (r.2.2.map (am_v ad)))) : W p l e R s m args below meth c H locs cells slots Q (F0 m pc ls (st.map (am_v ad))) := by
  have hv := am_has_lv hL
  have hn := hL.2.2.1
  unfold am_pB at h
  split at h
  · obtain ⟨L', hs, rfl⟩ := Option.map_eq_some_iff.mp h
    exact lv_istore_n hx hb hd rfl hv (hn ▸ am_s1_lt hs) rfl (fun ls' h' => k ls' (am_has_s1 hn hs h'))
  · obtain ⟨L', hs, rfl⟩ := Option.map_eq_some_iff.mp h
    exact lv_istore hx hb hd hv (hn ▸ am_s1_lt hs) rfl (fun ls' h' => k ls' (am_has_s1 hn hs h'))
  · obtain ⟨L', hs, rfl⟩ := Option.map_eq_some_iff.mp h
    exact lv_astore_n hx hb hd rfl hv (hn ▸ am_s1_lt hs) rfl (fun ls' h' => k ls' (am_has_s1 hn hs h'))
  · obtain ⟨L', hs, rfl⟩ := Option.map_eq_some_iff.mp h
    exact lv_astore hx hb hd hv (hn ▸ am_s1_lt hs) rfl (fun ls' h' => k ls' (am_has_s1 hn hs h'))
  · obtain ⟨L', hs, rfl⟩ := Option.map_eq_some_iff.mp h
    exact lv_lstore_n hx hb hd rfl hv (hn ▸ am_s2_lt hs) rfl (fun ls' h' => k ls' (am_has_s2 hn hs h'))
  · obtain ⟨L', hs, rfl⟩ := Option.map_eq_some_iff.mp h
    exact lv_lstore hx hb hd hv (hn ▸ am_s2_lt hs) rfl (fun ls' h' => k ls' (am_has_s2 hn hs h'))
  · split at h
    · next x hl =>
      obtain ⟨L', hs, rfl⟩ := Option.map_eq_some_iff.mp h
      obtain ⟨j, hj⟩ := List.getElem?_of_mem (am_ll_mem (ad := ad) (q := (_, .int x)).mpr ⟨_, hl, rfl⟩)
      exact lv_iinc hx hb hd hv hj rfl (hn ▸ am_s1_lt hs) rfl (fun ls' h' => k ls' (am_has_s1 hn hs h'))
    · cases h
  · cases h
set_option maxHeartbeats 4000000 in
theorem am_pC_ok (hx : p.tables.exec = Jvm.exec) (hb : c.code = cc) {i : Instr} {n pc : Nat} {L : List (Option Value)} {st : List Value} {r : am_cfg} {ls : Array Slot} (hL : am_has ad ls nL L) (hd : decode cc pc = .ok (i, n)) (h : am_pC i n pc L st = some r)
    (k : ∀ ls', am_has ad ls' nL r.2.1 → W p l e R s m args below meth c H locs cells slots Q (F0 m r.1 ls' (r.2.2.map (am_v ad)))) : W p l e R s m args below meth c H locs cells slots Q (F0 m pc ls (st.map (am_v ad))) := by
  unfold am_pC at h
  split at h
  · cases h; exact lv_iadd hx hb hd (k _ hL)
  · cases h; exact lv_isub hx hb hd (k _ hL)
  · cases h; exact lv_imul hx hb hd (k _ hL)
  · cases h; exact lv_iand hx hb hd (k _ hL)
  · cases h; exact lv_ior hx hb hd (k _ hL)
  · cases h; exact lv_ixor hx hb hd (k _ hL)
  · cases h; exact lv_ineg hx hb hd (k _ hL)
  · cases h; exact lv_ishl hx hb hd (k _ hL)
  · cases h; exact lv_ishr hx hb hd (k _ hL)
  · cases h; exact lv_iushr hx hb hd rfl (k _ hL)
  · split at h
    · cases h
    · next hy => cases h; exact lv_idiv hx hb hd hy (k _ hL)
  · split at h
    · cases h
    · next hy => cases h; exact lv_irem hx hb hd hy (k _ hL)
  · cases h; exact lv_i2l hx hb hd rfl (k _ hL)
  · cases h; exact lv_l2i hx hb hd rfl (k _ hL)
  · cases h
set_option maxHeartbeats 4000000 in
theorem am_pD_ok (hx : p.tables.exec = Jvm.exec) (hb : c.code = cc) {i : Instr} {n pc : Nat} {L : List (Option Value)} {st : List Value} {r : am_cfg} {ls : Array Slot} (hL : am_has ad ls nL L) (hd : decode cc pc = .ok (i, n)) (h : am_pD i n pc L st = some r)
    (k : ∀ ls', am_has ad ls' nL r.2.1 → W p l e R s m args below meth c H locs cells slots Q (F0 m r.1 ls' (r.2.2.map (am_v ad)))) : W p l e R s m args below meth c H locs cells slots Q (F0 m pc ls (st.map (am_v ad))) := by
  unfold am_pD at h
  split at h
  · cases h; exact lv_ladd hx hb hd (k _ hL)
  · cases h; exact lv_land hx hb hd (k _ hL)
  · cases h; exact lv_lor hx hb hd (k _ hL)
  · cases h; exact lv_lshl hx hb hd rfl (k _ hL)
  · cases h; exact lv_lshr hx hb hd rfl (k _ hL)
  · cases h; exact lv_lushr hx hb hd rfl (k _ hL)
  · cases h; exact W.lcmp hx hb hd (k _ hL)
  · split at h
    · next hy => cases h; exact lv_dup hx hb hd ((am_cat _ _).trans hy) (k _ hL)
    · cases h
  · split at h
    · next hy => cases h; exact lv_pop hx hb hd ((am_cat _ _).trans hy) (k _ hL)
    · cases h
  · split at h
    · next hy => cases h; exact lv_dup_x1 hx hb hd ((am_cat _ _).trans hy.1) ((am_cat _ _).trans hy.2) (k _ hL)
    · cases h
  · split at h
    · next hy => cases h; exact lv_dup_x2 hx hb hd ((am_cat _ _).trans hy.1) ((am_cat _ _).trans hy.2.1) ((am_cat _ _).trans hy.2.2) (k _ hL)
    · cases h
  · split at h
    · next hy => cases h; exact lv_dup2_11 hx hb hd ((am_cat _ _).trans hy.1) ((am_cat _ _).trans hy.2) (k _ hL)
    · cases h
  · cases h
/-- what a branch gives -/
theorem am_br_ok {b : Prop} [Decidable b] {pc : Nat} {off : Int} {L : List (Option Value)} {t : List Value} {r : am_cfg} (h : am_br b pc off L t = some r) :
    (pc : Int) + off = (am_tgt pc off : Int) ∧ (b → r = (am_tgt pc off, L, t)) ∧ (¬ b → r = (pc + 3, L, t)) := by
  unfold am_br am_go at h
  by_cases h1 : (pc : Int) + off = (am_tgt pc off : Int)
  · simp only [h1, if_true] at h
    refine ⟨h1, fun hb => ?_, fun hb => ?_⟩
    · rw [if_pos hb] at h
      exact (Option.some.inj h).symm
    · rw [if_neg hb] at h
      exact (Option.some.inj h).symm
  · simp only [h1, if_false, ite_self] at h
    cases h
set_option maxHeartbeats 4000000 in
theorem am_pE_ok (hx : p.tables.exec = Jvm.exec) (hb : c.code = cc) {i : Instr} {n pc : Nat} {L : List (Option Value)} {st : List Value} {r : am_cfg} {ls : Array Slot} (hL : am_has ad ls nL L) (hd : decode cc pc = .ok (i, n)) (h : am_pE i n pc L st = some r)
    (k : ∀ ls', am_has ad ls' nL r.2.1 → W p l e R s m args below meth c H locs cells slots Q (F0 m r.1 ls' (r.2.2.map (am_v ad)))) : W p l e R s m args below meth c H locs cells slots Q (F0 m pc ls (st.map (am_v ad))) := by
  unfold am_pE at h
  split at h
  · obtain ⟨h1, h2, h3⟩ := am_br_ok h; exact lv_if_eq hx hb hd h1 (fun q => by rw [h2 q] at k; exact k _ hL) (fun q => by rw [h3 q] at k; exact k _ hL)
  · obtain ⟨h1, h2, h3⟩ := am_br_ok h; exact lv_if_ne hx hb hd h1 (fun q => by rw [h2 q] at k; exact k _ hL) (fun q => by rw [h3 (fun z => z q)] at k; exact k _ hL)
  · obtain ⟨h1, h2, h3⟩ := am_br_ok h; exact lv_if_lt hx hb hd h1 (fun q => by rw [h2 q] at k; exact k _ hL) (fun q => by rw [h3 q] at k; exact k _ hL)
  · obtain ⟨h1, h2, h3⟩ := am_br_ok h; exact lv_if_ge hx hb hd h1 (fun q => by rw [h2 q] at k; exact k _ hL) (fun q => by rw [h3 q] at k; exact k _ hL)
  · obtain ⟨h1, h2, h3⟩ := am_br_ok h; exact lv_if_gt hx hb hd h1 (fun q => by rw [h2 q] at k; exact k _ hL) (fun q => by rw [h3 q] at k; exact k _ hL)
  · obtain ⟨h1, h2, h3⟩ := am_br_ok h; exact lv_if_le hx hb hd h1 (fun q => by rw [h2 q] at k; exact k _ hL) (fun q => by rw [h3 q] at k; exact k _ hL)
  · obtain ⟨h1, h2, h3⟩ := am_br_ok h; exact lv_icmp_eq hx hb hd h1 (fun q => by rw [h2 q] at k; exact k _ hL) (fun q => by rw [h3 q] at k; exact k _ hL)
  · obtain ⟨h1, h2, h3⟩ := am_br_ok h; exact lv_icmp_ne hx hb hd h1 (fun q => by rw [h2 q] at k; exact k _ hL) (fun q => by rw [h3 (fun z => z q)] at k; exact k _ hL)
  · obtain ⟨h1, h2, h3⟩ := am_br_ok h; exact lv_icmp_lt hx hb hd h1 (fun q => by rw [h2 q] at k; exact k _ hL) (fun q => by rw [h3 q] at k; exact k _ hL)
  · obtain ⟨h1, h2, h3⟩ := am_br_ok h; exact lv_icmp_ge hx hb hd h1 (fun q => by rw [h2 q] at k; exact k _ hL) (fun q => by rw [h3 q] at k; exact k _ hL)
  · obtain ⟨h1, h2, h3⟩ := am_br_ok h; exact lv_icmp_gt hx hb hd h1 (fun q => by rw [h2 q] at k; exact k _ hL) (fun q => by rw [h3 q] at k; exact k _ hL)
  · obtain ⟨h1, h2, h3⟩ := am_br_ok h; exact lv_icmp_le hx hb hd h1 (fun q => by rw [h2 q] at k; exact k _ hL) (fun q => by rw [h3 q] at k; exact k _ hL)
  · split at h
    · next h1 => cases h; exact lv_goto hx hb hd h1 (k _ hL)
    · cases h
  · split at h
    · next h0 =>
      split at h
      · next h1 => cases h; exact lv_tableOut hx hb hd h0 h1 (k _ hL)
      · cases h
    · next h0 =>
      split at h
      · next off ho =>
        split at h
        · next h1 => cases h; exact lv_tableIn hx hb hd (fun z => h0 (Or.inl z)) (fun z => h0 (Or.inr z)) ho h1 (k _ hL)
        · cases h
      · cases h
  · split at h
    · next h1 => cases h; exact lv_lookup hx hb hd h1.1 rfl h1.2 (k _ hL)
    · cases h
  · cases h
def am_p (i : Instr) (n pc : Nat) (L : List (Option Value)) (st : List Value) : Option am_cfg :=
  match am_pA i n pc L st with
  | some r => some r
  | none => match am_pB i n pc L st with
    | some r => some r
    | none => match am_pC i n pc L st with
      | some r => some r
      | none => match am_pD i n pc L st with
        | some r => some r
        | none => am_pE i n pc L st
theorem am_p_ok (hx : p.tables.exec = Jvm.exec) (hb : c.code = cc) {i : Instr} {n pc : Nat} {L : List (Option Value)} {st : List Value} {r : am_cfg} {ls : Array Slot} (hL : am_has ad ls nL L) (hd : decode cc pc = .ok (i, n)) (h : am_p i n pc L st = some r)
    (k : ∀ ls', am_has ad ls' nL r.2.1 → W p l e R s m args below meth c H locs cells slots Q (F0 m r.1 ls' (r.2.2.map (am_v ad)))) : W p l e R s m args below meth c H locs cells slots Q (F0 m pc ls (st.map (am_v ad))) := by
  unfold am_p at h
  split at h
  · next h1 => cases h; exact am_pA_ok hx hb hL hd h1 k
  · split at h
    · next h1 => cases h; exact am_pB_ok hx hb hL hd h1 k
    · split at h
      · next h1 => cases h; exact am_pC_ok hx hb hL hd h1 k
      · split at h
        · next h1 => cases h; exact am_pD_ok hx hb hL hd h1 k
        · exact am_pE_ok hx hb hL hd h k
end AMP
end
section
/-! Cells by their places: how a list of cells lies in the heap; the instructions that read and write cells. -/
def am_c (ad : Nat → Nat) (ca : Nat → ClassId) (e : va_E) : va_E := match e with
  | .inl (t, n, .inl f) => .inl (ca t, n, .inl f)
  | .inl (t, n, .inr (.inl f)) => .inl (ca t, n, .inr (.inl f))
  | .inl (t, n, .inr (.inr (.inl f))) => .inl (ca t, n, .inr (.inr (.inl f)))
  | .inl (t, n, .inr (.inr (.inr (.inl f)))) => .inl (ca t, n, .inr (.inr (.inr (.inl f))))
  | .inl (t, n, .inr (.inr (.inr (.inr f)))) => .inl (ca t, n, .inr (.inr (.inr (.inr (fun i => (f i).map ad)))))
  | .inr (ci, fs) => .inr (ci, fs.map (am_v ad))
def am_ws (ad : Nat → Nat) (ca : Nat → ClassId) (h : List va_E) : va_W := h.mapIdx (fun k x => (ad k, am_c ad ca x))
theorem am_ws_get {ad : Nat → Nat} {ca : Nat → ClassId} {h : List va_E} {k : Nat} {x : va_E} (hk : h[k]? = some x) : (am_ws ad ca h)[k]? = some (ad k, am_c ad ca x) := by
  unfold am_ws
  rw [List.getElem?_mapIdx, hk]
  rfl
theorem am_ws_set {ad : Nat → Nat} {ca : Nat → ClassId} {h : List va_E} {k : Nat} {x : va_E} : (am_ws ad ca h).set k (ad k, am_c ad ca x) = am_ws ad ca (h.set k x) := by
  apply List.ext_getElem?
  intro i
  unfold am_ws
  rw [List.getElem?_mapIdx, List.getElem?_set, List.getElem?_set]
  by_cases hi : k = i
  · subst hi
    by_cases hl : k < h.length
    · simp [hl]
    · simp [hl]
  · simp [hi, List.getElem?_mapIdx]
theorem am_ws_push {ad : Nat → Nat} {ca : Nat → ClassId} {h : List va_E} {x : va_E} : am_ws ad ca h ++ [(ad h.length, am_c ad ca x)] = am_ws ad ca (h ++ [x]) := by
  simp [am_ws, List.mapIdx_append]
theorem am_ws_len {ad : Nat → Nat} {ca : Nat → ClassId} {h : List va_E} : (am_ws ad ca h).length = h.length := by simp [am_ws]
abbrev am_S : Type := Nat × List (Option Value) × List Value × List va_E
/-- a field's kind: 0 an int, 1 a boolean, 2 a final int, 3 a final reference -/
def am_fit (kd : Nat) (v : Value) : Bool := match kd, v with
  | 0, .int _ => true
  | 1, .int x => decide (x = 0 ∨ x = 1)
  | 2, .int _ => true
  | 3, .ref _ => true
  | _, _ => false
def am_hA (fld : Nat → Option (Nat × Nat × Nat)) (i : Instr) (n pc : Nat) (L : List (Option Value)) (st : List Value) (h : List va_E) : Option am_S := match i, n, st with
  | .getfield ix, 3, .ref k :: t => match fld ix, h[k]? with
    | some (ci, f, _), some (.inr (ci', fs)) => if ci = ci' then (match fs[f]? with
      | some v => some (pc + 3, L, v :: t, h)
      | none => none) else none
    | _, _ => none
  | .putfield ix, 3, v :: .ref k :: t => match fld ix, h[k]? with
    | some (ci, f, kd), some (.inr (ci', fs)) => if ci = ci' ∧ f < fs.length ∧ am_fit kd v = true then some (pc + 3, L, t, h.set k (.inr (ci', fs.set f v))) else none
    | _, _ => none
  | _, _, _ => none
def am_hB (i : Instr) (n pc : Nat) (L : List (Option Value)) (st : List Value) (h : List va_E) : Option am_S := match i, n, st with
  | .iaload, 1, .int j :: .ref k :: t => match h[k]? with
    | some (.inl (0, n, .inl f)) => if ¬ (j < 0 ∨ n ≤ j.toNatClampNeg) then some (pc + 1, L, .int (f j.toNatClampNeg) :: t, h) else none
    | _ => none
  | .baload, 1, .int j :: .ref k :: t => match h[k]? with
    | some (.inl (1, n, .inl f)) => if ¬ (j < 0 ∨ n ≤ j.toNatClampNeg) then some (pc + 1, L, .int (f j.toNatClampNeg) :: t, h) else none
    | _ => none
  | .laload, 1, .int j :: .ref k :: t => match h[k]? with
    | some (.inl (2, n, .inr (.inl f))) => if ¬ (j < 0 ∨ n ≤ j.toNatClampNeg) then some (pc + 1, L, .long (f j.toNatClampNeg) :: t, h) else none
    | _ => none
  | .iastore, 1, .int x :: .int j :: .ref k :: t => match h[k]? with
    | some (.inl (0, n, .inl f)) => if ¬ (j < 0 ∨ n ≤ j.toNatClampNeg) then some (pc + 1, L, t, h.set k (.inl (0, n, .inl (upd f j.toNatClampNeg x)))) else none
    | _ => none
  | .bastore, 1, .int x :: .int j :: .ref k :: t => match h[k]? with
    | some (.inl (1, n, .inl f)) => if ¬ (j < 0 ∨ n ≤ j.toNatClampNeg) then some (pc + 1, L, t, h.set k (.inl (1, n, .inl (upd f j.toNatClampNeg (vp_nar .boolean x))))) else none
    | _ => none
  | .lastore, 1, .long x :: .int j :: .ref k :: t => match h[k]? with
    | some (.inl (2, n, .inr (.inl f))) => if ¬ (j < 0 ∨ n ≤ j.toNatClampNeg) then some (pc + 1, L, t, h.set k (.inl (2, n, .inr (.inl (vp_updL f j.toNatClampNeg x))))) else none
    | _ => none
  | .aaload, 1, .int j :: .ref k :: t => match h[k]? with
    | some (.inl (tg, n, .inr (.inr (.inr (.inr f))))) => if ¬ (j < 0 ∨ n ≤ j.toNatClampNeg) ∧ (tg = 3 ∨ tg = 4) then (match f j.toNatClampNeg with
      | some q => some (pc + 1, L, .ref q :: t, h)
      | none => none) else none
    | _ => none
  | .arraylength, 1, .ref k :: t => match h[k]? with
    | some (.inl (0, n, .inl _)) => some (pc + 1, L, .int (Int32.ofNat n) :: t, h)
    | _ => none
  | _, _, _ => none
/-- what the fields' table of a method rests on -/
def am_Fw (meth : Method) (own : String) (Ts : List Cond) (cl : List vw_C) (fld : Nat → Option (Nat × Nat × Nat)) : Prop :=
  ∀ (ix ci k kd : Nat), fld ix = some (ci, k, kd) → ∃ (C : String) (T : u_T) (N : Nat) (ty : Nat → FieldType), cl[ci]? = some (C, T, N) ∧ (∀ w ∈ u_ws C T N, w ∈ Ts) ∧ k < N ∧ Cond.fieldLink own ix (T k).1 (T k).2.1 (T k).2.2.1 ∈ Ts ∧ (∀ j, j < N → parseFieldDescriptor (T j).2.2.1 = some (ty j)) ∧ (∀ a, a < N → ∀ b, b < N → a ≠ b → (T a).2.1 ≠ (T b).2.1) ∧
    (kd = 0 → (T k).2.2.2 = false ∧ ty k = .int) ∧ (kd = 1 → (T k).2.2.2 = false ∧ ty k = .boolean) ∧ (kd = 2 → (T k).2.2.2 = true ∧ (T k).1 = own ∧ meth.name = "<init>" ∧ ty k = .int) ∧ (kd = 3 → (T k).2.2.2 = true ∧ (T k).1 = own ∧ meth.name = "<init>" ∧ ((∃ x, ty k = .object x) ∨ ∃ x, ty k = .array x))
def am_t3 (tys : List (ClassId × FieldType)) (ca : Nat → ClassId) : Prop := ∀ tg, (tg = 3 ∨ tg = 4) → ∃ ty : FieldType, tys[tg]? = some (ca tg, ty) ∧ ty.isReference = true
section AMH
variable {p : Program} {l : Launch} {e : Env} {R : Room} {s : State} {m : MethodId} {args : Array Value} {below : List Frame} {meth : Method} {c : Code} {H : Heap} {locs : List Loc} {cells slots : Nat} {Q : State → Prop}
variable {cc : ByteArray} {ad : Nat → Nat} {ca : Nat → ClassId} {nL : Nat} {D : va_G} {cl : List vw_C} {A : Nat → Prop} {tys : List (ClassId × FieldType)} {H0 : Heap} {Ts : List Cond} {own : String}
theorem am_set_o {h : List va_E} {k ci f : Nat} {fs : List Value} {v : Value} : (am_ws ad ca h).set k (ad k, .inr (ci, (fs.map (am_v ad)).set f (am_v ad v))) = am_ws ad ca (h.set k (.inr (ci, fs.set f v))) := by
  rw [← am_ws_set]
  simp only [am_c, List.map_set]
set_option maxHeartbeats 4000000 in
theorem am_hA_ok (hx : p.tables.exec = Jvm.exec) (hb : c.code = cc) (hown : s.vm.findClass own = some m.cls) (hts : ∀ w ∈ Ts, w.before args s = true) {fld : Nat → Option (Nat × Nat × Nat)} (hF : am_Fw meth own Ts cl fld) (hK : va_K D cl tys s)
    {i : Instr} {n pc : Nat} {L : List (Option Value)} {st : List Value} {h : List va_E} {r : am_S} {ls : Array Slot} (hL : am_has ad ls nL L) (hP : va_P D cl (am_ws ad ca h) H) (hD : va_D A (am_ws ad ca h)) (hS : va_S A H0 H locs) (hd : decode cc pc = .ok (i, n)) (hr : am_hA fld i n pc L st h = some r)
    (k : ∀ ls' H1 locs1, am_has ad ls' nL r.2.1 → va_P D cl (am_ws ad ca r.2.2.2) H1 → va_D A (am_ws ad ca r.2.2.2) → va_S A H0 H1 locs1 → W p l e R s m args below meth c H1 locs1 cells slots Q (F0 m r.1 ls' (r.2.2.1.map (am_v ad)))) : W p l e R s m args below meth c H locs cells slots Q (F0 m pc ls (st.map (am_v ad))) := by
  unfold am_hA at hr
  split at hr
  · split at hr
    · next ci f kd ci' fs hf hh =>
      split at hr
      · next hc =>
        subst hc
        split at hr
        · next v hv =>
          cases hr
          obtain ⟨C, T, N, ty, h1, h2, h3, h4, h5, h6, h7⟩ := hF _ _ _ _ hf
          exact va_get (fs := fs.map (am_v ad)) (v := am_v ad v) hx hb hts h2 hown hK hP _ (am_ws_get hh) h1 f h3 (hts _ h4) (fun _ q => q) (by rw [List.getElem?_map, hv]; rfl) hd (k _ _ _ hL hP hD hS)
        · cases hr
      · cases hr
    · cases hr
  · split at hr
    · next ci f kd ci' fs hf hh =>
      split at hr
      · next hc =>
        obtain ⟨hc1, hc2, hc3⟩ := hc
        subst hc1
        cases hr
        obtain ⟨C, T, N, ty, h1, h2, h3, h4, h5, h6, g0, g1, g2, g3⟩ := hF _ _ _ _ hf
        unfold am_fit at hc3
        split at hc3
        · obtain ⟨f1, f2⟩ := g0 rfl
          refine va_put (fs := fs.map (am_v ad)) hx hb hts h2 ty h5 h6 hown hK hP hD hS _ (am_ws_get hh) h1 f h3 (hts _ h4) (fun _ q => q) f1 (h5 f h3) (by rw [f2]; rfl) (by rw [f2]; rfl) (by simpa using hc2) hd (fun H1 locs1 hP1 hD1 hS1 => ?_)
          rw [am_set_o] at hP1 hD1
          exact k _ _ _ hL hP1 hD1 hS1
        · obtain ⟨f1, f2⟩ := g1 rfl
          next x =>
          have hx01 : x = 0 ∨ x = 1 := by simpa using hc3
          refine va_put (fs := fs.map (am_v ad)) hx hb hts h2 ty h5 h6 hown hK hP hD hS _ (am_ws_get hh) h1 f h3 (hts _ h4) (fun _ q => q) f1 (h5 f h3) (by rw [f2]; rcases hx01 with rfl | rfl <;> rfl) (by rw [f2]; rcases hx01 with rfl | rfl <;> rfl) (by simpa using hc2) hd (fun H1 locs1 hP1 hD1 hS1 => ?_)
          rw [am_set_o] at hP1 hD1
          exact k _ _ _ hL hP1 hD1 hS1
        · obtain ⟨f1, f3, f4, f2⟩ := g2 rfl
          refine va_putF (fs := fs.map (am_v ad)) hx hb hts h2 ty h5 h6 hown hK hP hD hS _ (am_ws_get hh) h1 f h3 (hts _ h4) (fun _ q => q) f1 f4 f3 (h5 f h3) (by rw [f2]; rfl) (by rw [f2]; rfl) (by simpa using hc2) hd (fun H1 locs1 hP1 hD1 hS1 => ?_)
          rw [am_set_o] at hP1 hD1
          exact k _ _ _ hL hP1 hD1 hS1
        · obtain ⟨f1, f3, f4, f2⟩ := g3 rfl
          refine va_putF (fs := fs.map (am_v ad)) hx hb hts h2 ty h5 h6 hown hK hP hD hS _ (am_ws_get hh) h1 f h3 (hts _ h4) (fun _ q => q) f1 f4 f3 (h5 f h3) (by rcases f2 with ⟨x, f2⟩ | ⟨x, f2⟩ <;> rw [f2] <;> rfl) (by rcases f2 with ⟨x, f2⟩ | ⟨x, f2⟩ <;> rw [f2] <;> rfl) (by simpa using hc2) hd (fun H1 locs1 hP1 hD1 hS1 => ?_)
          rw [am_set_o] at hP1 hD1
          exact k _ _ _ hL hP1 hD1 hS1
        · cases hc3
      · cases hr
    · cases hr
  · cases hr
set_option maxHeartbeats 4000000 in
theorem am_hB_ok (hx : p.tables.exec = Jvm.exec) (hb : c.code = cc) (hK : va_K D cl tys s) (t0 : tys[0]? = some (ca 0, .int)) (t1 : tys[1]? = some (ca 1, .boolean)) (t2 : tys[2]? = some (ca 2, .long)) (t3 : am_t3 tys ca)
    {i : Instr} {n pc : Nat} {L : List (Option Value)} {st : List Value} {h : List va_E} {r : am_S} {ls : Array Slot} (hL : am_has ad ls nL L) (hP : va_P D cl (am_ws ad ca h) H) (hD : va_D A (am_ws ad ca h)) (hS : va_S A H0 H locs) (hd : decode cc pc = .ok (i, n)) (hr : am_hB i n pc L st h = some r)
    (k : ∀ ls' H1 locs1, am_has ad ls' nL r.2.1 → va_P D cl (am_ws ad ca r.2.2.2) H1 → va_D A (am_ws ad ca r.2.2.2) → va_S A H0 H1 locs1 → W p l e R s m args below meth c H1 locs1 cells slots Q (F0 m r.1 ls' (r.2.2.1.map (am_v ad)))) : W p l e R s m args below meth c H locs cells slots Q (F0 m pc ls (st.map (am_v ad))) := by
  unfold am_hB at hr
  split at hr
  · split at hr
    · next hh =>
      split at hr
      · next hc => cases hr; exact va_iald hx hb hK hP _ 0 (am_ws_get hh) t0 hc hd (k _ _ _ hL hP hD hS)
      · cases hr
    · cases hr
  · split at hr
    · next hh =>
      split at hr
      · next hc => cases hr; exact va_zald hx hb hK hP _ 1 (am_ws_get hh) t1 hc hd (k _ _ _ hL hP hD hS)
      · cases hr
    · cases hr
  · split at hr
    · next hh =>
      split at hr
      · next hc => cases hr; exact va_lald hx hb hK hP _ 2 (am_ws_get hh) t2 hc hd (k _ _ _ hL hP hD hS)
      · cases hr
    · cases hr
  · split at hr
    · next hh =>
      split at hr
      · next hc =>
        cases hr
        refine va_iast hx hb hK hP hD hS _ 0 (am_ws_get hh) t0 hc hd (fun H1 locs1 hP1 hD1 hS1 => ?_)
        exact k _ _ _ hL (by rw [← am_ws_set]; exact hP1) (by rw [← am_ws_set]; exact hD1) hS1
      · cases hr
    · cases hr
  · split at hr
    · next hh =>
      split at hr
      · next hc =>
        cases hr
        refine va_zast hx hb hK hP hD hS _ 1 (am_ws_get hh) t1 hc hd (fun H1 locs1 hP1 hD1 hS1 => ?_)
        exact k _ _ _ hL (by rw [← am_ws_set]; exact hP1) (by rw [← am_ws_set]; exact hD1) hS1
      · cases hr
    · cases hr
  · split at hr
    · next hh =>
      split at hr
      · next hc =>
        cases hr
        refine va_last hx hb hK hP hD hS _ 2 (am_ws_get hh) t2 hc hd (fun H1 locs1 hP1 hD1 hS1 => ?_)
        exact k _ _ _ hL (by rw [← am_ws_set]; exact hP1) (by rw [← am_ws_set]; exact hD1) hS1
      · cases hr
    · cases hr
  · split at hr
    · next tg n f hh =>
      split at hr
      · next hc =>
        split at hr
        · next q hq =>
          cases hr
          obtain ⟨ty, u1, u2⟩ := t3 tg hc.2
          have ha := hP _ _ (am_ws_get hh)
          have hlt : _ < n := Nat.not_le.mp fun z => hc.1 (Or.inr z)
          refine W.aald (v := .ref (ad q)) (ty := ty) hx hb ha ((hK.2 tg _ u1).1 n (fun j => va_rf ((f j).map ad))) u2 (fun z => by cases z) (by show ¬ (_ < 0 ∨ (arrV _ _ _).slots.size ≤ _); rw [arrV_size]; exact hc.1) ?_ rfl rfl hd (k _ _ _ hL hP hD hS)
          show (arrV _ _ _).slots[_]? = _
          rw [arrV_read _ _ hlt]
          simp only [hq]
          rfl
        · cases hr
      · cases hr
    · cases hr
  · split at hr
    · next hh => cases hr; exact va_alen hx hb hK hP _ 0 (am_ws_get hh) t0 rfl hd (k _ _ _ hL hP hD hS)
    · cases hr
  · cases hr
end AMH
end
section
/-! A method's promise with both ends: it returns, or it throws. -/
def ax_Q (Qx : Array Value → State → Outcome → State → Prop) (mc ms : Nat) (free : Addr → Prop) : Array Value → State → Outcome → State → Prop := fun a st o t =>
  Qx a st o t ∧ st.WarmedH t.vm ∧ ∃ L : List Loc, st.sameButNew ({ t with vm := st.vm } : State) L mc ms ∧ ∀ q ∈ L, free q.base
def ax_Met (l : Launch) (y : MethodName) (ws : List Cond) (rm : Room) (Pc : Array Value → State → Prop) (Qx : Array Value → State → Outcome → State → Prop) (mc ms : Nat) (free : Addr → Prop) : Prop :=
  MetFree l y (headSpec ws rm) Pc (fun _ _ _ _ _ => True) (ax_Q Qx mc ms free)
/-- what a body owes -/
def ax_E (below : List Frame) (Qx : Array Value → State → Outcome → State → Prop) (a : Array Value) (s : State) (mc ms : Nat) (free : Addr → Prop) : State → Prop := fun t =>
  ∃ o, t.status = .running ∧ Ended t below o ∧ ax_Q Qx mc ms free a s o t
/-- the frame g, and q thrown over it -/
def ax_T (p : Program) (l : Launch) (e : Env) (R : Room) (s : State) (m : MethodId) (args : Array Value) (below : List Frame) (meth : Method) (c : Code) (H : Heap) (locs : List Loc) (cells slots : Nat) (Q : State → Prop) (g : JFrame) (q : Addr) : Prop :=
  ∀ T : State, T.heap = H → Stand p l e R s m args below meth c T locs cells slots → ∃ t, Steps p.tables e below ((T.setTop g).pushFrame (.throwing q)) t ∧ Q t
section AX
variable {p : Program} {l : Launch} {e : Env} {R : Room} {s : State} {m : MethodId} {args : Array Value} {below : List Frame} {meth : Method} {c : Code} {H : Heap} {locs : List Loc} {cells slots : Nat} {Q : State → Prop}
variable {y : MethodName} {ws ws' : List Cond} {rm : Room} {Pc : Array Value → State → Prop} {Qx : Array Value → State → Outcome → State → Prop} {mc ms : Nat} {free : Addr → Prop} {cc : ByteArray} {maxL : Nat} {ret : Option FieldType}
theorem ax_ofW (hy : plainName y.cls = true) (hw : ws = Cond.code y cc maxL ret :: ws')
    (body : ∀ p e s m args below meth c s₁, BodyLoose p l y (headSpec ws rm) cc maxL ret e s m args below meth c s₁ → c.maxLocals = maxL → c.exceptionTable.isEmpty = true → Pc args s →
      W p l e rm s m args below meth c s.heap [] 0 0 (ax_E below Qx args s mc ms free) (entryFrame m args maxL)) : ax_Met l y ws rm Pc Qx mc ms free := by
  refine MetFree.of_bodyS (code := cc) (maxLocals := maxL) (ret := ret) hy ?_ ?_
  · intro args s m h hn
    obtain ⟨meth, c, h1, h2, h3, h4, h5, h6, -, -⟩ := Cond.code_spec hn (atoms_spec (ws := ws) h _ (by rw [hw]; exact List.mem_cons_self))
    exact ⟨meth, c, h1, h2, h3, h4, h5, h6⟩
  · intro p e s m args below meth c s₁ B hml hP _
    have hh0 : s₁.heap = s.heap := by rw [B.state]; rfl
    have hnh := B.noHandlers (atoms_spec (ws := ws) B.pre _ (by rw [hw]; exact List.mem_cons_self))
    obtain ⟨t, a1, o, b1, b2, b3⟩ := body p e s m args below meth c s₁ B hml hnh hP s₁ hh0 (Stand.of_body B)
    exact ⟨t, o, a1, b1, b2, b3⟩
theorem ax_ret {g : JFrame} (k : W p l e R s m args below meth c H locs cells slots (MQ below Qx args s mc ms free) g) : W p l e R s m args below meth c H locs cells slots (ax_E below Qx args s mc ms free) g := by
  intro T hT X
  obtain ⟨t, a1, o, b1, b2, b3, L, ⟨-, f2, f3⟩, f4⟩ := k T hT X
  exact ⟨t, a1, o, b1, b2, b3, f2, L, f3, f4⟩
theorem ax_widen {g : JFrame} {q : Addr} {k n : Nat} (h1 : cells ≤ k) (h2 : slots ≤ n) (kk : ax_T p l e R s m args below meth c H locs k n Q g q) : ax_T p l e R s m args below meth c H locs cells slots Q g q := fun T hT X => kk T hT (stand_widen X h1 h2)
/-- no handler here: it leaves the method -/
theorem ax_out {q : Addr} {pc : Nat} {ls : Array Slot} {st : List Value} (hnh : c.exceptionTable.isEmpty = true) (hlocks : meth.locks = false) (hQ : ∀ t : State, t.heap = H → s.WarmedH t.vm → Qx args s (.threw q) t) (hf : ∀ z ∈ locs, free z.base) :
    ax_T p l e R s m args below meth c H locs cells slots (ax_E below Qx args s cells slots free) (F0 m pc ls st) q := by
  intro T hT X
  have hout : ∀ x ∈ c.exceptionTable.toList, covers x pc = false := fun x hx => by
    have h0 : c.exceptionTable = #[] := by simpa using hnh
    rw [h0] at hx
    simp at hx
  obtain ⟨st1, hrun, hend, hW, hsm⟩ := X.leaveThrown q (g := F0 m pc ls st) rfl rfl rfl hout hlocks
  exact ⟨_, st1, .threw q, hrun, hend, hQ _ hT hW, hW, locs, hsm, hf⟩
/-- a call: it comes back, or with q thrown over the caller's frame -/
theorem ax_run {T : State} (X : Stand p l e R s m args below meth c T locs cells slots) {g : JFrame} (hg : g.method = m) (hsize : g.locals.size = c.maxLocals) {ig : Instr} {len : Nat} (hdg : decode c.code g.pc = .ok (ig, len))
    (hM : ax_Met l y ws rm Pc Qx mc ms free) {mk : MethodId} (hn : T.methodNamed? y = some mk) {a : Array Value} (hws : ∀ w ∈ ws, w.before a T = true) (hc : Cond.code y cc maxL ret ∈ ws) (hini : (Cond.initialized y.cls).before a T = true)
    (hframes : rm.frames + 1 ≤ R.frames) (hlocals : 2 * g.monitorRoom + (g.stack.map fun v => v.category).sum + (maxL + 11) + rm.locals ≤ R.locals) (hcells : cells + rm.cells ≤ R.cells) (hslots : slots + rm.slots ≤ R.slots) (hPc : Pc a (T.calling g mk a)) :
    (∃ (v : Option Value) (t T' : State) (L : List Loc), Qx a (T.calling g mk a) (.returned v) t ∧ T'.heap = t.heap ∧ T.WarmedH T'.vm ∧ (∀ q ∈ L, free q.base) ∧ Stand p l e R s m args below meth c T' (locs ++ L) (cells + mc) (slots + ms) ∧
      Steps p.tables e below (doInvoke e (T.setTop g) [] mk a).1 (T'.setTop { g with pc := g.pc + len, stack := v.toList ++ g.stack })) ∨
    (∃ (q : Addr) (t T' : State) (L : List Loc), Qx a (T.calling g mk a) (.threw q) t ∧ T'.heap = t.heap ∧ T.WarmedH T'.vm ∧ (∀ q ∈ L, free q.base) ∧ Stand p l e R s m args below meth c T' (locs ++ L) (cells + mc) (slots + ms) ∧
      Steps p.tables e below (doInvoke e (T.setTop g) [] mk a).1 ((T'.setTop g).pushFrame (.throwing q))) := by
  have h : At T g.method c below := by rw [hg]; exact X.here
  obtain ⟨methY, cY, hmY, hcY, -, hlY, -, -, -, -⟩ := Cond.code_spec hn (hws _ hc)
  obtain ⟨kY, hkY, -⟩ := className_of_methodNamed hn
  have hinitY : kY.init = .initialized := Cond.initialized_spec (findClass_of_methodNamed hn) hkY hini
  have happ : (headSpec ws rm).appliesLoose y e.platform (T.calling g mk a) = true :=
    Spec.appliesLoose_calling (g := g) h hdg hn hkY hinitY (X.room_calling (g := g) (R' := rm) hsize hmY hcY hframes (by rw [hlY]; exact hlocals) hcells hslots) (atoms_intro hws)
  obtain ⟨mid, hmid⟩ := h.above
  have hfr : (T.setTop g).frames = (.java g :: mid) ++ below := by rw [State.frames_setTop' g h.top, hmid]; rfl
  obtain ⟨o, t, hsteps, -, hend, hq, hW, L, hsm, hL⟩ := Steps.callFree hM p X.admits X.cas X.clock (acts := []) hfr happ hPc trivial
  have hend' : Ended t (.java g :: below) o := by
    have e1 : (T.setTop g).frames = .java g :: below := by rw [State.frames_setTop' g h.top, X.tail]
    rw [e1] at hend
    exact hend
  cases o with
  | returned v =>
    obtain ⟨T', X', hW', -, ht⟩ := X.outOf hg hdg hend' hW hsm
    refine Or.inl ⟨v, t, T', L, hq, ?_, hW', hL, X', ?_⟩
    · rw [ht]; simp [State.setTop, State.modifyTopJava]
    · rw [← ht]; exact hsteps
  | threw q =>
    obtain ⟨T', X', hW', -, ht⟩ := X.outOfThrown hg hend' hW hsm
    refine Or.inr ⟨q, t, T', L, hq, ?_, hW', hL, X', ?_⟩
    · rw [ht]; simp [State.pushFrame, State.setFrames, State.setTop, State.modifyTopJava]
    · rw [← ht]; exact hsteps
end AX
end
section
/-! Calls of methods that return or throw. -/
/-- what every call rests on -/
def ax_C (R : Room) (s : State) (args : Array Value) (y : MethodName) (bytes : ByteArray) (maxL : Nat) (ret : Option FieldType) (ws : List Cond) (rm : Room) (n : Nat) : Prop :=
  (∀ w ∈ ws, ∀ (a' : Array Value) (U : State), s.WarmedH U.vm → w.before a' U = true) ∧ Cond.code y bytes maxL ret ∈ ws ∧ (Cond.code y bytes maxL ret).before args s = true ∧ (Cond.initialized y.cls).before args s = true ∧
  (y.cls ≠ "java/lang/invoke/MethodHandle" ∧ y.cls ≠ "java/lang/invoke/VarHandle") ∧ (∀ sig, parseMethodDescriptor y.desc = some sig → n = sig.parameters.length) ∧ rm.frames + 1 ≤ R.frames ∧ 8 + (maxL + 11) + rm.locals ≤ R.locals
section AXC
variable {p : Program} {l : Launch} {e : Env} {R : Room} {s : State} {m : MethodId} {args : Array Value} {below : List Frame} {meth : Method} {c : Code} {H : Heap} {locs : List Loc} {cells slots : Nat} {Q : State → Prop}
variable {y : MethodName} {ws : List Cond} {rm : Room} {Pc : Array Value → State → Prop} {Qx : Array Value → State → Outcome → State → Prop} {mc ms : Nat} {free : Addr → Prop} {cc bytes : ByteArray} {maxL n index pc : Nat} {ret : Option FieldType} {own C host : String} {ls : Array Slot} {As rest : List Value}
/-- what comes behind a call -/
def ax_K (p : Program) (l : Launch) (e : Env) (R : Room) (s : State) (m : MethodId) (args : Array Value) (below : List Frame) (meth : Method) (c : Code) (H : Heap) (locs : List Loc) (cells slots : Nat) (Q : State → Prop) (Qx : Array Value → State → Outcome → State → Prop) (mc ms : Nat) (free : Addr → Prop) (pc : Nat) (ls : Array Slot) (rest : List Value) (a : Array Value) : Prop :=
  (∀ (v : Option Value) (st t : State) (H1 : Heap) (L : List Loc), st.heap = H → s.WarmedH st.vm → Qx a st (.returned v) t → t.heap = H1 → (∀ q ∈ L, free q.base) → W p l e R s m args below meth c H1 (locs ++ L) (cells + mc) (slots + ms) Q (F0 m (pc + 3) ls (v.toList ++ rest))) ∧
  (∀ (q : Addr) (st t : State) (H1 : Heap) (L : List Loc), st.heap = H → s.WarmedH st.vm → Qx a st (.threw q) t → t.heap = H1 → (∀ q ∈ L, free q.base) → ax_T p l e R s m args below meth c H1 (locs ++ L) (cells + mc) (slots + ms) Q (F0 m pc ls rest) q)
theorem ax_go {T : State} {vm₁ : Vm} (hb : c.code = cc) (X₁ : Stand p l e R s m args below meth c (T.setVm vm₁) locs cells slots) (hT : T.heap = H) {ig : Instr} (hdg : decode cc pc = .ok (ig, 3)) (hsize : ls.size = c.maxLocals) (hM : ax_Met l y ws rm Pc Qx mc ms free) (hC : ax_C R s args y bytes maxL ret ws rm n) (hrc : rm.cells = mc) (hrs : rm.slots = ms)
    (hcells : cells + mc ≤ R.cells) (hslots : slots + ms ≤ R.slots) (hwords : (rest.map fun v => v.category).sum ≤ 8) {mk : MethodId} (hn : (T.setVm vm₁).methodNamed? y = some mk) {a : Array Value} (hbl : FrameBlind Pc) (hPc : ∀ U : State, U.heap = H → s.WarmedH U.vm → Pc a U)
    (k : ax_K p l e R s m args below meth c H locs cells slots Q Qx mc ms free pc ls rest a) :
    ∃ t, Steps p.tables e below (doInvoke e ((T.setVm vm₁).setTop (F0 m pc ls rest)) [] mk a).1 t ∧ Q t := by
  obtain ⟨hws, hcw, -, hini, -, -, hfr, hlo⟩ := hC
  have hU : s.WarmedH (T.setVm vm₁).vm := X₁.warmed
  have hini' : (Cond.initialized y.cls).before a (T.setVm vm₁) = true := word_at hU (Or.inl (by first | rfl | simp [Cond.onTables, Cond.keeps, Cond.steady])) hini
  have hmr : (F0 m pc ls rest).monitorRoom = 0 := rfl
  rcases ax_run X₁ (g := F0 m pc ls rest) rfl hsize (by rw [hb]; exact hdg) hM hn (a := a) (fun w hw => hws w hw _ _ hU) hcw hini' hfr (by rw [hmr]; show 2 * 0 + (rest.map fun v => v.category).sum + (maxL + 11) + rm.locals ≤ R.locals; omega) (by rw [hrc]; exact hcells) (by rw [hrs]; exact hslots) (hbl _ _ _ _ (hPc _ hT hU)) with ⟨v, t, T', L, hq, e1, hW', hL, X', st⟩ | ⟨q, t, T', L, hq, e1, hW', hL, X', st⟩
  · obtain ⟨t2, a1, b1⟩ := k.1 v ((T.setVm vm₁).calling (F0 m pc ls rest) mk a) t T'.heap L hT hU hq e1.symm hL T' rfl X'
    exact ⟨t2, st.trans a1, b1⟩
  · obtain ⟨t2, a1, b1⟩ := k.2 q ((T.setVm vm₁).calling (F0 m pc ls rest) mk a) t T'.heap L hT hU hq e1.symm hL T' rfl X'
    exact ⟨t2, st.trans a1, b1⟩
theorem ax_S (hx : p.tables.exec = Jvm.exec) (hb : c.code = cc) (hown : s.vm.findClass own = some m.cls) (hsize : ls.size = c.maxLocals) (hM : ax_Met l y ws rm Pc Qx mc ms free) (hC : ax_C R s args y bytes maxL ret ws rm n) (hrc : rm.cells = mc) (hrs : rm.slots = ms) (hlink : (Cond.methodLink own index y).before args s = true) (hstat : (Cond.static y).before args s = true)
    (hcells : cells + mc ≤ R.cells) (hslots : slots + ms ≤ R.slots) (hn : As.length = n) (hwords : (rest.map fun v => v.category).sum ≤ 8) (hbl : FrameBlind Pc) (hPc : ∀ U : State, U.heap = H → s.WarmedH U.vm → Pc As.toArray U) (hdg : decode cc pc = .ok (.invokestatic index, 3))
    (k : ax_K p l e R s m args below meth c H locs cells slots Q Qx mc ms free pc ls rest As.toArray) : W p l e R s m args below meth c H locs cells slots Q (F0 m pc ls (As.reverse ++ rest)) := by
  intro T hT X
  obtain ⟨-, -, hcode, hini, hy, hlen, -, -⟩ := id hC
  obtain ⟨mk, hnamed⟩ := Cond.code_named hcode
  obtain ⟨methM, cM, hmethM, -, -, -, -, -, -, hsigM⟩ := Cond.code_spec hnamed hcode
  obtain ⟨kP, hkP, -⟩ := className_of_methodNamed hnamed
  obtain ⟨vm₁, X₁, hstep⟩ := X.invokestatic hx hown hlink hnamed hmethM (Cond.static_spec hnamed hmethM hstat) hkP (Cond.initialized_spec (findClass_of_methodNamed hnamed) hkP hini) hy (g := F0 m pc ls (As.reverse ++ rest)) rfl (argsL := As) (rest := rest) (hn.trans (hlen _ hsigM)) rfl (by rw [hb]; exact hdg)
  obtain ⟨t, a1, b1⟩ := ax_go hb X₁ hT hdg hsize hM hC hrc hrs hcells hslots hwords (X₁.named hnamed) hbl hPc k
  exact ⟨t, hstep _ fun acts => by rw [doInvoke_state]; exact a1, b1⟩
theorem ax_SN (hx : p.tables.exec = Jvm.exec) (hb : c.code = cc) (hown : s.vm.findClass own = some m.cls) (hsize : ls.size = c.maxLocals) (hM : ax_Met l y ws rm Pc Qx mc ms free) (hC : ax_C R s args y bytes maxL ret ws rm n) (hrc : rm.cells = mc) (hrs : rm.slots = ms) (hlink : (Cond.methodLinkNest own index y host).before args s = true) (hstat : (Cond.static y).before args s = true)
    (hcells : cells + mc ≤ R.cells) (hslots : slots + ms ≤ R.slots) (hn : As.length = n) (hwords : (rest.map fun v => v.category).sum ≤ 8) (hbl : FrameBlind Pc) (hPc : ∀ U : State, U.heap = H → s.WarmedH U.vm → Pc As.toArray U) (hdg : decode cc pc = .ok (.invokestatic index, 3))
    (k : ax_K p l e R s m args below meth c H locs cells slots Q Qx mc ms free pc ls rest As.toArray) : W p l e R s m args below meth c H locs cells slots Q (F0 m pc ls (As.reverse ++ rest)) := by
  intro T hT X
  obtain ⟨-, -, hcode, hini, hy, hlen, -, -⟩ := id hC
  obtain ⟨mk, hnamed⟩ := Cond.code_named hcode
  obtain ⟨methM, cM, hmethM, -, -, -, -, -, -, hsigM⟩ := Cond.code_spec hnamed hcode
  obtain ⟨kP, hkP, -⟩ := className_of_methodNamed hnamed
  obtain ⟨vm₁, X₁, hstep⟩ := X.invokestaticNest hx hown hlink hnamed hmethM (Cond.static_spec hnamed hmethM hstat) hkP (Cond.initialized_spec (findClass_of_methodNamed hnamed) hkP hini) hy (g := F0 m pc ls (As.reverse ++ rest)) rfl (argsL := As) (rest := rest) (hn.trans (hlen _ hsigM)) rfl (by rw [hb]; exact hdg)
  obtain ⟨t, a1, b1⟩ := ax_go hb X₁ hT hdg hsize hM hC hrc hrs hcells hslots hwords (X₁.named hnamed) hbl hPc k
  exact ⟨t, hstep _ fun acts => by rw [doInvoke_state]; exact a1, b1⟩
theorem ax_V (hx : p.tables.exec = Jvm.exec) (hb : c.code = cc) (hown : s.vm.findClass own = some m.cls) (hsize : ls.size = c.maxLocals) (hM : ax_Met l y ws rm Pc Qx mc ms free) (hC : ax_C R s args y bytes maxL ret ws rm n) (hrc : rm.cells = mc) (hrs : rm.slots = ms) (hlink : (Cond.methodLink own index y).before args s = true) (hinst : (Cond.instanceMethod y).before args s = true) (hsel : (Cond.selects C y y).before args s = true)
    {b : Addr} (hcell : ∃ cellB : Cell, H[b]? = some cellB ∧ cellB.vm.isStatics = false ∧ s.vm.findClass C = some cellB.cls)
    (hcells : cells + mc ≤ R.cells) (hslots : slots + ms ≤ R.slots) (hn : As.length = n) (hwords : (rest.map fun v => v.category).sum ≤ 8) (hbl : FrameBlind Pc) (hPc : ∀ U : State, U.heap = H → s.WarmedH U.vm → Pc (Value.ref b :: As).toArray U) (hdg : decode cc pc = .ok (.invokevirtual index, 3))
    (k : ax_K p l e R s m args below meth c H locs cells slots Q Qx mc ms free pc ls rest (Value.ref b :: As).toArray) : W p l e R s m args below meth c H locs cells slots Q (F0 m pc ls (As.reverse ++ .ref b :: rest)) := by
  intro T hT X
  obtain ⟨cellB, hcB, hobj, hcls⟩ := hcell
  obtain ⟨-, -, hcode, hini, hy, hlen, -, -⟩ := id hC
  obtain ⟨mk, methM, hnamed, hmethM, hstM, habM⟩ := Cond.instanceMethod_spec hinst
  obtain ⟨methM', cM, hmethM', -, -, -, -, -, -, hsigM⟩ := Cond.code_spec hnamed hcode
  cases hmethM.symm.trans hmethM'
  obtain ⟨c2, r2, m2, q1, q2, q3, q4, kP, hkP, hkPi⟩ := Cond.selects_spec hsel
  cases hcls.symm.trans q1
  cases (State.methodFound?_of_named hnamed hy).symm.trans q2
  cases hnamed.symm.trans q3
  have hselP : selectMethod e.platform s.vm cellB.cls mk = .method mk := by rw [Launch.admits_selectMethod X.admits]; exact q4
  obtain ⟨vm₁, X₁, hstep⟩ := X.invokevirtual hx hown hlink hnamed hmethM hstM hkP hkPi hy (a := b) (cell := cellB) (by rw [hT]; exact hcB)
    (fun z h => by rw [h] at hobj; cases hobj) hselP hmethM habM hkP hkPi (g := F0 m pc ls (As.reverse ++ .ref b :: rest)) rfl (argsL := As) (rest := rest) (hn.trans (hlen _ hsigM)) rfl (by rw [hb]; exact hdg)
  obtain ⟨t, a1, b1⟩ := ax_go hb X₁ hT hdg hsize hM hC hrc hrs hcells hslots hwords (X₁.named hnamed) hbl hPc k
  exact ⟨t, hstep _ fun acts => by rw [doInvoke_state]; exact a1, b1⟩
theorem ax_I (hx : p.tables.exec = Jvm.exec) (hb : c.code = cc) (hown : s.vm.findClass own = some m.cls) (hsize : ls.size = c.maxLocals) (hM : ax_Met l y ws rm Pc Qx mc ms free) (hC : ax_C R s args y bytes maxL none ws rm n) (hrc : rm.cells = mc) (hrs : rm.slots = ms) (hlink : (Cond.methodLink own index y).before args s = true) (hinst : (Cond.instanceMethod y).before args s = true) (hy1 : y.name = "<init>") {b : Addr}
    (hcells : cells + mc ≤ R.cells) (hslots : slots + ms ≤ R.slots) (hn : As.length = n) (hwords : (rest.map fun v => v.category).sum ≤ 8) (hbl : FrameBlind Pc) (hPc : ∀ U : State, U.heap = H → s.WarmedH U.vm → Pc (Value.ref b :: As).toArray U) (hdg : decode cc pc = .ok (.invokespecial index, 3))
    (k : ax_K p l e R s m args below meth c H locs cells slots Q Qx mc ms free pc ls rest (Value.ref b :: As).toArray) : W p l e R s m args below meth c H locs cells slots Q (F0 m pc ls (As.reverse ++ .ref b :: rest)) := by
  intro T hT X
  obtain ⟨-, -, hcode, hini, hy, hlen, -, -⟩ := id hC
  have hpl : e.platform.magicAccessors = ({} : Platform).magicAccessors := by rw [X.admits.platform]
  obtain ⟨mk, methM, cM, kP, vm₁, hnamed, hmethM, hcodeM, -, hlocalsM, -, hkP, -, hW₁, hstep⟩ := Steps.initColdArgs (e := e) X.here hx X.warmed hpl hown hy1 hy hlink hinst hcode (f := F0 m pc ls (As.reverse ++ .ref b :: rest)) rfl (argsL := As) (rest := rest) (a := b) (fun sig h => hn.trans (hlen sig h)) rfl (by rw [hb]; exact hdg)
  have X₁ := X.noted hW₁
  obtain ⟨t, a1, b1⟩ := ax_go hb X₁ hT hdg hsize hM hC hrc hrs hcells hslots hwords (X₁.named hnamed) hbl hPc k
  exact ⟨t, hstep _ fun acts => by rw [doInvoke_state]; exact a1, b1⟩
end AXC
end
section
/-! How a method goes by the abstract machine: to its answer, or to an exception; and that the machine goes so. -/
abbrev am_O : Type := Option Value ⊕ String
/-- one step that is no call, no end -/
def am_n (ins : Nat → Option (Instr × Nat)) (fld : Nat → Option (Nat × Nat × Nat)) (cst : Nat → Option Value) (S : am_S) : Option am_S := match ins S.1 with
  | none => none
  | some (i, n) => match am_p i n S.1 S.2.1 S.2.2.1 with
    | some r => some (r.1, r.2.1, r.2.2, S.2.2.2)
    | none => match am_hA fld i n S.1 S.2.1 S.2.2.1 S.2.2.2 with
      | some r => some r
      | none => match am_hB i n S.1 S.2.1 S.2.2.1 S.2.2.2 with
        | some r => some r
        | none => match i, n with
          | .ldc ix, 2 => match cst ix with
            | some (.int x) => some (S.1 + 2, S.2.1, .int x :: S.2.2.1, S.2.2.2)
            | _ => none
          | .ldc2_w ix, 3 => match cst ix with
            | some (.long x) => some (S.1 + 3, S.2.1, .long x :: S.2.2.1, S.2.2.2)
            | _ => none
          | _, _ => none
/-- the receiver is an object of the class ci -/
def am_rcv (st : List Value) (h : List va_E) (k ci : Nat) : Bool := match k with
  | 0 => false
  | j + 1 => match st[j]? with
    | some (.ref b) => match h[b]? with
      | some (.inr (ci', _)) => ci' == ci
      | _ => false
    | _ => false
/-- a call: its kind (0 static, 1 virtual, 2 of a constructor, 3 static in a nest mate), the method, how many words of the stack it takes, the receiver's class -/
def am_site (ins : Nat → Option (Instr × Nat)) (site : Nat → Option (Nat × Nat × Nat × Nat)) (S : am_S) : Option (Nat × Nat × Nat × Nat × Nat) := match ins S.1 with
  | some (.invokestatic ix, 3) => match site ix with
    | some (0, y, k, ci) => some (ix, 0, y, k, ci)
    | some (3, y, k, ci) => some (ix, 3, y, k, ci)
    | _ => none
  | some (.invokevirtual ix, 3) => match site ix with
    | some (1, y, k, ci) => if am_rcv S.2.2.1 S.2.2.2 k ci = true then some (ix, 1, y, k, ci) else none
    | _ => none
  | some (.invokespecial ix, 3) => match site ix with
    | some (2, y, k, ci) => if am_rcv S.2.2.1 S.2.2.2 k ci = true then some (ix, 2, y, k, ci) else none
    | _ => none
  | _ => none
def am_ret (ins : Nat → Option (Instr × Nat)) (rt : Option FieldType) (S : am_S) : Option (Option Value) := match ins S.1, S.2.2.1, rt with
  | some (.ireturn, 1), [.int x], some .int => some (some (.int x))
  | some (.ireturn, 1), [.int x], some .boolean => if x = 0 ∨ x = 1 then some (some (.int x)) else none
  | some (.areturn, 1), [.ref k], some (.object _) => some (some (.ref k))
  | some (.return_, 1), [], none => some none
  | _, _, _ => none
/-- 'throw new E()' -/
def am_thr (ins : Nat → Option (Instr × Nat)) (exc : Nat × Nat → Option String) (S : am_S) : Option String := match ins S.1, ins (S.1 + 3), ins (S.1 + 4), ins (S.1 + 7), S.2.2.1 with
  | some (.new ik, 3), some (.dup, 1), some (.invokespecial ic, 3), some (.athrow, 1), [] => exc (ik, ic)
  | _, _, _, _, _ => none
/-- from S, with g cells thrown away, to the end o with the cells h' and g' thrown away; Cr: what the called methods do -/
def am_E (ins : Nat → Option (Instr × Nat)) (fld : Nat → Option (Nat × Nat × Nat)) (cst : Nat → Option Value) (site : Nat → Option (Nat × Nat × Nat × Nat)) (exc : Nat × Nat → Option String) (rt : Option FieldType) (Cr : Nat → List Value → List va_E → am_O → List va_E → Nat → Prop) : Nat → am_S → Nat → am_O → List va_E → Nat → Prop
  | 0, _, _, _, _, _ => False
  | n + 1, S, g, o, h', g' =>
    (∃ S', am_n ins fld cst S = some S' ∧ am_E ins fld cst site exc rt Cr n S' g o h' g') ∨
    (∃ L', am_le L' S.2.1 ∧ am_E ins fld cst site exc rt Cr n (S.1, L', S.2.2) g o h' g') ∨
    (∃ ix kd y k ci v h1 g1, am_site ins site S = some (ix, kd, y, k, ci) ∧ k ≤ S.2.2.1.length ∧ ((S.2.2.1.drop k).map fun v => v.category).sum ≤ 8 ∧ Cr y (S.2.2.1.take k).reverse S.2.2.2 (.inl v) h1 g1 ∧ am_E ins fld cst site exc rt Cr n (S.1 + 3, S.2.1, v.toList ++ S.2.2.1.drop k, h1) (g + g1) o h' g') ∨
    (∃ ix kd y k ci E h1 g1, am_site ins site S = some (ix, kd, y, k, ci) ∧ k ≤ S.2.2.1.length ∧ ((S.2.2.1.drop k).map fun v => v.category).sum ≤ 8 ∧ Cr y (S.2.2.1.take k).reverse S.2.2.2 (.inr E) h1 g1 ∧ o = .inr E ∧ h' = h1 ∧ g' = g + g1) ∨
    (∃ v, am_ret ins rt S = some v ∧ o = .inl v ∧ h' = S.2.2.2 ∧ g' = g) ∨
    (∃ E, am_thr ins exc S = some E ∧ o = .inr E ∧ h' = S.2.2.2 ∧ g' = g + 1)
/-- a method's end, as its caller is told -/
def am_Qx (D : va_G) (cl : List vw_C) (ad : Nat → Nat) (ca : Nat → ClassId) (A : Nat → Prop) (o : am_O) (h' : List va_E) : Array Value → State → Outcome → State → Prop := fun _ st oc t =>
  (match o with
    | .inl v => oc = .returned (v.map (am_v ad))
    | .inr E => ∃ (q : Addr) (ce : Cell), oc = .threw q ∧ t.heap[q]? = some ce ∧ ce.vm = .none ∧ st.vm.findClass E = some ce.cls) ∧ va_P D cl (am_ws ad ca h') t.heap ∧ va_F A st t
section AME
variable {p : Program} {l : Launch} {e : Env} {R : Room} {s : State} {m : MethodId} {args : Array Value} {below : List Frame} {meth : Method} {c : Code}
variable {cc : ByteArray} {ad : Nat → Nat} {ca : Nat → ClassId} {nL : Nat} {D : va_G} {cl : List vw_C} {A : Nat → Prop} {tys : List (ClassId × FieldType)} {H0 : Heap} {Ts : List Cond} {own : String}
variable {ins : Nat → Option (Instr × Nat)} {fld : Nat → Option (Nat × Nat × Nat)} {cst : Nat → Option Value} {site : Nat → Option (Nat × Nat × Nat × Nat)} {exc : Nat × Nat → Option String} {rt : Option FieldType} {Cr : Nat → List Value → List va_E → am_O → List va_E → Nat → Prop}
/-- what holds at a point of a walk -/
def am_at (ad : Nat → Nat) (ca : Nat → ClassId) (D : va_G) (cl : List vw_C) (A : Nat → Prop) (H0 : Heap) (nL : Nat) (S : am_S) (ls : Array Slot) (H : Heap) (locs : List Loc) : Prop :=
  am_has ad ls nL S.2.1 ∧ va_P D cl (am_ws ad ca S.2.2.2) H ∧ va_D A (am_ws ad ca S.2.2.2) ∧ va_S A H0 H locs
set_option maxHeartbeats 4000000 in
theorem am_n_ok {H : Heap} {locs : List Loc} {cells slots : Nat} {Q : State → Prop} (hx : p.tables.exec = Jvm.exec) (hb : c.code = cc) (hown : s.vm.findClass own = some m.cls) (hts : ∀ w ∈ Ts, w.before args s = true) (hF : am_Fw meth own Ts cl fld) (hK : va_K D cl tys s) (t0 : tys[0]? = some (ca 0, .int)) (t1 : tys[1]? = some (ca 1, .boolean)) (t2 : tys[2]? = some (ca 2, .long)) (t3 : am_t3 tys ca)
    (hins : ∀ pc i n, ins pc = some (i, n) → decode cc pc = .ok (i, n)) (hci : ∀ ix x, cst ix = some (.int x) → Cond.constant own ix x ∈ Ts) (hcl : ∀ ix x, cst ix = some (.long x) → Cond.constantLong own ix x ∈ Ts)
    {S S' : am_S} {ls : Array Slot} (hat : am_at ad ca D cl A H0 nL S ls H locs) (h : am_n ins fld cst S = some S')
    (k : ∀ ls' H1 locs1, am_at ad ca D cl A H0 nL S' ls' H1 locs1 → W p l e R s m args below meth c H1 locs1 cells slots Q (F0 m S'.1 ls' (S'.2.2.1.map (am_v ad)))) : W p l e R s m args below meth c H locs cells slots Q (F0 m S.1 ls (S.2.2.1.map (am_v ad))) := by
  obtain ⟨hL, hP, hD, hS⟩ := hat
  unfold am_n at h
  split at h
  · cases h
  · next i n hi =>
    have hd := hins _ _ _ hi
    split at h
    · next r hr =>
      cases h
      exact am_p_ok hx hb hL hd hr (fun ls' hL' => k ls' H locs ⟨hL', hP, hD, hS⟩)
    · split at h
      · next r hr =>
        cases h
        exact am_hA_ok hx hb hown hts hF hK hL hP hD hS hd hr (fun ls' H1 locs1 a1 a2 a3 a4 => k ls' H1 locs1 ⟨a1, a2, a3, a4⟩)
      · split at h
        · next r hr =>
          cases h
          exact am_hB_ok hx hb hK t0 t1 t2 t3 hL hP hD hS hd hr (fun ls' H1 locs1 a1 a2 a3 a4 => k ls' H1 locs1 ⟨a1, a2, a3, a4⟩)
        · split at h
          · split at h
            · next x hc => cases h; exact lv_ldc hx hb hown (hts _ (hci _ _ hc)) hd (k _ _ _ ⟨hL, hP, hD, hS⟩)
            · cases h
          · split at h
            · next x hc => cases h; exact lv_ldc2 hx hb hown (hts _ (hcl _ _ hc)) hd (k _ _ _ ⟨hL, hP, hD, hS⟩)
            · cases h
          · cases h
/-- the ends -/
theorem am_ret_ok {H : Heap} {locs : List Loc} {cells slots : Nat} {free : Addr → Prop} (hx : p.tables.exec = Jvm.exec) (hb : c.code = cc) (hr : meth.sig.returnType = rt) (hlocks : meth.locks = false) (hins : ∀ pc i n, ins pc = some (i, n) → decode cc pc = .ok (i, n))
    {S : am_S} {v : Option Value} {ls : Array Slot} (hat : am_at ad ca D cl A s.heap nL S ls H locs) (hf : ∀ q, A q → free q) (h : am_ret ins rt S = some v) :
    W p l e R s m args below meth c H locs cells slots (ax_E below (am_Qx D cl ad ca A (.inl v) S.2.2.2) args s cells slots free) (F0 m S.1 ls (S.2.2.1.map (am_v ad))) := by
  obtain ⟨hL, hP, hD, hS⟩ := hat
  have hfr : ∀ q ∈ locs, free q.base := fun q hq => hf _ (hS.2.2 q hq)
  have hend : ∀ w : Option Value, ∀ t : State, t.heap = H → s.WarmedH t.vm → am_Qx D cl ad ca A (.inl w) S.2.2.2 args s (.returned (w.map (am_v ad))) t := fun w t ht _ => ⟨rfl, by rw [ht]; exact hP, hS.F ht⟩
  unfold am_ret at h
  split at h
  · next x hi hst => cases h; rw [hst]; exact ax_ret (W.zret (ty := .int) hx hb hr rfl (hend (some (.int x))) hfr (hins _ _ _ hi))
  · next x hi hst =>
    split at h
    · next h01 => cases h; rw [hst]; exact ax_ret (W.zret (ty := .boolean) hx hb hr (by rcases h01 with rfl | rfl <;> rfl) (hend (some (.int x))) hfr (hins _ _ _ hi))
    · cases h
  · next k _ hi hst => cases h; rw [hst]; exact ax_ret (W.aret hx hb hr (Or.inl ⟨_, rfl⟩) (Or.inr ⟨_, rfl⟩) (hend (some (.ref k))) hfr (hins _ _ _ hi))
  · next hi hst => cases h; rw [hst]; exact ax_ret (W.vret hx hb hr (hend none) hfr (hins _ _ _ hi))
  · cases h
end AME
end
section
/-! Calls by the abstract machine; the whole walk of a method. -/
/-- a method's start: its arguments, the cells, the tables, what else is carried (XX) -/
def am_Pc (D : va_G) (cl : List vw_C) (tys : List (ClassId × FieldType)) (ad : Nat → Nat) (ca : Nat → ClassId) (A : Nat → Prop) (XX : State → Prop) (As : List Value) (h : List va_E) : Array Value → State → Prop := fun v U =>
  v = (As.map (am_v ad)).toArray ∧ va_P D cl (am_ws ad ca h) U.heap ∧ va_D A (am_ws ad ca h) ∧ va_K D cl tys U ∧ XX U
theorem am_Pc_blind {D : va_G} {cl : List vw_C} {tys : List (ClassId × FieldType)} {ad : Nat → Nat} {ca : Nat → ClassId} {A : Nat → Prop} {XX : State → Prop} (hXX : ∀ U g mk a, XX U → XX (U.calling g mk a)) {As : List Value} {h : List va_E} : FrameBlind (am_Pc D cl tys ad ca A XX As h) := by
  intro a U g mk q
  obtain ⟨q0, q1, q2, q3, q4⟩ := q
  exact ⟨q0, q1, q2, va_K.moved (u := U) (U := U.calling g mk a) (Vm.Alike.refl U.vm) q3, hXX _ _ _ _ q4⟩
/-- a method by its number: name, bytes, how many locals, the kind of its answer -/
abbrev am_mt : Type := Nat → MethodName × ByteArray × Nat × Option FieldType
def am_wy (Ts : List Cond) (mt : am_mt) (y : Nat) : List Cond := Cond.code (mt y).1 (mt y).2.1 (mt y).2.2.1 (mt y).2.2.2 :: Ts
/-- what the table of calls rests on -/
def am_Sw (own : String) (Ts Tn : List Cond) (cl : List vw_C) (mt : am_mt) (site : Nat → Option (Nat × Nat × Nat × Nat)) : Prop :=
  ∀ ix kd y k ci, site ix = some (kd, y, k, ci) → Cond.code (mt y).1 (mt y).2.1 (mt y).2.2.1 (mt y).2.2.2 ∈ Ts ∧ Cond.initialized (mt y).1.cls ∈ Ts ∧ ((mt y).1.cls ≠ "java/lang/invoke/MethodHandle" ∧ (mt y).1.cls ≠ "java/lang/invoke/VarHandle") ∧
    (kd = 0 → Cond.methodLink own ix (mt y).1 ∈ Ts ∧ Cond.static (mt y).1 ∈ Ts ∧ (parseMethodDescriptor (mt y).1.desc).map (fun d => d.parameters.length) = some k) ∧
    (kd = 1 → Cond.methodLink own ix (mt y).1 ∈ Ts ∧ Cond.instanceMethod (mt y).1 ∈ Ts ∧ (parseMethodDescriptor (mt y).1.desc).map (fun d => d.parameters.length + 1) = some k ∧ ∃ C T N, cl[ci]? = some (C, T, N) ∧ Cond.selects C (mt y).1 (mt y).1 ∈ Ts) ∧
    (kd = 2 → Cond.methodLink own ix (mt y).1 ∈ Ts ∧ Cond.instanceMethod (mt y).1 ∈ Ts ∧ (parseMethodDescriptor (mt y).1.desc).map (fun d => d.parameters.length + 1) = some k ∧ (mt y).1.name = "<init>" ∧ (mt y).2.2.2 = none) ∧
    (kd = 3 → (∃ host, Cond.methodLinkNest own ix (mt y).1 host ∈ Tn) ∧ Cond.static (mt y).1 ∈ Ts ∧ (parseMethodDescriptor (mt y).1.desc).map (fun d => d.parameters.length) = some k)
/-- the stack that a call takes: the arguments over the rest -/
theorem am_split {st : List Value} {k : Nat} (ad : Nat → Nat) : st.map (am_v ad) = ((st.take k).reverse.map (am_v ad)).reverse ++ (st.drop k).map (am_v ad) := by
  rw [List.map_reverse, List.reverse_reverse, ← List.map_append, List.take_append_drop]
theorem am_rcv_ok {st : List Value} {h : List va_E} {k ci : Nat} (hr : am_rcv st h k ci = true) : ∃ b fs As, (st.take k).reverse = .ref b :: As ∧ As.length + 1 = k ∧ h[b]? = some (.inr (ci, fs)) := by
  unfold am_rcv at hr
  split at hr
  · cases hr
  · next j =>
    split at hr
    · next b hb =>
      split at hr
      · next ci' fs hh =>
        have e1 : ci' = ci := by simpa using hr
        subst e1
        have hj : j < st.length := (List.getElem?_eq_some_iff.mp hb).1
        refine ⟨b, fs, (st.take j).reverse, ?_, by simp; omega, hh⟩
        rw [List.take_succ, hb]
        simp
      · cases hr
    · cases hr
section AMC
variable {p : Program} {l : Launch} {e : Env} {R : Room} {s : State} {m : MethodId} {args : Array Value} {below : List Frame} {meth : Method} {c : Code}
variable {cc : ByteArray} {ad : Nat → Nat} {ca : Nat → ClassId} {nL : Nat} {D : va_G} {cl : List vw_C} {A : Nat → Prop} {tys : List (ClassId × FieldType)} {Ts Tn : List Cond} {own : String} {XX : State → Prop} {mt : am_mt}
variable {ins : Nat → Option (Instr × Nat)} {fld : Nat → Option (Nat × Nat × Nat)} {cst : Nat → Option Value} {site : Nat → Option (Nat × Nat × Nat × Nat)} {exc : Nat × Nat → Option String} {rt : Option FieldType} {Cr : Nat → List Value → List va_E → am_O → List va_E → Nat → Prop}
set_option maxHeartbeats 4000000 in
theorem am_call_ok {H : Heap} {locs : List Loc} {cells slots : Nat} {Q : State → Prop} (hx : p.tables.exec = Jvm.exec) (hb : c.code = cc) (hml : c.maxLocals = nL) (hown : s.vm.findClass own = some m.cls) (hts : ∀ w ∈ Ts, w.before args s = true) (hgd : ∀ w ∈ Ts, goodWord w = true) (htn : ∀ w ∈ Tn, w.before args s = true) (hK : va_K D cl tys s)
    (hins : ∀ pc i n, ins pc = some (i, n) → decode cc pc = .ok (i, n)) (hSw : am_Sw own Ts Tn cl mt site)
    (hXb : ∀ U g mk a, XX U → XX (U.calling g mk a)) (hX : ∀ U : State, U.heap = H → s.WarmedH U.vm → va_F A s U → XX U)
    {S : am_S} {ix kd y k ci mc ms : Nat} {o1 : am_O} {h1 : List va_E} {rm : Room} {ls : Array Slot} (hat : am_at ad ca D cl A s.heap nL S ls H locs) (hsi : am_site ins site S = some (ix, kd, y, k, ci)) (hk : k ≤ S.2.2.1.length) (hw8 : ((S.2.2.1.drop k).map fun v => v.category).sum ≤ 8)
    (hM : ax_Met l (mt y).1 (am_wy Ts mt y) rm (am_Pc D cl tys ad ca A XX (S.2.2.1.take k).reverse S.2.2.2) (am_Qx D cl ad ca A o1 h1) mc ms A) (hrc : rm.cells = mc) (hrs : rm.slots = ms) (hrf : rm.frames + 1 ≤ R.frames) (hrl : 8 + ((mt y).2.2.1 + 11) + rm.locals ≤ R.locals) (hcells : cells + mc ≤ R.cells) (hslots : slots + ms ≤ R.slots)
    (hD1 : va_D A (am_ws ad ca h1))
    (kr : ∀ v, o1 = .inl v → ∀ H1 locs1, am_at ad ca D cl A s.heap nL (S.1 + 3, S.2.1, v.toList ++ S.2.2.1.drop k, h1) ls H1 locs1 → W p l e R s m args below meth c H1 locs1 (cells + mc) (slots + ms) Q (F0 m (S.1 + 3) ls ((v.toList ++ S.2.2.1.drop k).map (am_v ad))))
    (kt : ∀ E, o1 = .inr E → ∀ (q : Addr) (ce : Cell) H1 locs1, va_P D cl (am_ws ad ca h1) H1 → va_S A s.heap H1 locs1 → H1[q]? = some ce → ce.vm = .none → s.vm.findClass E = some ce.cls → ax_T p l e R s m args below meth c H1 locs1 (cells + mc) (slots + ms) Q (F0 m S.1 ls ((S.2.2.1.drop k).map (am_v ad))) q) :
    W p l e R s m args below meth c H locs cells slots Q (F0 m S.1 ls (S.2.2.1.map (am_v ad))) := by
  obtain ⟨hL, hP, hD, hS⟩ := hat
  have hsz : ls.size = c.maxLocals := hL.1.trans hml.symm
  have hw8' : (((S.2.2.1.drop k).map (am_v ad)).map fun v => v.category).sum ≤ 8 := by
    rw [List.map_map]
    have e1 : ((fun v => v.category) ∘ am_v ad) = fun v : Value => v.category := funext fun v => am_cat ad v
    rw [e1]
    exact hw8
  have hPc : ∀ U : State, U.heap = H → s.WarmedH U.vm → am_Pc D cl tys ad ca A XX (S.2.2.1.take k).reverse S.2.2.2 ((S.2.2.1.take k).reverse.map (am_v ad)).toArray U := fun U hU hW =>
    ⟨rfl, by rw [hU]; exact hP, hD, va_K.moved hW.alike hK, hX U hU hW (hS.F hU)⟩
  have hgo : ax_K p l e R s m args below meth c H locs cells slots Q (am_Qx D cl ad ca A o1 h1) mc ms A S.1 ls ((S.2.2.1.drop k).map (am_v ad)) ((S.2.2.1.take k).reverse.map (am_v ad)).toArray := by
    have hS1 : ∀ (st t : State) (H1 : Heap) (L : List Loc), st.heap = H → va_F A st t → t.heap = H1 → (∀ q ∈ L, A q.base) → va_S A s.heap H1 (locs ++ L) := fun st t H1 L e1 hF e2 hL1 => by
      obtain ⟨f1, f2⟩ := hF
      rw [e1, e2] at f1 f2
      refine ⟨Nat.le_trans hS.1 f1, fun q g1 g2 => (f2 q (Nat.lt_of_lt_of_le g1 hS.1) g2).trans (hS.2.1 q g1 g2), fun q hq => ?_⟩
      rcases List.mem_append.mp hq with h | h
      · exact hS.2.2 q h
      · exact hL1 q h
    refine ⟨fun v st t H1 L e1 hW0 hq e2 hL1 => ?_, fun q st t H1 L e1 hW0 hq e2 hL1 => ?_⟩
    · obtain ⟨q1, q2, q3⟩ := hq
      cases o1 with
      | inl w =>
        cases q1
        have e3 : (w.map (am_v ad)).toList ++ (S.2.2.1.drop k).map (am_v ad) = (w.toList ++ S.2.2.1.drop k).map (am_v ad) := by cases w <;> simp
        rw [e3]
        exact kr w rfl H1 _ ⟨hL, by rw [← e2]; exact q2, hD1, hS1 st t H1 L e1 q3 e2 hL1⟩
      | inr E =>
        obtain ⟨_, _, q4, _⟩ := q1
        cases q4
    · obtain ⟨q1, q2, q3⟩ := hq
      cases o1 with
      | inl w => cases q1
      | inr E =>
        obtain ⟨q', ce, q4, q5, q6, q7⟩ := q1
        cases q4
        exact kt E rfl q ce H1 _ (by rw [← e2]; exact q2) (hS1 st t H1 L e1 q3 e2 hL1) (by rw [← e2]; exact q5) q6 (by rw [← hW0.alike.findClass]; exact q7)
  have hC : ∀ n : Nat, site ix = some (kd, y, k, ci) → (parseMethodDescriptor (mt y).1.desc).map (fun d => d.parameters.length) = some n → ax_C R s args (mt y).1 (mt y).2.1 (mt y).2.2.1 (mt y).2.2.2 (am_wy Ts mt y) rm n := fun n hs hn => by
    obtain ⟨w1, w2, w3, -⟩ := hSw _ _ _ _ _ hs
    have hin : ∀ w ∈ am_wy Ts mt y, w ∈ Ts := fun w hw => by
      rcases List.mem_cons.mp hw with rfl | hw
      · exact w1
      · exact hw
    refine ⟨fun w hw a' U hW => word_at hW (good_of_word (hgd w (hin w hw))) (hts w (hin w hw)), List.mem_cons_self, hts _ w1, hts _ w2, w3, fun sig h => ?_, hrf, hrl⟩
    rw [h] at hn
    exact (Option.some.inj hn).symm
  have harg : ∀ {j : Nat}, (parseMethodDescriptor (mt y).1.desc).map (fun d => d.parameters.length + 1) = some (j + 1) → (parseMethodDescriptor (mt y).1.desc).map (fun d => d.parameters.length) = some j := fun {j} h => by
    cases hp : parseMethodDescriptor (mt y).1.desc with
    | none => rw [hp] at h; cases h
    | some d => rw [hp] at h; simp only [Option.map_some, Option.some.injEq] at h ⊢; omega
  have hlen : ((S.2.2.1.take k).reverse.map (am_v ad)).length = k := by simp; omega
  unfold am_site at hsi
  split at hsi
  · next ix' hi =>
    split at hsi
    · next hs =>
      cases hsi
      obtain ⟨-, -, -, v0, -⟩ := hSw _ _ _ _ _ hs
      obtain ⟨z1, z2, z3⟩ := v0 rfl
      rw [am_split (k := k) ad]
      exact ax_S hx hb hown hsz hM (hC k hs z3) hrc hrs (hts _ z1) (hts _ z2) hcells hslots hlen hw8' (am_Pc_blind hXb) hPc (hins _ _ _ hi) hgo
    · next hs =>
      cases hsi
      obtain ⟨-, -, -, -, -, -, v3⟩ := hSw _ _ _ _ _ hs
      obtain ⟨⟨host, z1⟩, z2, z3⟩ := v3 rfl
      rw [am_split (k := k) ad]
      exact ax_SN hx hb hown hsz hM (hC k hs z3) hrc hrs (htn _ z1) (hts _ z2) hcells hslots hlen hw8' (am_Pc_blind hXb) hPc (hins _ _ _ hi) hgo
    · cases hsi
  · next ix' hi =>
    split at hsi
    · next hs =>
      split at hsi
      · next hrv =>
        cases hsi
        obtain ⟨-, -, -, -, v1, -⟩ := hSw _ _ _ _ _ hs
        obtain ⟨z1, z2, z3, C, T, N, z4, z5⟩ := v1 rfl
        obtain ⟨b, fs, As, hb1, hb2, hb3⟩ := am_rcv_ok hrv
        subst hb2
        rw [am_split (k := As.length + 1) ad]
        rw [hb1] at hPc hgo hM ⊢
        simp only [List.map_cons, am_v, List.reverse_cons, List.append_assoc, List.singleton_append] at hPc hgo ⊢
        exact ax_V hx hb hown hsz hM (hC _ hs (harg z3)) hrc hrs (hts _ z1) (hts _ z2) (hts _ z5) (va_recv hK hP z4 (am_ws_get hb3)) hcells hslots (by simp) hw8' (am_Pc_blind hXb) hPc (hins _ _ _ hi) hgo
      · cases hsi
    · cases hsi
  · next ix' hi =>
    split at hsi
    · next hs =>
      split at hsi
      · next hrv =>
        cases hsi
        obtain ⟨-, -, -, -, -, v2, -⟩ := hSw _ _ _ _ _ hs
        obtain ⟨z1, z2, z3, z4, z5⟩ := v2 rfl
        obtain ⟨b, fs, As, hb1, hb2, hb3⟩ := am_rcv_ok hrv
        subst hb2
        have hC9 := hC _ hs (harg z3)
        rw [z5] at hC9
        rw [am_split (k := As.length + 1) ad]
        rw [hb1] at hPc hgo hM ⊢
        simp only [List.map_cons, am_v, List.reverse_cons, List.append_assoc, List.singleton_append] at hPc hgo ⊢
        exact ax_I hx hb hown hsz hM hC9 hrc hrs (hts _ z1) (hts _ z2) z4 hcells hslots (by simp) hw8' (am_Pc_blind hXb) hPc (hins _ _ _ hi) hgo
      · cases hsi
    · cases hsi
  · cases hsi
end AMC
end
section
/-! The walk of a method by the abstract machine, and its promise. -/
section AMW
variable {p : Program} {l : Launch} {e : Env} {R : Room} {s : State} {m : MethodId} {args : Array Value} {below : List Frame} {meth : Method} {c : Code}
variable {cc : ByteArray} {ad : Nat → Nat} {ca : Nat → ClassId} {nL : Nat} {D : va_G} {cl : List vw_C} {A : Nat → Prop} {tys : List (ClassId × FieldType)} {Ts Tn : List Cond} {own : String} {XX : State → Prop} {mt : am_mt}
variable {ins : Nat → Option (Instr × Nat)} {fld : Nat → Option (Nat × Nat × Nat)} {cst : Nat → Option Value} {site : Nat → Option (Nat × Nat × Nat × Nat)} {exc : Nat × Nat → Option String} {rt : Option FieldType} {Cr : Nat → List Value → List va_E → am_O → List va_E → Nat → Prop}
theorem am_E_le {o : am_O} {h' : List va_E} {g' : Nat} : ∀ (n : Nat) (S : am_S) (g : Nat), am_E ins fld cst site exc rt Cr n S g o h' g' → g ≤ g' := by
  intro n
  induction n with
  | zero => intro S g h; exact h.elim
  | succ n ih =>
    intro S g h
    rcases h with ⟨S', -, h⟩ | ⟨L', -, h⟩ | ⟨ix, kd, y, k, ci, v, h1, g1, -, -, -, -, h⟩ | ⟨ix, kd, y, k, ci, E, h1, g1, -, -, -, -, -, -, h⟩ | ⟨v, -, -, -, h⟩ | ⟨E, -, -, -, h⟩
    · exact ih _ _ h
    · exact ih _ _ h
    · exact Nat.le_trans (Nat.le_add_right _ _) (ih _ _ h)
    · omega
    · omega
    · omega
/-- the rooms of the called methods: frames and words by their numbers -/
def am_rm (fr lo : Nat → Nat) (y g : Nat) : Room := { frames := fr y, cells := g, slots := 6 * g, locals := lo y }
set_option maxHeartbeats 4000000 in
theorem am_E_ok {o : am_O} {h' : List va_E} {g' : Nat} {Q : State → Prop} {fr lo : Nat → Nat} (hx : p.tables.exec = Jvm.exec) (hb : c.code = cc) (hml : c.maxLocals = nL) (hown : s.vm.findClass own = some m.cls) (hts : ∀ w ∈ Ts, w.before args s = true) (hgd : ∀ w ∈ Ts, goodWord w = true) (htn : ∀ w ∈ Tn, w.before args s = true)
    (hF : am_Fw meth own Ts cl fld) (hK : va_K D cl tys s) (t0 : tys[0]? = some (ca 0, .int)) (t1 : tys[1]? = some (ca 1, .boolean)) (t2 : tys[2]? = some (ca 2, .long)) (t3 : am_t3 tys ca)
    (hins : ∀ pc i n, ins pc = some (i, n) → decode cc pc = .ok (i, n)) (hci : ∀ ix x, cst ix = some (.int x) → Cond.constant own ix x ∈ Ts) (hcl : ∀ ix x, cst ix = some (.long x) → Cond.constantLong own ix x ∈ Ts) (hSw : am_Sw own Ts Tn cl mt site)
    (hXb : ∀ U g mk a, XX U → XX (U.calling g mk a)) (hX : ∀ U : State, s.WarmedH U.vm → va_F A s U → XX U)
    (hCr : ∀ y As h o1 h1 g1, Cr y As h o1 h1 g1 → ax_Met l (mt y).1 (am_wy Ts mt y) (am_rm fr lo y g1) (am_Pc D cl tys ad ca A XX As h) (am_Qx D cl ad ca A o1 h1) g1 (6 * g1) A ∧ va_D A (am_ws ad ca h1))
    (hrm : ∀ ix kd y k ci, site ix = some (kd, y, k, ci) → fr y + 1 ≤ R.frames ∧ 8 + ((mt y).2.2.1 + 11) + lo y ≤ R.locals) (hgc : g' ≤ R.cells) (hgs : 6 * g' ≤ R.slots)
    (hret : ∀ S v ls H locs, am_ret ins rt S = some v → o = .inl v → h' = S.2.2.2 → am_at ad ca D cl A s.heap nL S ls H locs → W p l e R s m args below meth c H locs g' (6 * g') Q (F0 m S.1 ls (S.2.2.1.map (am_v ad))))
    (hthr : ∀ S E g ls H locs, am_thr ins exc S = some E → o = .inr E → h' = S.2.2.2 → g' = g + 1 → am_at ad ca D cl A s.heap nL S ls H locs → W p l e R s m args below meth c H locs g (6 * g) Q (F0 m S.1 ls (S.2.2.1.map (am_v ad))))
    (hout : ∀ E (q : Addr) (ce : Cell) pc ls st H locs, o = .inr E → va_P D cl (am_ws ad ca h') H → va_S A s.heap H locs → H[q]? = some ce → ce.vm = .none → s.vm.findClass E = some ce.cls → ax_T p l e R s m args below meth c H locs g' (6 * g') Q (F0 m pc ls st) q) :
    ∀ (n : Nat) (S : am_S) (g : Nat), am_E ins fld cst site exc rt Cr n S g o h' g' → ∀ ls H locs, am_at ad ca D cl A s.heap nL S ls H locs → W p l e R s m args below meth c H locs g (6 * g) Q (F0 m S.1 ls (S.2.2.1.map (am_v ad))) := by
  have hsi0 : ∀ {S : am_S} {ix kd y k ci : Nat}, am_site ins site S = some (ix, kd, y, k, ci) → site ix = some (kd, y, k, ci) := fun {S ix kd y k ci} h => by
    unfold am_site at h
    split at h
    · split at h
      · next hs => cases h; exact hs
      · next hs => cases h; exact hs
      · cases h
    · split at h
      · next hs =>
        split at h
        · cases h; exact hs
        · cases h
      · cases h
    · split at h
      · next hs =>
        split at h
        · cases h; exact hs
        · cases h
      · cases h
    · cases h
  intro n
  induction n with
  | zero => intro S g h; exact h.elim
  | succ n ih =>
    intro S g h ls H locs hat
    rcases h with ⟨S', hn, h⟩ | ⟨L', hle, h⟩ | ⟨ix, kd, y, k, ci, v, h1, g1, hsi, hk, hw8, hc, h⟩ | ⟨ix, kd, y, k, ci, E, h1, g1, hsi, hk, hw8, hc, rfl, rfl, rfl⟩ | ⟨v, hv, rfl, rfl, rfl⟩ | ⟨E, hE, rfl, rfl, rfl⟩
    · exact am_n_ok hx hb hown hts hF hK t0 t1 t2 t3 hins hci hcl hat hn (fun ls' H1 locs1 hat1 => ih S' g h ls' H1 locs1 hat1)
    · obtain ⟨hL, hP, hD, hS⟩ := hat
      exact ih (S.1, L', S.2.2) g h ls H locs ⟨am_has_le hL hle, hP, hD, hS⟩
    · have hle := am_E_le n _ _ h
      obtain ⟨hM, hD1⟩ := hCr _ _ _ _ _ _ hc
      obtain ⟨r1, r2⟩ := hrm _ _ _ _ _ (hsi0 hsi)
      refine am_call_ok (o1 := .inl v) hx hb hml hown hts hgd htn hK hins hSw hXb (fun U _ hW hF => hX U hW hF) hat hsi hk hw8 hM rfl rfl r1 r2 (by omega) (by omega) hD1 (fun w hw H1 locs1 hat1 => ?_) (fun E hE => by cases hE)
      cases hw
      have h9 := ih _ _ h ls H1 locs1 hat1
      rw [Nat.mul_add] at h9
      exact h9
    · obtain ⟨hM, hD1⟩ := hCr _ _ _ _ _ _ hc
      obtain ⟨r1, r2⟩ := hrm _ _ _ _ _ (hsi0 hsi)
      refine am_call_ok (o1 := .inr E) hx hb hml hown hts hgd htn hK hins hSw hXb (fun U _ hW hF => hX U hW hF) hat hsi hk hw8 hM rfl rfl r1 r2 (by omega) (by omega) hD1 (fun w hw => by cases hw) (fun E' hE q ce H1 locs1 hP1 hS1 a1 a2 a3 => ?_)
      cases hE
      have h9 := hout E q ce S.1 ls ((S.2.2.1.drop k).map (am_v ad)) H1 locs1 rfl hP1 hS1 a1 a2 a3
      rw [Nat.mul_add] at h9
      exact h9
    · exact hret S v ls H locs hv rfl rfl hat
    · exact hthr S E g ls H locs hE rfl rfl rfl hat
end AMW
end
section
/-! A method's promise out of its way by the abstract machine. -/
def am_ent : List Value → List (Option Value)
  | [] => []
  | v :: vs => if v.category = 2 then some v :: none :: am_ent vs else some v :: am_ent vs
def am_entry (As : List Value) (nL : Nat) : List (Option Value) := am_ent As ++ List.replicate (nL - (am_ent As).length) none
theorem am_ent_mem {ad : Nat → Nat} {w : Value} : ∀ (As : List Value) (j i : Nat), (am_ent As)[i]? = some (some w) → (j + i, am_v ad w) ∈ lv_args j (As.map (am_v ad)) := by
  intro As
  induction As with
  | nil => intro j i h; simp [am_ent] at h
  | cons v vs ih =>
    intro j i h
    simp only [List.map_cons, lv_args, am_cat]
    unfold am_ent at h
    split at h
    · next hc =>
      match i, h with
      | 0, h => simp at h; subst h; simp
      | 1, h => simp at h
      | i + 2, h =>
        simp only [List.getElem?_cons_succ] at h
        rw [if_pos hc]
        have := ih (j + 2) i h
        rw [show j + 2 + i = j + (i + 2) by omega] at this
        exact List.mem_cons_of_mem _ this
    · next hc =>
      match i, h with
      | 0, h => simp at h; subst h; simp
      | i + 1, h =>
        simp only [List.getElem?_cons_succ] at h
        rw [if_neg hc]
        have := ih (j + 1) i h
        rw [show j + 1 + i = j + (i + 1) by omega] at this
        exact List.mem_cons_of_mem _ this
theorem am_ent_len {ad : Nat → Nat} : ∀ As : List Value, (lg_sl (As.map (am_v ad))).length = (am_ent As).length := by
  intro As
  induction As with
  | nil => rfl
  | cons v vs ih =>
    cases v <;> simp_all [lg_sl, am_ent, am_v, Value.category]
theorem am_has_entry {ad : Nat → Nat} {ls : Array Slot} {nL : Nat} {As : List Value} (hn : (am_ent As).length ≤ nL) (h : lv_has ls nL (lv_args 0 (As.map (am_v ad)))) : am_has ad ls nL (am_entry As nL) := by
  refine ⟨h.1, h.2.1, by simp [am_entry]; omega, fun i w hw => ?_⟩
  unfold am_entry at hw
  by_cases hi : i < (am_ent As).length
  · rw [List.getElem?_append_left hi] at hw
    have h1 := h.2.2 _ (am_ent_mem (ad := ad) As 0 i hw)
    simpa using h1
  · rw [List.getElem?_append_right (by omega), List.getElem?_replicate] at hw
    split at hw <;> cases hw
/-- what is carried from call to call beside the cells -/
def am_XX (A : Nat → Prop) (Tn : List Cond) (XX : State → Prop) : Prop :=
  (∀ U g mk a, XX U → XX (U.calling g mk a)) ∧ (∀ U V : State, XX U → U.WarmedH V.vm → va_F A U V → XX V) ∧ ∀ U, XX U → ∀ w ∈ Tn, ∀ a, w.before a U = true
section AMM
variable {l : Launch} {ad : Nat → Nat} {ca : Nat → ClassId} {D : va_G} {cl : List vw_C} {A : Nat → Prop} {tys : List (ClassId × FieldType)} {Ts Tn : List Cond} {XX : State → Prop} {mt : am_mt} {fr lo : Nat → Nat}
/-- a method's own tables are right -/
def am_ok (Ts Tn : List Cond) (cl : List vw_C) (mt : am_mt) (fr lo : Nat → Nat) (x : Nat) (ins : Nat → Option (Instr × Nat)) (fld : Nat → Option (Nat × Nat × Nat)) (cst : Nat → Option Value) (site : Nat → Option (Nat × Nat × Nat × Nat)) : Prop :=
  plainName (mt x).1.cls = true ∧ (∀ meth : Method, meth.name = (mt x).1.name → am_Fw meth (mt x).1.cls Ts cl fld) ∧ (∀ pc i n, ins pc = some (i, n) → decode (mt x).2.1 pc = .ok (i, n)) ∧ (∀ ix v, cst ix = some (.int v) → Cond.constant (mt x).1.cls ix v ∈ Ts) ∧ (∀ ix v, cst ix = some (.long v) → Cond.constantLong (mt x).1.cls ix v ∈ Ts) ∧
  am_Sw (mt x).1.cls Ts Tn cl mt site ∧ ∀ ix kd y k ci, site ix = some (kd, y, k, ci) → fr y + 1 ≤ fr x ∧ 8 + ((mt y).2.2.1 + 11) + lo y ≤ lo x
set_option maxHeartbeats 4000000 in
/-- a method that throws nothing itself -/
theorem am_meets {x : Nat} {ins : Nat → Option (Instr × Nat)} {fld : Nat → Option (Nat × Nat × Nat)} {cst : Nat → Option Value} {site : Nat → Option (Nat × Nat × Nat × Nat)} {Cr : Nat → List Value → List va_E → am_O → List va_E → Nat → Prop}
    (hok : am_ok Ts Tn cl mt fr lo x ins fld cst site) (hgd : ∀ w ∈ Ts, goodWord w = true) (t0 : tys[0]? = some (ca 0, .int)) (t1 : tys[1]? = some (ca 1, .boolean)) (t2 : tys[2]? = some (ca 2, .long)) (t3 : am_t3 tys ca) (hXX : am_XX A Tn XX)
    (hCr : ∀ y As h o1 h1 g1, Cr y As h o1 h1 g1 → ax_Met l (mt y).1 (am_wy Ts mt y) (am_rm fr lo y g1) (am_Pc D cl tys ad ca A XX As h) (am_Qx D cl ad ca A o1 h1) g1 (6 * g1) A ∧ va_D A (am_ws ad ca h1))
    {As : List Value} {h h' : List va_E} {o : am_O} {g' n : Nat} (hn : (am_ent As).length ≤ (mt x).2.2.1) (hE : am_E ins fld cst site (fun _ => none) (mt x).2.2.2 Cr n (0, am_entry As (mt x).2.2.1, [], h) 0 o h' g') :
    ax_Met l (mt x).1 (am_wy Ts mt x) (am_rm fr lo x g') (am_Pc D cl tys ad ca A XX As h) (am_Qx D cl ad ca A o h') g' (6 * g') A := by
  obtain ⟨k1, k2, k3, k4, k5, k6, k7⟩ := hok
  obtain ⟨x1, x2, x3⟩ := hXX
  refine ax_ofW (cc := (mt x).2.1) (maxL := (mt x).2.2.1) (ret := (mt x).2.2.2) k1 rfl ?_
  intro p e s m args below meth c s₁ B hml hnh hv
  obtain ⟨rfl, hP, hD, hK, hXs⟩ := hv
  have hts0 := atoms_spec (ws := am_wy Ts mt x) B.pre
  have hts : ∀ w ∈ Ts, w.before ((As.map (am_v ad)).toArray) s = true := fun w hw => hts0 w (List.mem_cons_of_mem _ hw)
  have hown : s.vm.findClass (mt x).1.cls = some m.cls := findClass_of_methodNamed B.named
  have hnm : meth.name = (mt x).1.name := (name_of_methodNamed B.named B.method).1
  have hl := lv_entry (As.map (am_v ad)) (n := (mt x).2.2.1) (by rw [am_ent_len]; exact hn)
  rw [lg_entry_eq]
  generalize (lg_sl (As.map (am_v ad)) ++ List.replicate ((mt x).2.2.1 - (lg_sl (As.map (am_v ad))).length) Slot.unset).toArray = ls at hl ⊢
  have hL := am_has_entry hn hl
  refine am_E_ok (Q := ax_E below (am_Qx D cl ad ca A o h') _ s g' (6 * g') A) (fr := fr) (lo := lo) B.exec B.bytes hml hown hts hgd (fun w hw => x3 s hXs w hw _) (k2 meth hnm) hK t0 t1 t2 t3 k3 k4 k5 k6 x1 (fun U hW hF => x2 s U hXs hW hF) hCr k7 (Nat.le_refl _) (Nat.le_refl _) ?_ ?_ ?_ n (0, am_entry As (mt x).2.2.1, [], h) 0 hE ls s.heap [] ⟨hL, hP, hD, va_S.rf⟩
  · intro S v ls H locs hv ho hh hat
    subst ho
    subst hh
    exact am_ret_ok B.exec B.bytes B.returns B.notSynchronized k3 hat (fun _ q => q) hv
  · intro S E g ls H locs hv
    unfold am_thr at hv
    split at hv <;> cases hv
  · intro E q ce pc ls st H locs ho hP1 hS1 a1 a2 a3
    subst ho
    exact ax_out hnh B.notSynchronized (fun t ht hW => ⟨⟨q, ce, rfl, by rw [ht]; exact a1, a2, a3⟩, by rw [ht]; exact hP1, hS1.F ht⟩) (fun z hz => hS1.2.2 z hz)
end AMM
end
section
/-! 'throw new E()' by the abstract machine (launches without stack traces). -/
section AMX
variable {p : Program} {l : Launch} {e : Env} {R : Room} {s : State} {m : MethodId} {args : Array Value} {below : List Frame} {meth : Method} {c : Code} {locs : List Loc} {cells slots : Nat}
/-- the same frame, seen from where it stands now -/
theorem ax_now {T : State} (X : Stand p l e R s m args below meth c T locs cells slots) {R' : Room} (r1 : R'.frames ≤ R.frames) (r2 : R'.locals ≤ R.locals) (r3 : cells + R'.cells ≤ R.cells) (r4 : slots + R'.slots ≤ R.slots) :
    Stand p l e R' ((T.setVm s.vm).setFrames (.invoking m args :: below)) m args below meth c T [] 0 0 := by
  have htop : (T.setVm s.vm).topJava?.isSome := X.here.top
  have hfr : ((T.setVm s.vm).setFrames (.invoking m args :: below)).frames = .invoking m args :: below := State.frames_setFrames _ (State.cur_lt_of_top htop)
  obtain ⟨g0, hg0⟩ := Option.isSome_iff_exists.mp htop
  obtain ⟨r, hr⟩ := State.topJava?_eq_some.mp hg0
  have hlim : e.platform.stackLimits (T.setVm s.vm).me = e.platform.stackLimits s.me := X.limits
  have hby : (T.setVm s.vm).me.stackBytes = s.me.stackBytes := X.bytes
  have hz := X.heapSize
  have hu := X.used
  have hroom : ((T.setVm s.vm).setFrames (.invoking m args :: below)).hasRoom e.platform R' = true := by
    have hin : ((T.setVm s.vm).setFrames (.invoking m args :: below)).localsInUse = s.localsInUse := by
      rw [State.localsInUse_invoking hfr (meth := meth) (c := c) X.method X.code, State.localsInUse_invoking X.frames X.method X.code]
    have h := X.room
    simp only [State.hasRoom, Bool.and_eq_true, decide_eq_true_eq] at h ⊢
    obtain ⟨⟨⟨⟨h1, h2, h3, h4, h5, h6⟩, h7⟩, h8⟩, h9⟩ := h
    rw [X.frames, List.length_cons] at h2 h3
    simp only [hfr, hin, List.length_cons, State.stackLimits_setFrames, State.stackBytes_setFrames, hlim, hby]
    exact ⟨⟨⟨⟨by omega, by omega, by omega, by omega, by omega, h6⟩, show T.heap.size + R'.cells ≤ e.platform.maxCells by omega⟩, show T.slotsUsed + R'.slots ≤ e.platform.maxSlots by omega⟩, X.book⟩
  have hd : T.heap.toList.drop T.heap.size = [] := by
    rw [← Array.length_toList]
    exact List.drop_length
  refine { admits := X.admits, cas := X.cas, clock := X.clock, frames := hfr, room := hroom, hears := X.hears, method := X.method, code := X.code, here := X.here, tail := X.tail, warmed := X.warmed, limits := by rw [State.stackLimits_setFrames]; rfl, bytes := by rw [State.stackBytes_setFrames]; rfl, same := ?_ }
  refine ⟨?_, Nat.le_refl _, Nat.le_refl _, ?_, ?_, fun a c9 h9 => ⟨c9, h9, rfl, rfl, fun _ _ => rfl⟩⟩
  · obtain ⟨t, ht, -⟩ := State.frames_cons hr
    show T.setVm s.vm = { ((T.setVm s.vm).setFrames (.invoking m args :: below)).setFrames (T.setVm s.vm).frames with heap := T.heap, slotsUsed := T.slotsUsed }
    rw [State.setFrames_setFrames, State.setFrames_self ht]
    rfl
  · show T.slotsUsed = T.slotsUsed + ((T.heap.toList.drop T.heap.size).map (·.slots.size)).sum
    rw [hd]
    simp
  · show ((T.heap.toList.drop T.heap.size).map (·.slots.size)).sum ≤ 0
    rw [hd]
    simp
theorem ax_kept {s U : State} {k n : Nat} (h : s.sameButNew ({ U with vm := s.vm } : State) [] k n) : ∀ q : Nat, q < s.heap.size → U.heap[q]? = s.heap[q]? := by
  intro q hq
  obtain ⟨-, -, -, -, -, hc⟩ := h
  have h1 : s.heap[q]? = some s.heap[q] := Array.getElem?_eq_getElem hq
  obtain ⟨c', h2, h3, h4, h5⟩ := hc q _ h1
  have h6 : c'.slots = (s.heap[q]).slots := Array.ext_getElem? fun i => h5 i (by simp)
  rw [h1, show U.heap[q]? = some c' from h2, h3, h6]
variable {cc : ByteArray} {ad : Nat → Nat} {ca : Nat → ClassId} {nL : Nat} {D : va_G} {cl : List vw_C} {A : Nat → Prop} {tys : List (ClassId × FieldType)} {Ts Tn : List Cond} {own : String} {XX : State → Prop}
variable {ins : Nat → Option (Instr × Nat)} {exc : Nat × Nat → Option String} {H : Heap}
/-- what the table of exceptions rests on; F, G: frames and words that the method has -/
def am_Xw (own : String) (Ts Tn : List Cond) (F G : Nat) (exc : Nat × Nat → Option String) : Prop :=
  ∀ ik ic E, exc (ik, ic) = some E → ∃ names : List String, Bundle.fit E = true ∧ (∀ n ∈ names, Bundle.fit n = true) ∧ Cond.classLink own ik E ∈ Ts ∧ Cond.initialized E ∈ Ts ∧ Cond.instantiable E 6 ∈ Ts ∧ (∀ a ∈ Bundle.ownAtoms0 own ic E names, a ∈ Ts ∨ a ∈ Tn) ∧ names.length + 3 < F ∧ 8 + (13 * (names.length + 1) + 42) ≤ G
set_option maxHeartbeats 4000000 in
theorem am_thr_ok (hx : p.tables.exec = Jvm.exec) (hb : c.code = cc) (hml : c.maxLocals = nL) (htr : l.stackTraces = false) (hnh : c.exceptionTable.isEmpty = true) (hlocks : meth.locks = false) (hown : s.vm.findClass own = some m.cls) (hts : ∀ w ∈ Ts, w.before args s = true) (hgd : ∀ w ∈ Ts, goodWord w = true) (hins : ∀ pc i n, ins pc = some (i, n) → decode cc pc = .ok (i, n))
    (hX : ∀ U : State, s.WarmedH U.vm → va_F A s U → XX U) (hXn : ∀ U, XX U → ∀ w ∈ Tn, ∀ a, w.before a U = true) (hXw : am_Xw own Ts Tn R.frames R.locals exc) {S : am_S} {E : String} {ls : Array Slot} (hat : am_at ad ca D cl A s.heap nL S ls H locs) (hE : am_thr ins exc S = some E) (hcells : cells + 1 ≤ R.cells) (hslots : slots + 6 ≤ R.slots) :
    W p l e R s m args below meth c H locs cells slots (ax_E below (am_Qx D cl ad ca A (.inr E) S.2.2.2) args s (cells + 1) (slots + 6) A) (F0 m S.1 ls (S.2.2.1.map (am_v ad))) := by
  obtain ⟨hL, hP, hD, hS⟩ := hat
  unfold am_thr at hE
  split at hE
  · next ik ic i0 i3 i4 i7 hst =>
    have hw8 : (S.2.2.1.map fun v => v.category).sum ≤ 8 := by rw [hst]; exact Nat.zero_le _
    obtain ⟨names, f1, f2, f3, f4, f5, f6, f7, f8⟩ := hXw _ _ _ hE
    intro T hT X
    have htr' : e.platform.stackTraces = false := (show e.platform.stackTraces = l.stackTraces by rw [X.admits.platform]).trans htr
    have Y := ax_now X (R' := { frames := R.frames, locals := R.locals, cells := 1, slots := 6 }) (Nat.le_refl _) (Nat.le_refl _) hcells hslots
    obtain ⟨s', hs'⟩ : ∃ z, z = (T.setVm s.vm).setFrames (.invoking m args :: below) := ⟨_, rfl⟩
    rw [← hs'] at Y
    have hvm : s'.vm = s.vm := by rw [hs']; rfl
    have hhp : s'.heap = T.heap := by rw [hs']; rfl
    have hW0 : s.WarmedH s'.vm := by rw [hvm]; exact State.WarmedH.refl s
    have hXs : XX s' := hX s' hW0 (hS.F (by rw [hhp, hT]))
    have hw : ∀ w ∈ Ts, w.before args s' = true := fun w h => word_at hW0 (good_of_word (hgd w h)) (hts w h)
    have hown' : s'.vm.findClass own = some m.cls := by rw [hvm]; exact hown
    obtain ⟨vm1, cX, kX, hfX, hkX, -, -, X1, st1⟩ := Y.newCold hx hown' (hw _ f3) (hw _ f5) (hw _ f4) (g := F0 m S.1 ls (S.2.2.1.map (am_v ad))) rfl (by rw [hb]; exact hins _ _ _ i0) (Nat.le_refl _) (Nat.le_refl _)
    generalize hT1 : (T.setVm vm1).pushCell { cls := cX, slots := kX.instanceTypes.map defaultValue, vm := .none } = T1 at X1 st1
    have hcellA : T1.heap[T.heap.size]? = some (freshCell cX kX) := by rw [← hT1]; exact State.heap_pushCell_size _ _
    have hsz : ls.size = c.maxLocals := hL.1.trans hml.symm
    have d3 : decode c.code (S.1 + 3) = .ok (.dup, 1) := by rw [hb]; exact hins _ _ _ i3
    have hout : ∀ x ∈ c.exceptionTable.toList, covers x (S.1 + 4 + 3) = false := fun x hx => by
      have h0 : c.exceptionTable = #[] := by simpa using hnh
      rw [h0] at hx
      simp at hx
    have hw8' : ((S.2.2.1.map (am_v ad)).map fun v => v.category).sum ≤ 8 := by
      rw [List.map_map]
      have e1 : ((fun v => v.category) ∘ am_v ad) = fun v : Value => v.category := funext fun v => am_cat ad v
      rw [e1]
      exact hw8
    have hcat : (Value.ref T.heap.size).category = 1 := rfl
    obtain ⟨U, stU, hrun, hend, hWU, hsm, ce, hce, hoc⟩ := X1.ctorThrow0 hx htr' hown' f1 f2 (fun a ha => (f6 a ha).elim (fun h => hw a h) (fun h => hXn s' hXs a h args)) (fun x hx => nomatch hx) hfX hkX hcellA (by rw [hhp]; exact Nat.le_refl _)
      (g := { method := m, pc := S.1 + 4, locals := ls, stack := .ref T.heap.size :: .ref T.heap.size :: S.2.2.1.map (am_v ad), locked := none }) rfl hsz rfl rfl (rest := S.2.2.1.map (am_v ad)) rfl (by rw [hb]; exact hins _ _ _ i4) (by rw [hb]; exact hins _ _ _ i7) hout f7
      (by simp only [List.map_cons, List.sum_cons, hcat]; show 2 * 0 + (1 + _) + _ ≤ R.locals; omega) hlocks
    have hke := ax_kept hsm
    rw [hhp, hT] at hke
    have h2 : (T.setVm s.vm).sameButNew ({ U with vm := s.vm } : State) [] 1 6 := by
      rw [hs'] at hsm
      obtain ⟨e1, e2⟩ := hsm
      rw [State.setFrames_setFrames] at e1
      exact ⟨e1, e2⟩
    have h3 := X.same.trans h2
    rw [List.append_nil] at h3
    have hWs : s.WarmedH U.vm := State.WarmedH.trans hW0 hWU
    have hUle : H.size ≤ U.heap.size := by
      have := h2.2.1
      rw [← hT]
      exact this
    refine ⟨U, st1 _ ?_, .threw T.heap.size, hrun, hend, ⟨⟨T.heap.size, ce, rfl, hce, ?_, ?_⟩, hP.kept (fun k x hx => hke x.1 ((hP k x hx).lt)), Nat.le_trans hS.1 hUle, fun q q1 q2 => (hke q (Nat.lt_of_lt_of_le q1 hS.1)).trans (hS.2.1 q q1 q2)⟩, hWs, locs, h3, fun z hz => hS.2.2 z hz⟩
    · show Steps p.tables e below (T1.setTop { method := m, pc := S.1 + 3, locals := ls, stack := .ref T.heap.size :: S.2.2.1.map (am_v ad), locked := none }) _
      jvm_step X1.here [X1.here.top, hx, d3, Value.category]
      exact stU
    · exact hoc.vm
    · rw [← hvm]; exact hoc.cls
  · cases hE
end AMX
section AMY
variable {l : Launch} {ad : Nat → Nat} {ca : Nat → ClassId} {D : va_G} {cl : List vw_C} {A : Nat → Prop} {tys : List (ClassId × FieldType)} {Ts Tn : List Cond} {XX : State → Prop} {mt : am_mt} {fr lo : Nat → Nat}
set_option maxHeartbeats 4000000 in
/-- a method that may throw -/
theorem am_meetsX {x : Nat} {ins : Nat → Option (Instr × Nat)} {fld : Nat → Option (Nat × Nat × Nat)} {cst : Nat → Option Value} {site : Nat → Option (Nat × Nat × Nat × Nat)} {exc : Nat × Nat → Option String} {Cr : Nat → List Value → List va_E → am_O → List va_E → Nat → Prop}
    (hok : am_ok Ts Tn cl mt fr lo x ins fld cst site) (hXw : am_Xw (mt x).1.cls Ts Tn (fr x) (lo x) exc) (htr : l.stackTraces = false) (hgd : ∀ w ∈ Ts, goodWord w = true) (t0 : tys[0]? = some (ca 0, .int)) (t1 : tys[1]? = some (ca 1, .boolean)) (t2 : tys[2]? = some (ca 2, .long)) (t3 : am_t3 tys ca) (hXX : am_XX A Tn XX)
    (hCr : ∀ y As h o1 h1 g1, Cr y As h o1 h1 g1 → ax_Met l (mt y).1 (am_wy Ts mt y) (am_rm fr lo y g1) (am_Pc D cl tys ad ca A XX As h) (am_Qx D cl ad ca A o1 h1) g1 (6 * g1) A ∧ va_D A (am_ws ad ca h1))
    {As : List Value} {h h' : List va_E} {o : am_O} {g' n : Nat} (hn : (am_ent As).length ≤ (mt x).2.2.1) (hE : am_E ins fld cst site exc (mt x).2.2.2 Cr n (0, am_entry As (mt x).2.2.1, [], h) 0 o h' g') :
    ax_Met l (mt x).1 (am_wy Ts mt x) (am_rm fr lo x g') (am_Pc D cl tys ad ca A XX As h) (am_Qx D cl ad ca A o h') g' (6 * g') A := by
  obtain ⟨k1, k2, k3, k4, k5, k6, k7⟩ := hok
  obtain ⟨x1, x2, x3⟩ := hXX
  refine ax_ofW (cc := (mt x).2.1) (maxL := (mt x).2.2.1) (ret := (mt x).2.2.2) k1 rfl ?_
  intro p e s m args below meth c s₁ B hml hnh hv
  obtain ⟨rfl, hP, hD, hK, hXs⟩ := hv
  have hts0 := atoms_spec (ws := am_wy Ts mt x) B.pre
  have hts : ∀ w ∈ Ts, w.before ((As.map (am_v ad)).toArray) s = true := fun w hw => hts0 w (List.mem_cons_of_mem _ hw)
  have hown : s.vm.findClass (mt x).1.cls = some m.cls := findClass_of_methodNamed B.named
  have hnm : meth.name = (mt x).1.name := (name_of_methodNamed B.named B.method).1
  have hl := lv_entry (As.map (am_v ad)) (n := (mt x).2.2.1) (by rw [am_ent_len]; exact hn)
  rw [lg_entry_eq]
  generalize (lg_sl (As.map (am_v ad)) ++ List.replicate ((mt x).2.2.1 - (lg_sl (As.map (am_v ad))).length) Slot.unset).toArray = ls at hl ⊢
  have hL := am_has_entry hn hl
  refine am_E_ok (Q := ax_E below (am_Qx D cl ad ca A o h') _ s g' (6 * g') A) (fr := fr) (lo := lo) B.exec B.bytes hml hown hts hgd (fun w hw => x3 s hXs w hw _) (k2 meth hnm) hK t0 t1 t2 t3 k3 k4 k5 k6 x1 (fun U hW hF => x2 s U hXs hW hF) hCr k7 (Nat.le_refl _) (Nat.le_refl _) ?_ ?_ ?_ n (0, am_entry As (mt x).2.2.1, [], h) 0 hE ls s.heap [] ⟨hL, hP, hD, va_S.rf⟩
  · intro S v ls H locs hv ho hh hat
    subst ho
    subst hh
    exact am_ret_ok B.exec B.bytes B.returns B.notSynchronized k3 hat (fun _ q => q) hv
  · intro S E g ls H locs hv ho hh hg hat
    subst ho
    subst hh
    subst hg
    have h9 := am_thr_ok (R := am_rm fr lo x (g + 1)) (cells := g) (slots := 6 * g) (p := p) (l := l) (e := e) (below := below) B.exec B.bytes hml htr hnh B.notSynchronized hown hts hgd k3 (fun U hW hF => x2 s U hXs hW hF) x3 hXw hat hv (Nat.le_refl _) (by show 6 * g + 6 ≤ 6 * (g + 1); omega)
    rw [show 6 * (g + 1) = 6 * g + 6 by omega]
    exact h9
  · intro E q ce pc ls st H locs ho hP1 hS1 a1 a2 a3
    subst ho
    exact ax_out hnh B.notSynchronized (fun t ht hW => ⟨⟨q, ce, rfl, by rw [ht]; exact a1, a2, a3⟩, by rw [ht]; exact hP1, hS1.F ht⟩) (fun z hz => hS1.2.2 z hz)
end AMY
end
section
/-! new int[n][k]: one instruction makes the outer row and n rows of ints behind it. -/
/-- the outer row, when i rows are in it -/
def mz_o (cA : ClassId) (N a i : Nat) : Cell := arrV cA N (fun j => va_rf (if j < i then some (a + 1 + j) else none))
def mz_i (cI : ClassId) (K : Nat) : Cell := arrV cI K (fun _ => .int 0)
def mz_S (S : State) (cA cI : ClassId) (N K : Nat) : Nat → State
  | 0 => S.pushCell (mz_o cA N S.heap.size 0)
  | i + 1 => ((mz_S S cA cI N K i).pushCell (mz_i cI K)).setCell S.heap.size (mz_o cA N S.heap.size (i + 1))
theorem mz_o_set (cA : ClassId) (N a i : Nat) : (mz_o cA N a i).setSlot i (.ref (a + 1 + i)) = mz_o cA N a (i + 1) := by
  unfold mz_o
  rw [arrV_store]
  refine congrArg (arrV cA N) (funext fun j => ?_)
  unfold updV
  by_cases h : j = i
  · subst h
    simp [va_rf]
  · by_cases h2 : j < i
    · have h3 : j < i + 1 := by omega
      simp [h, h2, h3]
    · have h3 : ¬ j < i + 1 := by omega
      simp [h, h2, h3]
theorem mz_facts (S : State) (cA cI : ClassId) (N K : Nat) : ∀ i, (mz_S S cA cI N K i).heap.size = S.heap.size + 1 + i ∧ (mz_S S cA cI N K i).heap[S.heap.size]? = some (mz_o cA N S.heap.size i) ∧ (mz_S S cA cI N K i).vm = S.vm ∧ (mz_S S cA cI N K i).slotsUsed = S.slotsUsed + N + i * K ∧
    (∀ q, q < S.heap.size → (mz_S S cA cI N K i).heap[q]? = S.heap[q]?) ∧ (∀ j, j < i → (mz_S S cA cI N K i).heap[S.heap.size + 1 + j]? = some (mz_i cI K)) := by
  intro i
  induction i with
  | zero =>
    refine ⟨by simp [mz_S], by simp [mz_S], rfl, ?_, fun q hq => State.heap_pushCell_of_lt _ _ hq, fun j hj => absurd hj (Nat.not_lt_zero j)⟩
    simp [mz_S, mz_o, arrV_size]
  | succ i ih =>
    obtain ⟨f1, f2, f3, f4, f5, f6⟩ := ih
    have hlt : S.heap.size < (mz_S S cA cI N K i).heap.size := by omega
    have hb : ((mz_S S cA cI N K i).pushCell (mz_i cI K)).heap[S.heap.size]? = some (mz_o cA N S.heap.size i) := by rw [State.heap_pushCell_of_lt (h := hlt)]; exact f2
    refine ⟨?_, State.heap_setCell_self hb, by simp [mz_S, f3], ?_, fun q hq => ?_, fun j hj => ?_⟩
    · simp [mz_S, State.setCell, f1]; omega
    · simp [mz_S, f4, mz_i, arrV_size, Nat.succ_mul]; omega
    · show (((mz_S S cA cI N K i).pushCell (mz_i cI K)).setCell S.heap.size _).heap[q]? = _
      have hq2 : q < (mz_S S cA cI N K i).heap.size := by omega
      rw [State.heap_setCell_other (Nat.ne_of_gt hq), State.heap_pushCell_of_lt (h := hq2)]
      exact f5 q hq
    · show (((mz_S S cA cI N K i).pushCell (mz_i cI K)).setCell S.heap.size _).heap[S.heap.size + 1 + j]? = _
      rw [State.heap_setCell_other (show S.heap.size ≠ S.heap.size + 1 + j by omega)]
      by_cases hj2 : j < i
      · have hj3 : S.heap.size + 1 + j < (mz_S S cA cI N K i).heap.size := by omega
        rw [State.heap_pushCell_of_lt (h := hj3)]
        exact f6 j hj2
      · have e : j = i := by omega
        subst e
        rw [← f1]
        exact State.heap_pushCell_size _ _
theorem mz_top (S : State) (f : JFrame) (cA cI : ClassId) (N K : Nat) : ∀ i, mz_S (S.setTop f) cA cI N K i = (mz_S S cA cI N K i).setTop f := by
  intro i
  induction i with
  | zero => rfl
  | succ i ih => simp only [mz_S, ih, State.heap_setTop, State.pushCell_setTop, State.setCell_setTop]
section MZW
variable {E : CtlPost} {e : Env} {d : Bool} {acts : List Action} {S : State}
/-- a new array, by the machine's own maker -/
theorem mz_new {c comp : ClassId} {k : Class} {ty : FieldType} {len : Nat} {init : Value} (hk : S.vm.classes[c]? = some k) (hkind : k.kind = .array comp ty) (hlim : ¬ len > e.platform.arrayLengthLimit) (hhp : ¬ len * componentBytes ty > e.platform.maxHeapBytes) (hfit : fits ty init = true) (hdef : init.isDefault = true)
    (h1 : S.heap.size < e.platform.maxCells) (h2 : S.slotsUsed + len ≤ e.platform.maxSlots) {Q : Addr → Pre} (hq : Q S.heap.size d acts (S.pushCell (arrV c len (fun _ => init)))) : wp (Jvm.newArray c len init) Q E e d acts S := by
  have hacts : allocActs (Array.replicate len init) S.heap.size acts = acts := by
    have hall : ((Array.replicate len init).all (·.isDefault)) = true := by
      rw [Array.all_replicate]
      split <;> simp [hdef]
    unfold allocActs
    rw [if_pos hall]
  simp only [Jvm.newArray, Jvm.arrayFits, wp_bind', W.ask, W.ite, hlim, if_false, wp_pure', W.theClass, hk, hkind, hhp, W.alloc, W.stop, Option.some.injEq, exists_eq_left', Array.size_replicate, hacts]
  rw [if_neg (by omega), arrV_new]
  refine ⟨h1, h2, fun i v hv => ?_, hq⟩
  rw [Array.getElem?_replicate] at hv
  split at hv
  · cases hv
    simp [State.fitsSlot, State.slotType?, hk, hkind, hfit]
  · cases hv
theorem mz_make {cA cI cc : ClassId} {kA kI : Class} {n k : Int32} (hA : S.vm.classes[cA]? = some kA) (hkA : kA.kind = .array cI (.array .int)) (hI : S.vm.classes[cI]? = some kI) (hkI : kI.kind = .array cc .int) (hn : ¬ n < 0) (hk : ¬ k < 0) (l1 : ¬ n.toNatClampNeg > e.platform.arrayLengthLimit) (l2 : ¬ n.toNatClampNeg * componentBytes (.array .int) > e.platform.maxHeapBytes) (l3 : ¬ k.toNatClampNeg > e.platform.arrayLengthLimit) (l4 : ¬ k.toNatClampNeg * componentBytes .int > e.platform.maxHeapBytes)
    (r1 : S.heap.size + 1 + n.toNatClampNeg ≤ e.platform.maxCells) (r2 : S.slotsUsed + n.toNatClampNeg + n.toNatClampNeg * k.toNatClampNeg ≤ e.platform.maxSlots) {Q : Addr → Pre} (hq : ∀ d' acts', Q S.heap.size d' acts' (mz_S S cA cI n.toNatClampNeg k.toNatClampNeg n.toNatClampNeg)) :
    wp (multianewarray.make cA [n, k]) Q E e d acts S := by
  generalize hN : n.toNatClampNeg = N at *
  generalize hKk : k.toNatClampNeg = K at *
  have hneg : ([k].find? (· < 0)) = none := by simp [hk]
  rw [multianewarray.make]
  simp only [wp_bind', W.ite, hn, if_false, wp_pure', W.theClass, hA, hkA, Option.some.injEq, exists_eq_left', hN]
  refine mz_new hA hkA l1 l2 rfl rfl (by omega) (by have := Nat.zero_le (N * K); omega) ?_
  simp only [hneg]
  rw [ite_self, wp_bind', Std.Legacy.Range.forIn_eq_forIn_range']
  have hsz : ([:N] : Std.Legacy.Range).size = N := by simp [Std.Legacy.Range.size]
  rw [hsz]
  show wp (forIn (List.range' 0 N 1) PUnit.unit _) _ E e d acts _
  have e0 : S.pushCell (arrV cA N (fun _ => .null)) = mz_S S cA cI N K 0 := by
    show _ = S.pushCell (mz_o cA N S.heap.size 0)
    unfold mz_o
    simp [va_rf]
  rw [e0]
  refine wp_forIn_inv (fun rest s' => ∃ i, i ≤ N ∧ rest = List.range' i (N - i) ∧ s' = mz_S S cA cI N K i) _ _ ⟨0, Nat.zero_le _, rfl, rfl⟩ ?_ ?_
  · rintro x rest s' d' acts' Q' ⟨i, hi, hl, rfl⟩ hnext
    have hlt : i < N := by
      rcases Nat.lt_or_ge i N with h | h
      · exact h
      · rw [show N - i = 0 by omega] at hl
        simp at hl
    rw [show N - i = (N - (i + 1)) + 1 by omega, List.range'_succ] at hl
    obtain ⟨hl1, hl2⟩ := List.cons.inj hl
    subst hl1
    obtain ⟨f1, f2, f3, f4, -, -⟩ := mz_facts S cA cI N K x
    have hmul : x * K + K ≤ N * K := by
      have := Nat.mul_le_mul_right K (show x + 1 ≤ N from hlt)
      rw [Nat.succ_mul] at this
      exact this
    rw [multianewarray.make]
    simp only [wp_bind', W.ite, hk, if_false, wp_pure', W.theClass, f3, hI, hkI, Option.some.injEq, exists_eq_left', hKk]
    refine mz_new (by rw [f3]; exact hI) hkI l3 l4 rfl rfl (by omega) (by omega) ?_
    have hlt0 : S.heap.size < (mz_S S cA cI N K x).heap.size := by omega
    simp only [wp_bind', W.writeLoc, wp_pure']
    refine ⟨mz_o cA N S.heap.size x, by rw [State.heap_pushCell_of_lt (h := hlt0)]; exact f2, by simp [mz_o, arrV], by rw [show (mz_o cA N S.heap.size x).slots.size = N from arrV_size _ _ _]; exact hlt, ?_, hnext _ _ _ ⟨x + 1, hlt, hl2, ?_⟩⟩
    · show State.fitsSlot _ cA .none x (.ref _) = true
      simp [State.fitsSlot, State.slotType?, f3, hA, hkA, fits]
    · rw [f1, mz_o_set]
      rfl
  · rintro s' d' acts' ⟨i, hi, hl, rfl⟩
    have hiN : i = N := by
      rcases Nat.lt_or_ge i N with h | h
      · rw [show N - i = (N - (i + 1)) + 1 by omega, List.range'_succ] at hl
        cases hl
      · omega
    subst hiN
    simp only [wp_pure']
    exact hq _ _
end MZW
section MZS
variable {p : Program} {l : Launch} {e : Env} {R : Room} {s : State} {m : MethodId} {args : Array Value} {below : List Frame} {meth : Method} {c : Code} {locs : List Loc} {cells slots : Nat}
theorem mz_stand {T : State} (X : Stand p l e R s m args below meth c T locs cells slots) (cA cI : ClassId) (N K : Nat) : ∀ i, Stand p l e R s m args below meth c (mz_S T cA cI N K i) (locs ++ (List.range i).map fun j => ⟨T.heap.size, j⟩) (cells + 1 + i) (slots + N + i * K) := by
  intro i
  induction i with
  | zero =>
    have h := X.pushed (mz_o cA N T.heap.size 0)
    rw [show (mz_o cA N T.heap.size 0).slots.size = N from arrV_size _ _ _] at h
    simpa [mz_S] using h
  | succ i ih =>
    obtain ⟨f1, f2, -, -, -, -⟩ := mz_facts T cA cI N K i
    have hlt : T.heap.size < (mz_S T cA cI N K i).heap.size := by omega
    have hcell : ((mz_S T cA cI N K i).pushCell (mz_i cI K)).heap[T.heap.size]? = some (mz_o cA N T.heap.size i) := by rw [State.heap_pushCell_of_lt (h := hlt)]; exact f2
    have h := (ih.pushed (mz_i cI K)).stored hcell i (.ref (T.heap.size + 1 + i))
    rw [show (mz_i cI K).slots.size = K from arrV_size _ _ _, mz_o_set] at h
    have e2 : (locs ++ (List.range (i + 1)).map fun j => (⟨T.heap.size, j⟩ : Loc)) = (locs ++ (List.range i).map fun j => (⟨T.heap.size, j⟩ : Loc)) ++ [⟨T.heap.size, i⟩] := by simp [List.range_succ, List.append_assoc]
    have e3 : slots + N + (i + 1) * K = slots + N + i * K + K := by rw [Nat.succ_mul]; omega
    rw [e2, e3]
    exact h
variable {cc : ByteArray} {own : String} {H : Heap} {Q : State → Prop} {pc : Nat} {ls : Array Slot} {rest : List Value}
set_option maxHeartbeats 4000000 in
theorem am_mz (hx : p.tables.exec = Jvm.exec) (hb : c.code = cc) (hown : s.vm.findClass own = some m.cls) {ix : Nat} (hlink : (Cond.classLink own ix ("[" ++ (FieldType.array .int).toString)).before args s = true) (hao : (Cond.arrayOver (.array .int)).before args s = true) (hac : (Cond.arrayClass .int).before args s = true) {n k : Int32} (hdg : decode cc pc = .ok (.multianewarray ix 2, 4)) (hn : ¬ n < 0) (hk : ¬ k < 0) (b1 : n.toNatClampNeg * 4 ≤ 536870912) (b2 : k.toNatClampNeg * 4 ≤ 536870912)
    (hcells : cells + (1 + n.toNatClampNeg) ≤ R.cells) (hslots : slots + (n.toNatClampNeg + n.toNatClampNeg * k.toNatClampNeg) ≤ R.slots)
    (kk : ∀ (H1 : Heap) (cA cI : ClassId), s.vm.findClass ("[" ++ (FieldType.array .int).toString) = some cA → s.vm.findClass ("[" ++ FieldType.int.toString) = some cI → H1.size = H.size + 1 + n.toNatClampNeg → H1[H.size]? = some (mz_o cA n.toNatClampNeg H.size n.toNatClampNeg) → (∀ j, j < n.toNatClampNeg → H1[H.size + 1 + j]? = some (mz_i cI k.toNatClampNeg)) → (∀ q, q < H.size → H1[q]? = H[q]?) →
      W p l e R s m args below meth c H1 locs (cells + (1 + n.toNatClampNeg)) (slots + (n.toNatClampNeg + n.toNatClampNeg * k.toNatClampNeg)) Q (F0 m (pc + 4) ls (.ref H.size :: rest))) : W p l e R s m args below meth c H locs cells slots Q (F0 m pc ls (.int k :: .int n :: rest)) := by
  intro T hT X
  have hpl : e.platform.magicAccessors = ({} : Platform).magicAccessors := by rw [X.admits.platform]
  obtain ⟨cI, cA, kA, hcI, -, hkA, hkindA, hnA⟩ := arrayOverA_spec hao
  obtain ⟨cI', kI, cc', hcI', hkI, hkindI⟩ := Cond.arrayClass_spec hac
  have ecI : cI' = cI := Option.some.inj (hcI'.symm.trans hcI)
  subst ecI
  obtain ⟨c0, hfc0, hcl⟩ := Cond.classLink_spec hown hlink e.platform hpl
  cases hnA.symm.trans hfc0
  obtain ⟨hg1, hwarm, hready⟩ := State.classEntry (e := e) X.warmed hcl
  generalize T.vm.noted m.cls ix (.cls cA) = vm1 at hg1 hwarm hready
  have hal : s.vm.Alike vm1 := hwarm.alike
  obtain ⟨kA1, hkA1, heA⟩ := hal.2.2 _ _ hkA
  obtain ⟨kI1, hkI1, heI⟩ := hal.2.2 _ _ hkI
  have X1 := X.noted hwarm
  obtain ⟨hr1, hr2⟩ := X.roomAbove hcells hslots
  obtain ⟨f1, f2, -, -, f5, f6⟩ := mz_facts (T.setVm vm1) cA cI' n.toNatClampNeg k.toNatClampNeg n.toNatClampNeg
  have hTh : (T.setVm vm1).heap = H := hT
  rw [hTh] at f1 f2 f5 f6
  have XF := mz_stand X1 cA cI' n.toNatClampNeg k.toNatClampNeg n.toNatClampNeg
  have hle : s.heap.size ≤ H.size := by
    have := X.same.2.1
    rw [← hT]
    exact this
  have XG := Stand.forget XF (fun y hy => by
    obtain ⟨j, -, rfl⟩ := List.mem_map.mp hy
    show s.heap.size ≤ (T.setVm vm1).heap.size
    rw [hTh]
    exact hle)
  have e3 : cells + 1 + n.toNatClampNeg = cells + (1 + n.toNatClampNeg) := by omega
  have e4 : slots + n.toNatClampNeg + n.toNatClampNeg * k.toNatClampNeg = slots + (n.toNatClampNeg + n.toNatClampNeg * k.toNatClampNeg) := by omega
  rw [e3, e4] at XG
  obtain ⟨t, a1, b1'⟩ := kk _ cA cI' hnA hcI' f1 f2 f6 f5 _ rfl XG
  refine ⟨t, ?_, b1'⟩
  have l1 : ¬ n.toNatClampNeg > e.platform.arrayLengthLimit := by rw [Launch.admits_arrayLengthLimit X.admits]; omega
  have l2 : ¬ n.toNatClampNeg * componentBytes (.array .int) > e.platform.maxHeapBytes := by
    rw [Launch.admits_maxHeapBytes X.admits]
    show ¬ n.toNatClampNeg * 4 > 536870912
    omega
  have l3 : ¬ k.toNatClampNeg > e.platform.arrayLengthLimit := by rw [Launch.admits_arrayLengthLimit X.admits]; omega
  have l4 : ¬ k.toNatClampNeg * componentBytes .int > e.platform.maxHeapBytes := by
    rw [Launch.admits_maxHeapBytes X.admits]
    show ¬ k.toNatClampNeg * 4 > 536870912
    omega
  have hdg' : decode c.code pc = .ok (.multianewarray ix 2, 4) := by rw [hb]; exact hdg
  jvm_step X.here [hx, hdg']
  simp only [multianewarray.sem, wp_bind', W.resolveClassAt_links (State.method?_setTop (F0 m pc ls (.int k :: .int n :: rest)) X.here.top) hg1]
  rw [W.popN, if_neg (by decide)]
  refine ⟨F0 m pc ls (.int k :: .int n :: rest), State.topJava?_setTop' (s := T.setVm vm1) _ X.here.top, [.int n, .int k], rest, rfl, rfl, ?_⟩
  simp only [List.mapM_cons, List.mapM_nil, wp_bind', wp_pure']
  refine mz_make (kA := kA1) (kI := kI1) hkA1 (by rw [heA]; exact hkindA) hkI1 (by rw [heI]; exact hkindI) hn hk l1 l2 l3 l4 (by show T.heap.size + 1 + _ ≤ _; omega) (by show T.slotsUsed + _ + _ ≤ _; omega) (fun d' acts' => ?_)
  have eS : ((T.setTop (F0 m pc ls (.int k :: .int n :: rest))).setVm vm1).setTop (F0 m pc ls rest) = (T.setVm vm1).setTop (F0 m pc ls rest) := by
    show ((T.setVm vm1).setTop (F0 m pc ls (.int k :: .int n :: rest))).setTop _ = _
    rw [State.setTop_setTop]
  rw [show ({ F0 m pc ls (.int k :: .int n :: rest) with stack := rest } : JFrame) = F0 m pc ls rest from rfl, eS, mz_top]
  simp only [wp_bind', W.mark, W.pushRef, State.topJava?_setTop' _ XF.here.top, Option.some.injEq, exists_eq_left', State.setTop_setTop, State.heap_setTop]
  intro acts
  simp [jvm, XF.here.top]
  rw [hT]
  exact a1
end MZS
end
section
/-! Making cells: the constructors' phase. The places lie one behind another from ad 0 on. -/
def am_cs (e : va_E) : Nat := match e with
  | .inl (_, n, _) => n
  | .inr (_, fs) => fs.length
def am_sz (h : List va_E) : Nat := (h.map am_cs).sum
theorem am_sz_push {h : List va_E} {x : va_E} : am_sz (h ++ [x]) = am_sz h + am_cs x := by simp [am_sz]
theorem am_sz_set {h : List va_E} {k : Nat} {x y : va_E} (hk : h[k]? = some x) (e : am_cs y = am_cs x) : am_sz (h.set k y) = am_sz h := by
  induction h generalizing k with
  | nil => rfl
  | cons a h ih =>
    cases k with
    | zero =>
      simp only [List.getElem?_cons_zero, Option.some.injEq] at hk
      subst hk
      simp [am_sz, e]
    | succ k =>
      simp only [List.getElem?_cons_succ] at hk
      have := ih hk
      simp only [am_sz, List.set_cons_succ, List.map_cons, List.sum_cons] at this ⊢
      omega
section AMA
variable {p : Program} {l : Launch} {e : Env} {R : Room} {s : State} {m : MethodId} {args : Array Value} {below : List Frame} {meth : Method} {c : Code} {H : Heap} {locs : List Loc} {cells slots : Nat} {Q : State → Prop}
variable {cc : ByteArray} {ad : Nat → Nat} {ca : Nat → ClassId} {nL : Nat} {D : va_G} {cl : List vw_C} {A : Nat → Prop} {tys : List (ClassId × FieldType)} {Ts : List Cond} {own : String}
/-- the heap ends where the places end -/
theorem am_end {g : JFrame} {h : List va_E} {b0 len0 : Nat} (had : ∀ k, k < 1000000 → ad k = b0 + k) (hs : s.heap.size = b0 + len0) (hc : cells + len0 = h.length) (hl : h.length ≤ 1000000) (hP : va_P D cl (am_ws ad ca h) H) (hS : va_S A s.heap H locs) (k : H.size = b0 + h.length → W p l e R s m args below meth c H locs cells slots Q g) : W p l e R s m args below meth c H locs cells slots Q g := by
  intro T hT X
  refine k ?_ T hT X
  have h1 := X.heapSize
  rw [hT, hs] at h1
  have h2 := hS.1
  rw [hs] at h2
  by_cases hz : h.length = len0
  · omega
  · have h3 : h.length - 1 < h.length := by omega
    have h4 : h[h.length - 1]? = some h[h.length - 1] := List.getElem?_eq_getElem h3
    have h5 : ad (h.length - 1) < H.size := (hP _ _ (am_ws_get h4)).lt
    rw [had _ (by omega)] at h5
    omega
/-- a cell more -/
theorem am_push {h : List va_E} {x : va_E} {H1 : Heap} (hP : va_P D cl (am_ws ad ca h) H) (hk : ∀ q, q < H.size → H1[q]? = H[q]?) (hx : va_at D cl (ad h.length, am_c ad ca x) H1) : va_P D cl (am_ws ad ca (h ++ [x])) H1 := by
  rw [← am_ws_push]
  refine (hP.kept (fun k q hq => hk q.1 ((hP k q hq).lt))).app (fun k q hq => ?_)
  have hz : k < 1 := (List.getElem?_eq_some_iff.mp hq).1
  rw [show k = 0 by omega] at hq
  cases hq
  exact hx
/-- cells more -/
theorem am_pushL {h G : List va_E} {H1 : Heap} (hP : va_P D cl (am_ws ad ca h) H) (hk : ∀ q, q < H.size → H1[q]? = H[q]?) (hx : ∀ j x, G[j]? = some x → va_at D cl (ad (h.length + j), am_c ad ca x) H1) : va_P D cl (am_ws ad ca (h ++ G)) H1 := by
  intro k q hq
  unfold am_ws at hq
  rw [List.getElem?_mapIdx] at hq
  by_cases hl : k < h.length
  · rw [List.getElem?_append_left hl] at hq
    cases hg : h[k]? with
    | none => rw [hg] at hq; cases hq
    | some x =>
      rw [hg] at hq
      cases hq
      have h1 := hP k _ (am_ws_get hg)
      exact h1.kept (hk _ h1.lt)
  · rw [List.getElem?_append_right (by omega)] at hq
    cases hg : G[k - h.length]? with
    | none => rw [hg] at hq; cases hq
    | some x =>
      rw [hg] at hq
      cases hq
      have h1 := hx _ _ hg
      rw [show h.length + (k - h.length) = k by omega] at h1
      exact h1
theorem am_sz_app {h G : List va_E} : am_sz (h ++ G) = am_sz h + am_sz G := by simp [am_sz]
theorem am_sz_rep {n K : Nat} {f : Nat → Int32} : am_sz (List.replicate n (.inl (0, K, .inl f))) = n * K := by
  induction n with
  | zero => simp [am_sz]
  | succ n ih =>
    simp only [am_sz, List.replicate_succ, List.map_cons, List.sum_cons, am_cs] at ih ⊢
    rw [ih, Nat.succ_mul]
    omega
theorem am_pushS {H1 : Heap} (hS : va_S A s.heap H locs) (hz : H.size ≤ H1.size) (hk : ∀ q, q < H.size → H1[q]? = H[q]?) : va_S A s.heap H1 locs :=
  ⟨Nat.le_trans hS.1 hz, fun q h1 h2 => (hk q (Nat.lt_of_lt_of_le h1 hS.1)).trans (hS.2.1 q h1 h2), hS.2.2⟩
/-- what the table of objects made rests on -/
def am_Nw (own : String) (Ts : List Cond) (cl : List vw_C) (knw : Nat → Option (Nat × List Value)) : Prop :=
  ∀ ix ci fs, knw ix = some (ci, fs) → ∃ (C : String) (T : u_T) (N : Nat) (ty : Nat → FieldType), cl[ci]? = some (C, T, N) ∧ (∀ w ∈ u_ws C T N, w ∈ Ts) ∧ (∀ j, j < N → parseFieldDescriptor (T j).2.2.1 = some (ty j)) ∧ Cond.classLink own ix C ∈ Ts ∧ Cond.instantiable C N ∈ Ts ∧ Cond.initialized C ∈ Ts ∧ fs.length = N ∧ (∀ j, j < N → defaultValue (ty j) = vp_V fs j) ∧ ∀ v ∈ fs, ∀ k, v ≠ .ref k
def am_al (knw : Nat → Option (Nat × List Value)) (anw mnw obj : Nat → Bool) (i : Instr) (n pc : Nat) (L : List (Option Value)) (st : List Value) (h : List va_E) : Option am_S := match i, n, st with
  | .new ix, 3, t => match knw ix with
    | some (ci, fs) => some (pc + 3, L, .ref h.length :: t, h ++ [.inr (ci, fs)])
    | none => none
  | .newarray .int, 2, .int x :: t => if ¬ x < 0 ∧ x.toNatClampNeg * 4 ≤ 536870912 then some (pc + 2, L, .ref h.length :: t, h ++ [.inl (0, x.toNatClampNeg, .inl (fun _ => 0))]) else none
  | .newarray .boolean, 2, .int x :: t => if ¬ x < 0 ∧ x.toNatClampNeg ≤ 536870912 then some (pc + 2, L, .ref h.length :: t, h ++ [.inl (1, x.toNatClampNeg, .inl (fun _ => 0))]) else none
  | .newarray .long, 2, .int x :: t => if ¬ x < 0 ∧ x.toNatClampNeg * 8 ≤ 536870912 then some (pc + 2, L, .ref h.length :: t, h ++ [.inl (2, x.toNatClampNeg, .inr (.inl (fun _ => 0)))]) else none
  | .anewarray ix, 3, .int x :: t => if anw ix = true ∧ ¬ x < 0 ∧ x.toNatClampNeg * 4 ≤ 536870912 then some (pc + 3, L, .ref h.length :: t, h ++ [.inl (3, x.toNatClampNeg, .inr (.inr (.inr (.inr (fun _ => none)))))]) else none
  | .multianewarray ix 2, 4, .int y :: .int x :: t => if mnw ix = true ∧ ¬ x < 0 ∧ ¬ y < 0 ∧ x.toNatClampNeg * 4 ≤ 536870912 ∧ y.toNatClampNeg * 4 ≤ 536870912 then some (pc + 4, L, .ref h.length :: t, h ++ (.inl (4, x.toNatClampNeg, .inr (.inr (.inr (.inr (fun i => if i < x.toNatClampNeg then some (h.length + 1 + i) else none))))) :: List.replicate x.toNatClampNeg (.inl (0, y.toNatClampNeg, .inl (fun _ => 0))))) else none
  | .aastore, 1, .ref v :: .int j :: .ref k :: t => match h[k]?, h[v]? with
    | some (.inl (3, n, .inr (.inr (.inr (.inr f))))), some (.inr (ci, _)) => if ¬ (j < 0 ∨ n ≤ j.toNatClampNeg) ∧ ci = 2 then some (pc + 1, L, t, h.set k (.inl (3, n, .inr (.inr (.inr (.inr (va_up f j.toNatClampNeg (some v)))))))) else none
    | _, _ => none
  | .invokespecial ix, 3, .ref _ :: t => if obj ix = true ∧ (t.map fun v => v.category).sum ≤ 8 then some (pc + 3, L, t, h) else none
  | _, _, _ => none
set_option maxHeartbeats 4000000 in
theorem am_al_ok {b0 len0 sz0 : Nat} {C3 : String} {T3 : u_T} {N3 : Nat} {knw : Nat → Option (Nat × List Value)} {anw mnw obj : Nat → Bool} (hx : p.tables.exec = Jvm.exec) (hb : c.code = cc) (hml : c.maxLocals = nL) (hown : s.vm.findClass own = some m.cls) (hts : ∀ w ∈ Ts, w.before args s = true) (hK : va_K D cl tys s)
    (t0 : tys[0]? = some (ca 0, .int)) (t1 : tys[1]? = some (ca 1, .boolean)) (t2 : tys[2]? = some (ca 2, .long)) (t3 : tys[3]? = some (ca 3, .object C3)) (t4 : tys[4]? = some (ca 4, .array .int)) (hc3 : cl[2]? = some (C3, T3, N3)) (a0 : Cond.arrayClass .int ∈ Ts) (a1 : Cond.arrayClass .boolean ∈ Ts) (a2 : Cond.arrayClass .long ∈ Ts) (a3 : (Cond.arrayOver (.object C3)).before args s = true) (a4 : (Cond.arrayOver (.array .int)).before args s = true)
    (hN : am_Nw own Ts cl knw) (hanw : ∀ ix, anw ix = true → Cond.classLink own ix C3 ∈ Ts) (hmnw : ∀ ix, mnw ix = true → Cond.classLink own ix ("[" ++ (FieldType.array .int).toString) ∈ Ts) (hobj : ∀ ix, obj ix = true → Cond.methodLink own ix objectInit ∈ Ts ∧ Cond.instanceMethod objectInit ∈ Ts ∧ Cond.code objectInit ⟨#[0xb1]⟩ 1 none ∈ Ts) (hR1 : 1 ≤ R.frames) (hR2 : 20 ≤ R.locals)
    (had : ∀ k, k < 1000000 → ad k = b0 + k) (hs : s.heap.size = b0 + len0) (hD9 : ∀ h : List va_E, h.length ≤ 1000000 → va_D A (am_ws ad ca h))
    {i : Instr} {n pc : Nat} {L : List (Option Value)} {st : List Value} {h : List va_E} {r : am_S} {ls : Array Slot} (hL : am_has ad ls nL L) (hP : va_P D cl (am_ws ad ca h) H) (hD : va_D A (am_ws ad ca h)) (hS : va_S A s.heap H locs) (hd : decode cc pc = .ok (i, n)) (hr : am_al knw anw mnw obj i n pc L st h = some r)
    (hl : r.2.2.2.length ≤ 1000000) (hc : cells + len0 = h.length) (hsl : slots + sz0 = am_sz h) (hc' : r.2.2.2.length ≤ R.cells + len0) (hs' : am_sz r.2.2.2 ≤ R.slots + sz0)
    (k : ∀ ls' H1 locs1 cells1 slots1, am_has ad ls' nL r.2.1 → va_P D cl (am_ws ad ca r.2.2.2) H1 → va_D A (am_ws ad ca r.2.2.2) → va_S A s.heap H1 locs1 → cells1 + len0 = r.2.2.2.length → slots1 + sz0 = am_sz r.2.2.2 → W p l e R s m args below meth c H1 locs1 cells1 slots1 Q (F0 m r.1 ls' (r.2.2.1.map (am_v ad)))) : W p l e R s m args below meth c H locs cells slots Q (F0 m pc ls (st.map (am_v ad))) := by
  have hlh : h.length ≤ r.2.2.2.length → h.length ≤ 1000000 := fun z => Nat.le_trans z hl
  unfold am_al at hr
  split at hr
  · split at hr
    · next ci fs hk =>
      cases hr
      simp only [List.length_append, List.length_singleton] at hl hc' hlh
      rw [am_sz_push] at hs'
      obtain ⟨C, T, N, ty, n1, n2, n3, n4, n5, n6, n7, n8, n9⟩ := hN _ _ _ hk
      refine am_end had hs hc (by omega) hP hS fun hz => ?_
      have hKn := hK.1 ci _ n1
      have hcs : am_cs (.inr (ci, fs)) = N := n7
      rw [hcs] at hs'
      have hfs : fs.map (am_v ad) = fs := by
        refine (List.map_congr_left (g := id) fun v hv => ?_).trans (List.map_id fs)
        have := n9 v hv
        cases v <;> first | rfl | exact absurd rfl (this _)
      refine W.newcK hx hb hown (hts _ n4) (hts _ n5) (hts _ n6) rfl hd (by omega) (by omega) hKn.2.1 hz fun H1 kC hkC e1 z1 o1 => ?_
      have e2 : b0 + h.length = ad h.length := (had _ (by omega)).symm
      rw [e2] at e1 ⊢
      refine k _ H1 locs (cells + 1) (slots + N) hL (am_push hP (fun q hq => o1 q (by omega)) ⟨_, n1, ?_⟩) (hD9 _ (by simpa using hl)) (am_pushS hS (by omega) (fun q hq => o1 q (by omega))) (by simp; omega) (by rw [am_sz_push, hcs]; omega)
      show t_OB (ad h.length) (D.1 ci) N (D.2 ci) H1 (vp_V (fs.map (am_v ad)))
      rw [hfs]
      exact (u_born ty hts n2 hKn hkC e1 n3).to n8
    · cases hr
  · split at hr
    · next hcd =>
      cases hr
      simp only [List.length_append, List.length_singleton] at hl hc' hlh
      rw [am_sz_push] at hs'
      simp only [am_cs] at hs'
      refine am_end had hs hc (by omega) hP hS fun hz => ?_
      refine va_newaK (atype := .int) hx hb (hts _ a0) rfl hd rfl hcd.1 rfl hcd.2 (by omega) (by omega) hz fun H1 cA e1 z1 o1 hAr hNm => ?_
      have e2 : b0 + h.length = ad h.length := (had _ (by omega)).symm
      have e3 : cA = ca 0 := Option.some.inj (hNm.symm.trans (hK.2 0 _ t0).2)
      subst e3
      rw [e2] at e1 ⊢
      exact k _ H1 locs _ _ hL (am_push hP (fun q hq => o1 q (by omega)) e1) (hD9 _ (by simpa using hl)) (am_pushS hS (by omega) (fun q hq => o1 q (by omega))) (by simp; omega) (by rw [am_sz_push]; simp only [am_cs]; omega)
    · cases hr
  · split at hr
    · next hcd =>
      cases hr
      simp only [List.length_append, List.length_singleton] at hl hc' hlh
      rw [am_sz_push] at hs'
      simp only [am_cs] at hs'
      refine am_end had hs hc (by omega) hP hS fun hz => ?_
      refine va_newaK (atype := .boolean) hx hb (hts _ a1) rfl hd rfl hcd.1 rfl (by rw [show componentBytes (newarray.typeOf .boolean) = 1 from rfl]; omega) (by omega) (by omega) hz fun H1 cA e1 z1 o1 hAr hNm => ?_
      have e2 : b0 + h.length = ad h.length := (had _ (by omega)).symm
      have e3 : cA = ca 1 := Option.some.inj (hNm.symm.trans (hK.2 1 _ t1).2)
      subst e3
      rw [e2] at e1 ⊢
      exact k _ H1 locs _ _ hL (am_push hP (fun q hq => o1 q (by omega)) e1) (hD9 _ (by simpa using hl)) (am_pushS hS (by omega) (fun q hq => o1 q (by omega))) (by simp; omega) (by rw [am_sz_push]; simp only [am_cs]; omega)
    · cases hr
  · split at hr
    · next hcd =>
      cases hr
      simp only [List.length_append, List.length_singleton] at hl hc' hlh
      rw [am_sz_push] at hs'
      simp only [am_cs] at hs'
      refine am_end had hs hc (by omega) hP hS fun hz => ?_
      refine va_newaK (atype := .long) hx hb (hts _ a2) rfl hd rfl hcd.1 rfl hcd.2 (by omega) (by omega) hz fun H1 cA e1 z1 o1 hAr hNm => ?_
      have e2 : b0 + h.length = ad h.length := (had _ (by omega)).symm
      have e3 : cA = ca 2 := Option.some.inj (hNm.symm.trans (hK.2 2 _ t2).2)
      subst e3
      rw [e2] at e1 ⊢
      exact k _ H1 locs _ _ hL (am_push hP (fun q hq => o1 q (by omega)) e1) (hD9 _ (by simpa using hl)) (am_pushS hS (by omega) (fun q hq => o1 q (by omega))) (by simp; omega) (by rw [am_sz_push]; simp only [am_cs]; omega)
    · cases hr
  · split at hr
    · next hcd =>
      cases hr
      simp only [List.length_append, List.length_singleton] at hl hc' hlh
      rw [am_sz_push] at hs'
      simp only [am_cs] at hs'
      refine am_end had hs hc (by omega) hP hS fun hz => ?_
      refine W.anew hx hb hown (hts _ (hanw _ hcd.1)) a3 rfl hd rfl hcd.2.1 hcd.2.2 (by omega) (by omega) fun cA kA comp u1 u2 u3 u4 => ?_
      have e2 : b0 + h.length = ad h.length := (had _ (by omega)).symm
      obtain ⟨-, -, -, -, -, -, u5⟩ := hK.2 3 _ t3
      have e3 : cA = ca 3 := Option.some.inj (u1.symm.trans u5)
      subst e3
      rw [hz, e2]
      refine k _ _ locs _ _ hL (am_push hP (fun q hq => ?_) ?_) (hD9 _ (by simpa using hl)) (am_pushS hS (by simp) (fun q hq => ?_)) (by simp; omega) (by rw [am_sz_push]; simp only [am_cs]; omega)
      · rw [Array.getElem?_push, if_neg (Nat.ne_of_lt hq)]
      · show (Array.push _ _)[ad h.length]? = some (vp_cell _ _)
        rw [← e2, ← hz, Array.getElem?_push_size, vp_cell_q, ← arrV_new]
        rfl
      · rw [Array.getElem?_push, if_neg (Nat.ne_of_lt hq)]
    · cases hr
  · next ix y x t =>
    split at hr
    · next hcd =>
      obtain ⟨d1, d2, d3, d4, d5⟩ := hcd
      cases hr
      simp only [List.length_append, List.length_cons, List.length_replicate] at hl hc' hlh
      rw [am_sz_app, show ∀ (z : va_E) (g : List va_E), am_sz (z :: g) = am_cs z + am_sz g from fun _ _ => by simp [am_sz], am_sz_rep] at hs'
      simp only [am_cs] at hs'
      refine am_end had hs hc (by omega) hP hS fun hz => ?_
      refine am_mz hx hb hown (hts _ (hmnw _ d1)) a4 (hts _ a0) hd d2 d3 d4 d5 (by omega) (by omega) fun H1 cA cI u1 u2 z1 e1 e2 o1 => ?_
      have g1 : cA = ca 4 := Option.some.inj (u1.symm.trans (hK.2 4 _ t4).2)
      have g2 : cI = ca 0 := Option.some.inj (u2.symm.trans (hK.2 0 _ t0).2)
      subst g1
      subst g2
      have g3 : H.size = ad h.length := hz.trans (had _ (by omega)).symm
      have g4 : (Value.ref H.size :: t.map (am_v ad)) = (Value.ref h.length :: t).map (am_v ad) := by rw [g3]; rfl
      rw [g4]
      refine k _ H1 locs _ _ hL (am_pushL hP o1 (fun j z hj => ?_)) (hD9 _ (by simpa using hl)) (am_pushS hS (by omega) o1) (by simp; omega) ?_
      · cases j with
        | zero =>
          simp only [List.getElem?_cons_zero, Option.some.injEq] at hj
          subst hj
          show H1[ad (h.length + 0)]? = some (vp_cell _ _)
          rw [Nat.add_zero, ← g3, e1, vp_cell_q]
          refine congrArg some (congrArg (arrV (ca 4) _) (funext fun i => congrArg va_rf ?_))
          by_cases hi : i < x.toNatClampNeg
          · simp only [hi, if_true, Option.map_some]
            rw [had _ (by omega), hz]
            exact congrArg some (by omega)
          · simp only [hi, if_false, Option.map_none]
        | succ j =>
          simp only [List.getElem?_cons_succ, List.getElem?_replicate] at hj
          split at hj
          · next hj2 =>
            cases hj
            show H1[ad (h.length + (j + 1))]? = some (vp_cell _ _)
            rw [had _ (by omega), show b0 + (h.length + (j + 1)) = H.size + 1 + j by omega, e2 j hj2]
            rfl
          · cases hj
      · rw [am_sz_app, show ∀ (z : va_E) (g : List va_E), am_sz (z :: g) = am_cs z + am_sz g from fun _ _ => by simp [am_sz], am_sz_rep]
        simp only [am_cs]
        omega
    · cases hr
  · split at hr
    · next n f ci _ hh hv =>
      split at hr
      · next hcd =>
        obtain ⟨hin, rfl⟩ := hcd
        cases hr
        refine va_astq (r := (C3, T3, N3)) hx hb hK hP hD hS _ 3 _ 2 (am_ws_get hh) t3 (am_ws_get hv) hc3 hin hd (fun H1 locs1 hP1 hD1 hS1 => ?_)
        have e5 : ∀ (j v : Nat), (fun i => (va_up f j (some v) i).map ad) = va_up (fun i => (f i).map ad) j (some (ad v)) := fun j v => funext fun i => by
          unfold va_up
          split <;> rfl
        refine k _ H1 locs1 cells slots hL ?_ ?_ hS1 (by simp; omega) ?_
        · rw [← am_ws_set]; simp only [am_c, e5]; exact hP1
        · rw [← am_ws_set]; simp only [am_c, e5]; exact hD1
        · refine hsl.trans (am_sz_set hh ?_).symm
          rfl
      · cases hr
    · cases hr
  · split at hr
    · next hcd =>
      cases hr
      obtain ⟨o1, o2, o3⟩ := hobj _ hcd.1
      refine W.objInit hx hb hown (hts _ o1) (hts _ o2) (hts _ o3) rfl (hL.1.trans hml.symm) rfl hd hR1 ?_ (k _ _ _ _ _ hL hP hD hS hc hsl)
      show 2 * 0 + (((_ : List Value).map (am_v ad)).map fun v => v.category).sum + 12 ≤ R.locals
      rw [List.map_map]
      have e1 : ((fun v => v.category) ∘ am_v ad) = fun v : Value => v.category := funext fun v => am_cat ad v
      rw [e1]
      omega
    · cases hr
  · cases hr
end AMA
end
section
/-! The way of a constructor, and its promise. -/
theorem am_hA_sz {fld : Nat → Option (Nat × Nat × Nat)} {i : Instr} {n pc : Nat} {L : List (Option Value)} {st : List Value} {h : List va_E} {r : am_S} (hr : am_hA fld i n pc L st h = some r) : r.2.2.2.length = h.length ∧ am_sz r.2.2.2 = am_sz h := by
  unfold am_hA at hr
  split at hr
  · split at hr
    · split at hr
      · split at hr
        · cases hr; exact ⟨rfl, rfl⟩
        · cases hr
      · cases hr
    · cases hr
  · split at hr
    · next hf hh =>
      split at hr
      · cases hr
        refine ⟨by simp, am_sz_set hh ?_⟩
        simp [am_cs]
      · cases hr
    · cases hr
  · cases hr
theorem am_hB_sz {i : Instr} {n pc : Nat} {L : List (Option Value)} {st : List Value} {h : List va_E} {r : am_S} (hr : am_hB i n pc L st h = some r) : r.2.2.2.length = h.length ∧ am_sz r.2.2.2 = am_sz h := by
  unfold am_hB at hr
  split at hr
  · split at hr
    · split at hr
      · cases hr; exact ⟨rfl, rfl⟩
      · cases hr
    · cases hr
  · split at hr
    · split at hr
      · cases hr; exact ⟨rfl, rfl⟩
      · cases hr
    · cases hr
  · split at hr
    · split at hr
      · cases hr; exact ⟨rfl, rfl⟩
      · cases hr
    · cases hr
  · split at hr
    · next hh =>
      split at hr
      · cases hr; exact ⟨by simp, am_sz_set hh rfl⟩
      · cases hr
    · cases hr
  · split at hr
    · next hh =>
      split at hr
      · cases hr; exact ⟨by simp, am_sz_set hh rfl⟩
      · cases hr
    · cases hr
  · split at hr
    · next hh =>
      split at hr
      · cases hr; exact ⟨by simp, am_sz_set hh rfl⟩
      · cases hr
    · cases hr
  · split at hr
    · split at hr
      · split at hr
        · cases hr; exact ⟨rfl, rfl⟩
        · cases hr
      · cases hr
    · cases hr
  · split at hr
    · cases hr; exact ⟨rfl, rfl⟩
    · cases hr
  · cases hr
theorem am_n_sz {ins : Nat → Option (Instr × Nat)} {fld : Nat → Option (Nat × Nat × Nat)} {cst : Nat → Option Value} {S S' : am_S} (h : am_n ins fld cst S = some S') : S'.2.2.2.length = S.2.2.2.length ∧ am_sz S'.2.2.2 = am_sz S.2.2.2 := by
  unfold am_n at h
  split at h
  · cases h
  · split at h
    · cases h; exact ⟨rfl, rfl⟩
    · split at h
      · next hr => cases h; exact am_hA_sz hr
      · split at h
        · next hr => cases h; exact am_hB_sz hr
        · split at h
          · split at h
            · cases h; exact ⟨rfl, rfl⟩
            · cases h
          · split at h
            · cases h; exact ⟨rfl, rfl⟩
            · cases h
          · cases h
theorem am_al_sz {knw : Nat → Option (Nat × List Value)} {anw mnw obj : Nat → Bool} {i : Instr} {n pc : Nat} {L : List (Option Value)} {st : List Value} {h : List va_E} {r : am_S} (hr : am_al knw anw mnw obj i n pc L st h = some r) : h.length ≤ r.2.2.2.length ∧ am_sz h ≤ am_sz r.2.2.2 := by
  unfold am_al at hr
  split at hr
  · split at hr
    · cases hr; exact ⟨by simp, by rw [am_sz_push]; omega⟩
    · cases hr
  · split at hr
    · cases hr; exact ⟨by simp, by rw [am_sz_push]; omega⟩
    · cases hr
  · split at hr
    · cases hr; exact ⟨by simp, by rw [am_sz_push]; omega⟩
    · cases hr
  · split at hr
    · cases hr; exact ⟨by simp, by rw [am_sz_push]; omega⟩
    · cases hr
  · split at hr
    · cases hr; exact ⟨by simp, by rw [am_sz_push]; omega⟩
    · cases hr
  · split at hr
    · cases hr; exact ⟨by simp, by rw [am_sz_app]; omega⟩
    · cases hr
  · split at hr
    · next hh hv =>
      split at hr
      · cases hr
        refine ⟨by simp, Nat.le_of_eq (am_sz_set hh ?_).symm⟩
        rfl
      · cases hr
    · cases hr
  · split at hr
    · cases hr; exact ⟨Nat.le_refl _, Nat.le_refl _⟩
    · cases hr
  · cases hr
def am_nA (ins : Nat → Option (Instr × Nat)) (fld : Nat → Option (Nat × Nat × Nat)) (cst : Nat → Option Value) (knw : Nat → Option (Nat × List Value)) (anw mnw obj : Nat → Bool) (S : am_S) : Option am_S := match am_n ins fld cst S with
  | some r => some r
  | none => match ins S.1 with
    | some (i, n) => am_al knw anw mnw obj i n S.1 S.2.1 S.2.2.1 S.2.2.2
    | none => none
theorem am_nA_sz {ins : Nat → Option (Instr × Nat)} {fld : Nat → Option (Nat × Nat × Nat)} {cst : Nat → Option Value} {knw : Nat → Option (Nat × List Value)} {anw mnw obj : Nat → Bool} {S S' : am_S} (h : am_nA ins fld cst knw anw mnw obj S = some S') : S.2.2.2.length ≤ S'.2.2.2.length ∧ am_sz S.2.2.2 ≤ am_sz S'.2.2.2 := by
  unfold am_nA at h
  split at h
  · next hr => cases h; exact ⟨Nat.le_of_eq (am_n_sz hr).1.symm, Nat.le_of_eq (am_n_sz hr).2.symm⟩
  · split at h
    · exact am_al_sz h
    · cases h
def am_EA (ins : Nat → Option (Instr × Nat)) (fld : Nat → Option (Nat × Nat × Nat)) (cst : Nat → Option Value) (knw : Nat → Option (Nat × List Value)) (anw mnw obj : Nat → Bool) (site : Nat → Option (Nat × Nat × Nat × Nat)) (fin : am_S → Option (Option Value)) (Cr : Nat → List Value → List va_E → Option Value → List va_E → Prop) : Nat → am_S → Option Value → List va_E → Prop
  | 0, _, _, _ => False
  | n + 1, S, v, h' =>
    (∃ S', am_nA ins fld cst knw anw mnw obj S = some S' ∧ am_EA ins fld cst knw anw mnw obj site fin Cr n S' v h') ∨
    (∃ ix kd y k ci w h1, am_site ins site S = some (ix, kd, y, k, ci) ∧ k ≤ S.2.2.1.length ∧ ((S.2.2.1.drop k).map fun v => v.category).sum ≤ 8 ∧ Cr y (S.2.2.1.take k).reverse S.2.2.2 w h1 ∧ am_EA ins fld cst knw anw mnw obj site fin Cr n (S.1 + 3, S.2.1, w.toList ++ S.2.2.1.drop k, h1) v h') ∨
    (fin S = some v ∧ h' = S.2.2.2)
section AMB
variable {p : Program} {l : Launch} {e : Env} {R : Room} {s : State} {m : MethodId} {args : Array Value} {below : List Frame} {meth : Method} {c : Code}
variable {cc : ByteArray} {ad : Nat → Nat} {ca : Nat → ClassId} {nL : Nat} {D : va_G} {cl : List vw_C} {A : Nat → Prop} {tys : List (ClassId × FieldType)} {Ts Tn : List Cond} {own : String} {XX : State → Prop} {mt : am_mt} {fr lo : Nat → Nat} {b0 : Nat}
variable {ins : Nat → Option (Instr × Nat)} {fld : Nat → Option (Nat × Nat × Nat)} {cst : Nat → Option Value} {knw : Nat → Option (Nat × List Value)} {anw mnw obj : Nat → Bool} {site : Nat → Option (Nat × Nat × Nat × Nat)} {fin : am_S → Option (Option Value)} {Cr : Nat → List Value → List va_E → Option Value → List va_E → Prop}
/-- a promise of a method that makes cells -/
def am_MA (l : Launch) (D : va_G) (cl : List vw_C) (tys : List (ClassId × FieldType)) (ad : Nat → Nat) (ca : Nat → ClassId) (A : Nat → Prop) (XX : State → Prop) (Ts : List Cond) (mt : am_mt) (fr lo : Nat → Nat) (b0 y : Nat) (As : List Value) (h : List va_E) (w : Option Value) (h1 : List va_E) : Prop :=
  ax_Met l (mt y).1 (am_wy Ts mt y) { frames := fr y, cells := h1.length - h.length, slots := am_sz h1 - am_sz h, locals := lo y } (am_Pc D cl tys ad ca A (fun U => XX U ∧ U.heap.size = b0 + h.length) As h) (am_Qx D cl ad ca A (.inl w) h1) (h1.length - h.length) (am_sz h1 - am_sz h) A ∧ h.length ≤ h1.length ∧ am_sz h ≤ am_sz h1
theorem am_EA_le (hCr : ∀ y As h w h1, Cr y As h w h1 → h.length ≤ h1.length ∧ am_sz h ≤ am_sz h1) {v : Option Value} {h' : List va_E} : ∀ (n : Nat) (S : am_S), am_EA ins fld cst knw anw mnw obj site fin Cr n S v h' → S.2.2.2.length ≤ h'.length ∧ am_sz S.2.2.2 ≤ am_sz h' := by
  intro n
  induction n with
  | zero => intro S h; exact h.elim
  | succ n ih =>
    intro S h
    rcases h with ⟨S', hn, h⟩ | ⟨ix, kd, y, k, ci, w, h1, -, -, -, hc, h⟩ | ⟨-, rfl⟩
    · have a := am_nA_sz hn
      have b := ih _ h
      exact ⟨Nat.le_trans a.1 b.1, Nat.le_trans a.2 b.2⟩
    · have a := hCr _ _ _ _ _ hc
      have b := ih _ h
      exact ⟨Nat.le_trans a.1 b.1, Nat.le_trans a.2 b.2⟩
    · exact ⟨Nat.le_refl _, Nat.le_refl _⟩
set_option maxHeartbeats 4000000 in
theorem am_EA_ok {len0 sz0 : Nat} {C3 : String} {T3 : u_T} {N3 : Nat} {v : Option Value} {h' : List va_E} {Q : State → Prop} (hx : p.tables.exec = Jvm.exec) (hb : c.code = cc) (hml : c.maxLocals = nL) (hown : s.vm.findClass own = some m.cls) (hts : ∀ w ∈ Ts, w.before args s = true) (hgd : ∀ w ∈ Ts, goodWord w = true) (htn : ∀ w ∈ Tn, w.before args s = true)
    (hF : am_Fw meth own Ts cl fld) (hK : va_K D cl tys s) (t0 : tys[0]? = some (ca 0, .int)) (t1 : tys[1]? = some (ca 1, .boolean)) (t2 : tys[2]? = some (ca 2, .long)) (t3 : am_t3 tys ca) (t33 : tys[3]? = some (ca 3, .object C3)) (t44 : tys[4]? = some (ca 4, .array .int)) (hc3 : cl[2]? = some (C3, T3, N3)) (a0 : Cond.arrayClass .int ∈ Ts) (a1 : Cond.arrayClass .boolean ∈ Ts) (a2 : Cond.arrayClass .long ∈ Ts) (a3 : (Cond.arrayOver (.object C3)).before args s = true) (a4 : (Cond.arrayOver (.array .int)).before args s = true)
    (hins : ∀ pc i n, ins pc = some (i, n) → decode cc pc = .ok (i, n)) (hci : ∀ ix x, cst ix = some (.int x) → Cond.constant own ix x ∈ Ts) (hcl : ∀ ix x, cst ix = some (.long x) → Cond.constantLong own ix x ∈ Ts) (hSw : am_Sw own Ts Tn cl mt site)
    (hN : am_Nw own Ts cl knw) (hanw : ∀ ix, anw ix = true → Cond.classLink own ix C3 ∈ Ts) (hmnw : ∀ ix, mnw ix = true → Cond.classLink own ix ("[" ++ (FieldType.array .int).toString) ∈ Ts) (hobj : ∀ ix, obj ix = true → Cond.methodLink own ix objectInit ∈ Ts ∧ Cond.instanceMethod objectInit ∈ Ts ∧ Cond.code objectInit ⟨#[0xb1]⟩ 1 none ∈ Ts) (hR1 : 1 ≤ R.frames) (hR2 : 20 ≤ R.locals)
    (had : ∀ k, k < 1000000 → ad k = b0 + k) (hs : s.heap.size = b0 + len0) (hD9 : ∀ h : List va_E, h.length ≤ 1000000 → va_D A (am_ws ad ca h))
    (hXb : ∀ U g mk a, XX U → XX (U.calling g mk a)) (hX : ∀ U : State, s.WarmedH U.vm → va_F A s U → XX U)
    (hCr : ∀ y As h w h1, Cr y As h w h1 → am_MA l D cl tys ad ca A XX Ts mt fr lo b0 y As h w h1)
    (hrm : ∀ ix kd y k ci, site ix = some (kd, y, k, ci) → fr y + 1 ≤ R.frames ∧ 8 + ((mt y).2.2.1 + 11) + lo y ≤ R.locals) (hl' : h'.length ≤ 1000000) (hgc : h'.length ≤ R.cells + len0) (hgs : am_sz h' ≤ R.slots + sz0)
    (hret : ∀ S ls H locs cells slots, fin S = some v → h' = S.2.2.2 → cells + len0 = h'.length → slots + sz0 = am_sz h' → am_at ad ca D cl A s.heap nL S ls H locs → W p l e R s m args below meth c H locs cells slots Q (F0 m S.1 ls (S.2.2.1.map (am_v ad)))) :
    ∀ (n : Nat) (S : am_S), am_EA ins fld cst knw anw mnw obj site fin Cr n S v h' → ∀ ls H locs cells slots, am_at ad ca D cl A s.heap nL S ls H locs → cells + len0 = S.2.2.2.length → slots + sz0 = am_sz S.2.2.2 → W p l e R s m args below meth c H locs cells slots Q (F0 m S.1 ls (S.2.2.1.map (am_v ad))) := by
  have hCl : ∀ y As h w h1, Cr y As h w h1 → h.length ≤ h1.length ∧ am_sz h ≤ am_sz h1 := fun y As h w h1 hc => (hCr y As h w h1 hc).2
  have hsi0 : ∀ {S : am_S} {ix kd y k ci : Nat}, am_site ins site S = some (ix, kd, y, k, ci) → site ix = some (kd, y, k, ci) := fun {S ix kd y k ci} h => by
    unfold am_site at h
    split at h
    · split at h
      · next hs => cases h; exact hs
      · next hs => cases h; exact hs
      · cases h
    · split at h
      · next hs =>
        split at h
        · cases h; exact hs
        · cases h
      · cases h
    · split at h
      · next hs =>
        split at h
        · cases h; exact hs
        · cases h
      · cases h
    · cases h
  intro n
  induction n with
  | zero => intro S h; exact h.elim
  | succ n ih =>
    intro S h ls H locs cells slots hat hc1 hc2
    rcases h with ⟨S', hn, h⟩ | ⟨ix, kd, y, k, ci, w, h1, hsi, hk, hw8, hc, h⟩ | ⟨hv, rfl⟩
    · have hle := am_EA_le hCl n _ h
      unfold am_nA at hn
      split at hn
      · next r hr =>
        cases hn
        have hz := am_n_sz hr
        exact am_n_ok hx hb hown hts hF hK t0 t1 t2 t3 hins hci hcl hat hr (fun ls' H1 locs1 hat1 => ih _ h ls' H1 locs1 _ _ hat1 (by rw [hz.1]; exact hc1) (by rw [hz.2]; exact hc2))
      · split at hn
        · next i n' hi =>
          obtain ⟨hL, hP, hD, hS⟩ := hat
          exact am_al_ok hx hb hml hown hts hK t0 t1 t2 t33 t44 hc3 a0 a1 a2 a3 a4 hN hanw hmnw hobj hR1 hR2 had hs hD9 hL hP hD hS (hins _ _ _ hi) hn (Nat.le_trans hle.1 hl') hc1 hc2 (Nat.le_trans hle.1 hgc) (Nat.le_trans hle.2 hgs) (fun ls' H1 locs1 c1 s1 q1 q2 q3 q4 q5 q6 => ih _ h ls' H1 locs1 c1 s1 ⟨q1, q2, q3, q4⟩ q5 q6)
        · cases hn
    · have hle := am_EA_le hCl n _ h
      obtain ⟨hM, hm1, hm2⟩ := hCr _ _ _ _ _ hc
      obtain ⟨r1, r2⟩ := hrm _ _ _ _ _ (hsi0 hsi)
      have hle1 : h1.length ≤ h'.length := hle.1
      have hle2 : am_sz h1 ≤ am_sz h' := hle.2
      refine am_end had hs hc1 (by omega) hat.2.1 hat.2.2.2 fun hz => ?_
      refine am_call_ok (o1 := .inl w) (XX := fun U => XX U ∧ U.heap.size = b0 + S.2.2.2.length) hx hb hml hown hts hgd htn hK hins hSw (fun U g mk a q => ⟨hXb U g mk a q.1, q.2⟩) (fun U hU hW hF => ⟨hX U hW hF, by rw [hU]; exact hz⟩) hat hsi hk hw8 hM rfl rfl r1 r2 (by omega) (by omega) (hD9 _ (by omega)) (fun w' hw H1 locs1 hat1 => ?_) (fun E hE => by cases hE)
      cases hw
      exact ih _ h ls H1 locs1 _ _ hat1 (by show cells + (h1.length - S.2.2.2.length) + len0 = h1.length; omega) (by show slots + (am_sz h1 - am_sz S.2.2.2) + sz0 = am_sz h1; omega)
    · exact hret S ls H locs cells slots hv rfl hc1 hc2 hat
end AMB
end
section
/-! A constructor's promise. -/
section AMD
variable {l : Launch} {ad : Nat → Nat} {ca : Nat → ClassId} {D : va_G} {cl : List vw_C} {A : Nat → Prop} {tys : List (ClassId × FieldType)} {Ts Tn : List Cond} {XX : State → Prop} {mt : am_mt} {fr lo : Nat → Nat} {b0 : Nat}
/-- what a constructor's tables of things made rest on -/
def am_okA (own C3 : String) (Ts Tn : List Cond) (cl : List vw_C) (F G : Nat) (knw : Nat → Option (Nat × List Value)) (anw mnw obj : Nat → Bool) : Prop :=
  Cond.arrayClass .int ∈ Ts ∧ Cond.arrayClass .boolean ∈ Ts ∧ Cond.arrayClass .long ∈ Ts ∧ Cond.arrayOver (.object C3) ∈ Tn ∧ Cond.arrayOver (.array .int) ∈ Tn ∧ am_Nw own Ts cl knw ∧ (∀ ix, anw ix = true → Cond.classLink own ix C3 ∈ Ts) ∧ (∀ ix, mnw ix = true → Cond.classLink own ix ("[" ++ (FieldType.array .int).toString) ∈ Ts) ∧ (∀ ix, obj ix = true → Cond.methodLink own ix objectInit ∈ Ts ∧ Cond.instanceMethod objectInit ∈ Ts ∧ Cond.code objectInit ⟨#[0xb1]⟩ 1 none ∈ Ts) ∧ 1 ≤ F ∧ 20 ≤ G
set_option maxHeartbeats 4000000 in
theorem am_meetsA {x : Nat} {C3 : String} {T3 : u_T} {N3 : Nat} {ins : Nat → Option (Instr × Nat)} {fld : Nat → Option (Nat × Nat × Nat)} {cst : Nat → Option Value} {knw : Nat → Option (Nat × List Value)} {anw mnw obj : Nat → Bool} {site : Nat → Option (Nat × Nat × Nat × Nat)} {Cr : Nat → List Value → List va_E → Option Value → List va_E → Prop}
    (hok : am_ok Ts Tn cl mt fr lo x ins fld cst site) (hoA : am_okA (mt x).1.cls C3 Ts Tn cl (fr x) (lo x) knw anw mnw obj) (hgd : ∀ w ∈ Ts, goodWord w = true) (t0 : tys[0]? = some (ca 0, .int)) (t1 : tys[1]? = some (ca 1, .boolean)) (t2 : tys[2]? = some (ca 2, .long)) (t3 : am_t3 tys ca) (t33 : tys[3]? = some (ca 3, .object C3)) (t44 : tys[4]? = some (ca 4, .array .int)) (hc3 : cl[2]? = some (C3, T3, N3)) (hXX : am_XX A Tn XX)
    (had : ∀ k, k < 1000000 → ad k = b0 + k) (hD9 : ∀ h : List va_E, h.length ≤ 1000000 → va_D A (am_ws ad ca h))
    (hCr : ∀ y As h w h1, Cr y As h w h1 → am_MA l D cl tys ad ca A XX Ts mt fr lo b0 y As h w h1)
    {As : List Value} {h h' : List va_E} {v : Option Value} {n : Nat} (hn : (am_ent As).length ≤ (mt x).2.2.1) (hl' : h'.length ≤ 1000000) (hE : am_EA ins fld cst knw anw mnw obj site (am_ret ins (mt x).2.2.2) Cr n (0, am_entry As (mt x).2.2.1, [], h) v h') :
    am_MA l D cl tys ad ca A XX Ts mt fr lo b0 x As h v h' := by
  obtain ⟨k1, k2, k3, k4, k5, k6, k7⟩ := hok
  obtain ⟨x1, x2, x3⟩ := hXX
  obtain ⟨b1, b2, b3, b4, b44, b5, b6, b66, b7, b8, b9⟩ := hoA
  have hle := am_EA_le (fun y As h w h1 hc => (hCr y As h w h1 hc).2) n _ hE
  have hle1 : h.length ≤ h'.length := hle.1
  have hle2 : am_sz h ≤ am_sz h' := hle.2
  refine ⟨?_, hle1, hle2⟩
  refine ax_ofW (cc := (mt x).2.1) (maxL := (mt x).2.2.1) (ret := (mt x).2.2.2) k1 rfl ?_
  intro p e s m args below meth c s₁ B hml hnh hv
  obtain ⟨rfl, hP, hD, hK, hXs, hsz⟩ := hv
  have hts0 := atoms_spec (ws := am_wy Ts mt x) B.pre
  have hts : ∀ w ∈ Ts, w.before ((As.map (am_v ad)).toArray) s = true := fun w hw => hts0 w (List.mem_cons_of_mem _ hw)
  have hown : s.vm.findClass (mt x).1.cls = some m.cls := findClass_of_methodNamed B.named
  have hnm : meth.name = (mt x).1.name := (name_of_methodNamed B.named B.method).1
  have hl := lv_entry (As.map (am_v ad)) (n := (mt x).2.2.1) (by rw [am_ent_len]; exact hn)
  rw [lg_entry_eq]
  generalize (lg_sl (As.map (am_v ad)) ++ List.replicate ((mt x).2.2.1 - (lg_sl (As.map (am_v ad))).length) Slot.unset).toArray = ls at hl ⊢
  have hL := am_has_entry hn hl
  refine am_EA_ok (len0 := h.length) (sz0 := am_sz h) (h' := h') (Q := ax_E below (am_Qx D cl ad ca A (.inl v) h') _ s (h'.length - h.length) (am_sz h' - am_sz h) A) (fr := fr) (lo := lo) B.exec B.bytes hml hown hts hgd (fun w hw => x3 s hXs w hw _) (k2 meth hnm) hK t0 t1 t2 t3 t33 t44 hc3 b1 b2 b3 (x3 s hXs _ b4 _) (x3 s hXs _ b44 _) k3 k4 k5 k6 b5 b6 b66 b7 b8 b9 had hsz hD9 x1 (fun U hW hF => x2 s U hXs hW hF) hCr k7 hl' (by show h'.length ≤ (h'.length - h.length) + h.length; omega) (by show am_sz h' ≤ (am_sz h' - am_sz h) + am_sz h; omega) ?_ n (0, am_entry As (mt x).2.2.1, [], h) hE ls s.heap [] 0 0 ⟨hL, hP, hD, va_S.rf⟩ (by show 0 + h.length = h.length; omega) (by show 0 + am_sz h = am_sz h; omega)
  intro S ls H locs cells slots hv hh c1 c2 hat
  have e1 : h'.length - h.length = cells := by omega
  have e2 : am_sz h' - am_sz h = slots := by omega
  rw [e1, e2]
  subst hh
  exact am_ret_ok B.exec B.bytes B.returns B.notSynchronized k3 hat (fun _ q => q) hv
end AMD
end
section
/-! Catching: a method with a table of handlers, every row over the call; the classes that the rows name may be unresolved as yet. -/
def ax_rows (pl : Platform) (s : State) (d : ClassId) (pc : Nat) (thrown : ClassId) : List ExceptionTableEntry → Nat → Prop
  | [], _ => False
  | x :: t, to => covers x pc = true ∧ x.catchType ≠ 0 ∧ ∃ k, s.vm.ClassLinks pl d x.catchType k ∧ ((s.vm.assignable thrown k = true ∧ to = x.handlerPc) ∨ (s.vm.assignable thrown k = false ∧ ax_rows pl s d pc thrown t to))
section AXH
variable {e : Env} {s : State}
theorem ax_row {Q : Handler → Pre} {E : CtlPost} {d : Bool} {acts : List Action} {S : State} {f : JFrame} {a : Addr} {x : ExceptionTableEntry} {t : List ExceptionTableEntry} {k : ClassId} {cell : Cell} (hx : covers x f.pc = true) (h0 : x.catchType ≠ 0) (hl : S.vm.ClassLinks e.platform f.method.cls x.catchType k) (hcell : S.heap[a]? = some cell) (hobj : ∀ z, cell.vm ≠ .statics z)
    (hk : ∃ z, S.vm.classes[cell.cls]? = some z) (hc : ∃ z, S.vm.classes[k]? = some z) :
    wp (findHandler.go f a (x :: t)) Q E e d acts S ↔ if S.vm.assignable cell.cls k = true then Q (.found x.handlerPc) d acts (S.setVm (S.vm.noted f.method.cls x.catchType (.cls k))) else wp (findHandler.go f a t) Q E e d acts (S.setVm (S.vm.noted f.method.cls x.catchType (.cls k))) := by
  simp only [covers] at hx
  obtain ⟨ha, ht⟩ := (resolveClass_links e.toSetting hl).op (op := VmOp.resolveClass f.method.cls x.catchType) rfl
  have hal : S.vm.Alike (S.vm.noted f.method.cls x.catchType (.cls k)) := (Vm.Alike.refl S.vm).noted _ _ _
  obtain ⟨k1, hk1⟩ := hk
  obtain ⟨k2, hk2⟩ := hc
  obtain ⟨k1', hk1', -⟩ := hal.2.2 _ _ hk1
  obtain ⟨k2', hk2', -⟩ := hal.2.2 _ _ hk2
  have hasg : (S.vm.noted f.method.cls x.catchType (.cls k)).assignable cell.cls k = S.vm.assignable cell.cls k := by rw [hal.assignable]
  cases hfit : S.vm.assignable cell.cls k <;> simp [findHandler.go, hx, h0, ha, ht, hcell, hobj, hk1', hk2', hasg, hfit, VmOp.dirties, VmOp.acts]
theorem ax_find {f : JFrame} {a : Addr} {cell : Cell} {to : Nat} (hobj : ∀ z, cell.vm ≠ .statics z) (hk0 : ∃ z, s.vm.classes[cell.cls]? = some z) : ∀ (rows : List ExceptionTableEntry) (S : State), s.WarmedH S.vm → S.heap[a]? = some cell → ax_rows e.platform s f.method.cls f.pc cell.cls rows to →
    ∃ vm', s.WarmedH vm' ∧ ∀ (Q : Handler → Pre) (E : CtlPost) (d : Bool) (acts : List Action), wp (findHandler.go f a rows) Q E e d acts S ↔ Q (.found to) d acts (S.setVm vm') := by
  intro rows
  obtain ⟨k0, hk0⟩ := hk0
  induction rows with
  | nil => intro S _ _ h; exact h.elim
  | cons x t ih =>
    intro S hW hcell h
    obtain ⟨hx, h0, k, hl, hor⟩ := h
    obtain ⟨k0', hk0', -⟩ := hW.alike.2.2 _ _ hk0
    obtain ⟨dk, _, _, kt, hd, _, _, _, _, hkt, _, hopen⟩ := hl.here
    obtain ⟨kt', hkt', -⟩ := hW.alike.2.2 _ _ hkt
    have hW1 := hW.noted hd hopen (State.rightAt_cls hl)
    rcases hor with ⟨hfit, rfl⟩ | ⟨hno, hrest⟩
    · refine ⟨_, hW1, fun Q E d acts => ?_⟩
      rw [ax_row hx h0 (hW.classLinks hl) hcell hobj ⟨k0', hk0'⟩ ⟨kt', hkt'⟩, if_pos (by rw [hW.alike.assignable]; exact hfit)]
    · obtain ⟨vm', hW', hq⟩ := ih (S.setVm (S.vm.noted f.method.cls x.catchType (.cls k))) hW1 hcell hrest
      refine ⟨vm', hW', fun Q E d acts => ?_⟩
      rw [ax_row hx h0 (hW.classLinks hl) hcell hobj ⟨k0', hk0'⟩ ⟨kt', hkt'⟩, if_neg (by rw [hW.alike.assignable, hno]; decide)]
      exact hq Q E d acts
theorem ax_stepc {S : State} {a : Addr} {f : JFrame} {r : List Frame} {to : Nat} {vm' : Vm} (hfind : ∀ (Q : Handler → Pre) (E : CtlPost) (d : Bool) (acts : List Action), wp (findHandler f a) Q E e d acts S ↔ Q (.found to) d acts (S.setVm vm')) :
    (stepThrowing e S a (.java f :: r)).1 = (S.setVm vm').setFrames (.java { f with pc := to, stack := [.ref a] } :: r) := by
  simp only [stepThrowing, searchFrame, vmDo]
  generalize hr : Sem.go _ e false [] S = res
  obtain ⟨as, rfl, ha⟩ := Sem.eq_ok_of hr (a := Handler.found to) (s' := S.setVm vm') (acts' := []) (by simp [hfind _ _ _ _])
  rfl
variable {p : Program} {l : Launch} {R : Room} {m : MethodId} {args : Array Value} {below : List Frame} {meth : Method} {c : Code} {H : Heap} {locs : List Loc} {cells slots : Nat} {Q : State → Prop} {own : String}
/-- caught in this method -/
theorem ax_catch {q : Addr} {ce : Cell} {E : String} {pc to : Nat} {ls : Array Slot} {st : List Value} (hcell : H[q]? = some ce) (hv : ce.vm = .none) (hcl : s.vm.findClass E = some ce.cls) (hrow : ∀ e : Env, l.admits e → ax_rows e.platform s m.cls pc ce.cls c.exceptionTable.toList to)
    (kk : W p l e R s m args below meth c H locs cells slots Q (F0 m to ls [.ref q])) : ax_T p l e R s m args below meth c H locs cells slots Q (F0 m pc ls st) q := by
  intro T hT X
  have hk0 : ∃ z, s.vm.classes[ce.cls]? = some z := by
    obtain ⟨k9, h9, -⟩ := Vm.findClass_spec hcl
    exact ⟨k9, h9⟩
  obtain ⟨vm', hW', hq⟩ := ax_find (e := e) (s := s) (f := F0 m pc ls st) (a := q) (cell := ce) (to := to) (fun z h => by rw [hv] at h; cases h) hk0 c.exceptionTable.toList ((T.setTop (F0 m pc ls st)).pushFrame (.throwing q)) X.warmed (by rw [Stand.throwing_heap, hT]; exact hcell) (hrow e X.admits)
  obtain ⟨t, a1, b1⟩ := kk (T.setVm vm') hT (X.noted hW')
  refine ⟨t, ?_, b1⟩
  have h : At T (F0 m pc ls st).method c below := X.here
  obtain ⟨hgo, hw⟩ := h.throwing q
  have hm' : ((T.setTop (F0 m pc ls st)).pushFrame (.throwing q)).vm.method? (F0 m pc ls st).method = some meth := X.method'
  refine Steps.head hgo hw ?_
  rw [stepThread_throwing (frames_entered h.top _)]
  obtain ⟨g0, hg⟩ := Option.isSome_iff_exists.mp h.top
  obtain ⟨r, hr⟩ := State.topJava?_eq_some.mp hg
  have hr' : (T.setVm vm').frames = .java g0 :: r := hr
  rw [ax_stepc (to := to) (vm' := vm') (fun Q E d acts => by rw [W.findHandler_eq hm' X.code]; exact hq Q E d acts)]
  rw [State.setTop_of_frames _ hr'] at a1
  rw [hr, List.tail_cons, State.pushFrame, State.setTop_of_frames _ hr]
  simp only [State.setFrames_setVm, State.setFrames_setFrames]
  exact a1
end AXH
end
section
/-! Methods with a table of handlers: their promise, and the law's calls of them. -/
section AXW
variable {p : Program} {l : Launch} {e : Env} {R : Room} {s : State} {m : MethodId} {args : Array Value} {below : List Frame} {meth : Method} {c : Code} {H : Heap} {locs : List Loc} {cells slots : Nat} {Q : State → Prop}
variable {y : MethodName} {ws ws' : List Cond} {rm : Room} {Pc : Array Value → State → Prop} {Qx : Array Value → State → Outcome → State → Prop} {mc ms : Nat} {free : Addr → Prop} {cc bytes : ByteArray} {maxL n index pc : Nat} {ret : Option FieldType} {own : String} {ls : Array Slot} {As rest : List Value} {hh : List (Nat × Nat × Nat × Nat)}
theorem ax_ofWH (hy : plainName y.cls = true) (hw : ws = Cond.codeWith y cc maxL ret hh :: ws')
    (body : ∀ p e s m args below meth c s₁, BodyLoose p l y (headSpec ws rm) cc maxL ret e s m args below meth c s₁ → c.maxLocals = maxL → c.exceptionTable.toList.map (fun h => (h.startPc, h.endPc, h.handlerPc, h.catchType)) = hh → Pc args s →
      W p l e rm s m args below meth c s.heap [] 0 0 (ax_E below Qx args s mc ms free) (entryFrame m args maxL)) : ax_Met l y ws rm Pc Qx mc ms free := by
  refine MetFree.of_bodyS (code := cc) (maxLocals := maxL) (ret := ret) hy ?_ ?_
  · intro args s m h hn
    obtain ⟨m9, meth, c, hn9, h1, h2, h3, h4, -, h5, h6, -⟩ := Cond.codeWith_spec (atoms_spec (ws := ws) h _ (by rw [hw]; exact List.mem_cons_self))
    cases hn.symm.trans hn9
    exact ⟨meth, c, h1, h2, h3, h4, h5, h6⟩
  · intro p e s m args below meth c s₁ B hml hP _
    have hh0 : s₁.heap = s.heap := by rw [B.state]; rfl
    obtain ⟨m9, meth9, c9, hn9, h1, h2, h3, h4, h7, h5, h6, -⟩ := Cond.codeWith_spec (atoms_spec (ws := ws) B.pre _ (by rw [hw]; exact List.mem_cons_self))
    cases B.named.symm.trans hn9
    cases B.method.symm.trans h1
    cases (Stand.of_body B).code.symm.trans h2
    obtain ⟨t, a1, o, b1, b2, b3⟩ := body p e s m args below meth c s₁ B hml h7 hP s₁ hh0 (Stand.of_body B)
    exact ⟨t, o, a1, b1, b2, b3⟩
theorem ax_SW (hx : p.tables.exec = Jvm.exec) (hb : c.code = cc) (hown : s.vm.findClass own = some m.cls) (hsize : ls.size = c.maxLocals) (hM : ax_Met l y ws rm Pc Qx mc ms free) (hws : ∀ w ∈ ws, ∀ (a' : Array Value) (U : State), s.WarmedH U.vm → w.before a' U = true) (hcode : (Cond.codeWith y bytes maxL ret hh).before args s = true) (hini : (Cond.initialized y.cls).before args s = true) (hy : y.cls ≠ "java/lang/invoke/MethodHandle" ∧ y.cls ≠ "java/lang/invoke/VarHandle") (hlen : ∀ sig, parseMethodDescriptor y.desc = some sig → n = sig.parameters.length)
    (hfr : rm.frames + 1 ≤ R.frames) (hlo : 8 + (maxL + 11) + rm.locals ≤ R.locals) (hrc : rm.cells = mc) (hrs : rm.slots = ms) (hlink : (Cond.methodLink own index y).before args s = true) (hstat : (Cond.static y).before args s = true)
    (hcells : cells + mc ≤ R.cells) (hslots : slots + ms ≤ R.slots) (hn : As.length = n) (hwords : (rest.map fun v => v.category).sum ≤ 8) (hbl : FrameBlind Pc) (hPc : ∀ U : State, U.heap = H → s.WarmedH U.vm → Pc As.toArray U) (hdg : decode cc pc = .ok (.invokestatic index, 3))
    (k : ax_K p l e R s m args below meth c H locs cells slots Q Qx mc ms free pc ls rest As.toArray) : W p l e R s m args below meth c H locs cells slots Q (F0 m pc ls (As.reverse ++ rest)) := by
  intro T hT X
  obtain ⟨mk, methM, cM, hnamed, hmethM, hcM, -, hlM, -, -, -, hsigM⟩ := Cond.codeWith_spec hcode
  obtain ⟨kP, hkP, -⟩ := className_of_methodNamed hnamed
  obtain ⟨vm₁, X₁, hstep⟩ := X.invokestatic hx hown hlink hnamed hmethM (Cond.static_spec hnamed hmethM hstat) hkP (Cond.initialized_spec (findClass_of_methodNamed hnamed) hkP hini) hy (g := F0 m pc ls (As.reverse ++ rest)) rfl (argsL := As) (rest := rest) (hn.trans (hlen _ hsigM)) rfl (by rw [hb]; exact hdg)
  have hU : s.WarmedH (T.setVm vm₁).vm := X₁.warmed
  have hdg' : decode c.code (F0 m pc ls rest).pc = .ok (.invokestatic index, 3) := by rw [hb]; exact hdg
  have h : At (T.setVm vm₁) (F0 m pc ls rest).method c below := X₁.here
  have hnU : (T.setVm vm₁).methodNamed? y = some mk := X₁.named hnamed
  have hmU : (T.setVm vm₁).vm.method? mk = some methM := by rw [hU.alike.method?]; exact hmethM
  obtain ⟨kU, hkU, -⟩ := className_of_methodNamed hnU
  have hiniU : kU.init = .initialized := Cond.initialized_spec (findClass_of_methodNamed hnU) hkU (word_at (a' := As.toArray) hU (Or.inl (by first | rfl | simp [Cond.onTables, Cond.keeps, Cond.steady])) hini)
  have happ : (headSpec ws rm).appliesLoose y e.platform ((T.setVm vm₁).calling (F0 m pc ls rest) mk As.toArray) = true :=
    Spec.appliesLoose_calling (g := F0 m pc ls rest) h hdg' hnU hkU hiniU (X₁.room_calling (g := F0 m pc ls rest) (R' := rm) hsize hmU hcM hfr (by rw [hlM]; show 2 * 0 + (rest.map fun v => v.category).sum + (maxL + 11) + rm.locals ≤ R.locals; omega) (by rw [hrc]; exact hcells) (by rw [hrs]; exact hslots)) (atoms_intro fun w hw => hws w hw _ _ hU)
  obtain ⟨mid, hmid⟩ := h.above
  have hfrm : ((T.setVm vm₁).setTop (F0 m pc ls rest)).frames = (.java (F0 m pc ls rest) :: mid) ++ below := by rw [State.frames_setTop' _ h.top, hmid]; rfl
  obtain ⟨o, t, hsteps, -, hend, hq, hW, L, hsm, hL⟩ := Steps.callFree hM p X₁.admits X₁.cas X₁.clock (acts := []) hfrm happ (hbl _ _ _ _ (hPc _ hT hU)) trivial
  have hend' : Ended t (.java (F0 m pc ls rest) :: below) o := by
    have e1 : ((T.setVm vm₁).setTop (F0 m pc ls rest)).frames = .java (F0 m pc ls rest) :: below := by rw [State.frames_setTop' _ h.top, X₁.tail]
    rw [e1] at hend
    exact hend
  have hst : ∀ t2, Steps p.tables e below t t2 → Steps p.tables e below (T.setTop (F0 m pc ls (As.reverse ++ rest))) t2 := fun t2 h2 => hstep _ fun acts => by rw [doInvoke_state]; exact hsteps.trans h2
  cases o with
  | returned v =>
    obtain ⟨T', X', hW', -, ht⟩ := X₁.outOf rfl hdg' hend' hW hsm
    have e1 : T'.heap = t.heap := by rw [ht]; simp [State.setTop, State.modifyTopJava]
    obtain ⟨t2, a1, b1⟩ := k.1 v ((T.setVm vm₁).calling (F0 m pc ls rest) mk As.toArray) t T'.heap L hT hU hq e1.symm hL T' rfl X'
    exact ⟨t2, hst t2 (by rw [ht]; exact a1), b1⟩
  | threw q =>
    obtain ⟨T', X', hW', -, ht⟩ := X₁.outOfThrown rfl hend' hW hsm
    have e1 : T'.heap = t.heap := by rw [ht]; simp [State.pushFrame, State.setFrames, State.setTop, State.modifyTopJava]
    obtain ⟨t2, a1, b1⟩ := k.2 q ((T.setVm vm₁).calling (F0 m pc ls rest) mk As.toArray) t T'.heap L hT hU hq e1.symm hL T' rfl X'
    exact ⟨t2, hst t2 (by rw [ht]; exact a1), b1⟩
end AXW
end
section
/-! The constructors' machine as a program: what it computes is the way. -/
def am_lA (call : Nat → List Value → List va_E → Option (Option Value × List va_E)) (ins : Nat → Option (Instr × Nat)) (fld : Nat → Option (Nat × Nat × Nat)) (cst : Nat → Option Value) (knw : Nat → Option (Nat × List Value)) (anw mnw obj : Nat → Bool) (site : Nat → Option (Nat × Nat × Nat × Nat)) (fin : am_S → Option (Option Value)) : Nat → am_S → Option (Option Value × List va_E)
  | 0, _ => none
  | n + 1, S => match am_nA ins fld cst knw anw mnw obj S with
    | some S' => am_lA call ins fld cst knw anw mnw obj site fin n S'
    | none => match am_site ins site S with
      | some (_, _, y, k, _) => if k ≤ S.2.2.1.length ∧ ((S.2.2.1.drop k).map fun v => v.category).sum ≤ 8 then (match call y (S.2.2.1.take k).reverse S.2.2.2 with
        | some (w, h1) => am_lA call ins fld cst knw anw mnw obj site fin n (S.1 + 3, S.2.1, w.toList ++ S.2.2.1.drop k, h1)
        | none => none) else none
      | none => match fin S with
        | some v => some (v, S.2.2.2)
        | none => none
theorem am_lA_ok {call : Nat → List Value → List va_E → Option (Option Value × List va_E)} {ins : Nat → Option (Instr × Nat)} {fld : Nat → Option (Nat × Nat × Nat)} {cst : Nat → Option Value} {knw : Nat → Option (Nat × List Value)} {anw mnw obj : Nat → Bool} {site : Nat → Option (Nat × Nat × Nat × Nat)} {fin : am_S → Option (Option Value)} {Cr : Nat → List Value → List va_E → Option Value → List va_E → Prop}
    (hc : ∀ y As h w h1, call y As h = some (w, h1) → Cr y As h w h1) {v : Option Value} {h' : List va_E} : ∀ n S, am_lA call ins fld cst knw anw mnw obj site fin n S = some (v, h') → am_EA ins fld cst knw anw mnw obj site fin Cr n S v h' := by
  intro n
  induction n with
  | zero => intro S h; cases h
  | succ n ih =>
    intro S h
    unfold am_lA at h
    split at h
    · next S' hS => exact Or.inl ⟨S', hS, ih _ h⟩
    · split at h
      · next ix kd y k ci hs =>
        split at h
        · next hk =>
          split at h
          · next w h1 hw => exact Or.inr (Or.inl ⟨ix, kd, y, k, ci, w, h1, hs, hk.1, hk.2, hc _ _ _ _ _ hw, ih _ h⟩)
          · cases h
        · cases h
      · split at h
        · next v' hv => cases h; exact Or.inr (Or.inr ⟨hv, rfl⟩)
        · cases h
end
section
/-! Tables of the program by numbers, and how they are checked against the claim's words. -/
def nm_Ts : List Cond := lw_tbl.filter goodWord
/-- words that are carried by premises of their own: on a nest mate's private members, on arrays over a class, on casts, on Throwable's statics -/
def nm_isN (w : Cond) : Bool := match w with
  | .methodLinkNest .. => true
  | .arrayOver _ => true
  | .castable .. => true
  | .laysStatic .. => true
  | .declares _ => true
  | .superclass .. => true
  | _ => false
def nm_Tn : List Cond := .isRef (.static Bundle.tN "UNASSIGNED_STACK" Bundle.steD) :: .isRef (.static Bundle.tN "SUPPRESSED_SENTINEL" Bundle.listD) :: lw_tbl.filter nm_isN
theorem nm_inN {w : Cond} {i : Nat} (h : lw_tbl[i]? = some w) (hg : nm_isN w = true) : w ∈ nm_Tn := List.mem_cons_of_mem _ (List.mem_cons_of_mem _ (List.mem_filter.mpr ⟨List.mem_of_getElem? h, hg⟩))
theorem nm_in {w : Cond} {i : Nat} (h : lw_tbl[i]? = some w) (hg : goodWord w = true) : w ∈ nm_Ts := List.mem_filter.mpr ⟨List.mem_of_getElem? h, hg⟩
theorem nm_good : ∀ w ∈ nm_Ts, goodWord w = true := fun w h => (List.mem_filter.mp h).2
theorem nm_find {α : Type} {L : List (Nat × α)} {ix : Nat} {r : α} (h : (L.find? (fun q => q.1 == ix)).map (fun q => q.2) = some r) : (ix, r) ∈ L := by
  cases hf : L.find? (fun q => q.1 == ix) with
  | none => rw [hf] at h; cases h
  | some q =>
    rw [hf] at h
    have h1 := List.mem_of_find?_eq_some hf
    have h2 := List.find?_some hf
    simp only [Option.map_some, Option.some.injEq] at h
    have h3 : q.1 = ix := by simpa using h2
    rw [← h, ← h3]
    exact h1
/-- instructions by their places -/
def am_in (L : List (Nat × Instr × Nat)) (pc : Nat) : Option (Instr × Nat) := (L.find? (fun q => q.1 == pc)).map (fun q => q.2)
def am_ic (cc : ByteArray) (L : List (Nat × Instr × Nat)) : Bool := L.all (fun q => decide (decode cc q.1 = .ok (q.2.1, q.2.2)))
theorem am_in_ok {cc : ByteArray} {L : List (Nat × Instr × Nat)} (h : am_ic cc L = true) : ∀ pc i n, am_in L pc = some (i, n) → decode cc pc = .ok (i, n) := by
  intro pc i n hp
  have h1 := List.all_eq_true.mp h _ (nm_find hp)
  simpa using h1
abbrev nm_K : Type := vw_C × (Nat → FieldType)
/-- a class's table is right -/
def nm_cok (q : nm_K) : Prop := (∀ w ∈ u_ws q.1.1 q.1.2.1 q.1.2.2, w ∈ nm_Ts) ∧ (∀ j, j < q.1.2.2 → parseFieldDescriptor (q.1.2.1 j).2.2.1 = some (q.2 j)) ∧ ∀ a, a < q.1.2.2 → ∀ b, b < q.1.2.2 → a ≠ b → (q.1.2.1 a).2.1 ≠ (q.1.2.1 b).2.1
theorem nm_wsok {C : String} {T : u_T} {N : Nat} (ps : List Nat) (h : (List.range N).all (fun k => decide (lw_tbl[ps.getD k 0]? = some (u_lay C T k)) && goodWord (u_lay C T k)) = true) : ∀ w ∈ u_ws C T N, w ∈ nm_Ts := by
  intro w hw
  obtain ⟨k, hk, rfl⟩ := List.mem_map.mp hw
  have h1 := List.all_eq_true.mp h k hk
  simp only [Bool.and_eq_true, decide_eq_true_eq] at h1
  exact nm_in h1.1 h1.2
/-- fields by pool places: (place, (class, field, kind, word)) -/
abbrev nm_F : Type := Nat × Nat × Nat × Nat × Nat
def am_fl (L : List nm_F) (ix : Nat) : Option (Nat × Nat × Nat) := ((L.find? (fun q => q.1 == ix)).map (fun q => q.2)).map (fun q => (q.1, q.2.1, q.2.2.1))
def nm_kd (own : String) (ini : Bool) (t : String × String × String × Bool) (ty : FieldType) (kd : Nat) : Bool := match kd with
  | 0 => !t.2.2.2 && decide (ty = .int)
  | 1 => !t.2.2.2 && decide (ty = .boolean)
  | 2 => ini && t.2.2.2 && decide (t.1 = own) && decide (ty = .int)
  | 3 => ini && t.2.2.2 && decide (t.1 = own) && (match ty with
    | .object _ => true
    | .array _ => true
    | _ => false)
  | _ => true
def nm_fchk (ct : List nm_K) (own : String) (ini : Bool) (q : nm_F) : Bool := match ct[q.2.1]? with
  | none => false
  | some r => decide (q.2.2.1 < r.1.2.2) && (decide (lw_tbl[q.2.2.2.2]? = some (Cond.fieldLink own q.1 (r.1.2.1 q.2.2.1).1 (r.1.2.1 q.2.2.1).2.1 (r.1.2.1 q.2.2.1).2.2.1)) && nm_kd own ini (r.1.2.1 q.2.2.1) (r.2 q.2.2.1) q.2.2.2.1)
theorem nm_fok {ct : List nm_K} {own : String} {ini : Bool} {L : List nm_F} (hct : ∀ q ∈ ct, nm_cok q) (h : L.all (nm_fchk ct own ini) = true) {meth : Method} (hm : ini = true → meth.name = "<init>") : am_Fw meth own nm_Ts (ct.map (fun q => q.1)) (am_fl L) := by
  intro ix ci k kd hf
  unfold am_fl at hf
  cases hg : (L.find? (fun q => q.1 == ix)).map (fun q => q.2) with
  | none => rw [hg] at hf; cases hf
  | some r =>
    rw [hg] at hf
    simp only [Option.map_some, Option.some.injEq, Prod.mk.injEq] at hf
    obtain ⟨rfl, rfl, rfl⟩ := hf
    have h1 := List.all_eq_true.mp h _ (nm_find hg)
    unfold nm_fchk at h1
    split at h1
    · cases h1
    · next q hq =>
      simp only [Bool.and_eq_true, decide_eq_true_eq] at h1
      obtain ⟨h2, h3, h4⟩ := h1
      obtain ⟨c1, c2, c3⟩ := hct q (List.mem_of_getElem? hq)
      refine ⟨q.1.1, q.1.2.1, q.1.2.2, q.2, by rw [List.getElem?_map, hq]; rfl, c1, h2, nm_in h3 rfl, c2, c3, fun e => ?_, fun e => ?_, fun e => ?_, fun e => ?_⟩
      · rw [e] at h4
        simp only [nm_kd, Bool.and_eq_true, Bool.not_eq_true', decide_eq_true_eq] at h4
        exact h4
      · rw [e] at h4
        simp only [nm_kd, Bool.and_eq_true, Bool.not_eq_true', decide_eq_true_eq] at h4
        exact h4
      · rw [e] at h4
        simp only [nm_kd, Bool.and_eq_true, decide_eq_true_eq] at h4
        exact ⟨h4.1.1.2, h4.1.2, hm h4.1.1.1, h4.2⟩
      · rw [e] at h4
        simp only [nm_kd, Bool.and_eq_true, decide_eq_true_eq] at h4
        refine ⟨h4.1.1.2, h4.1.2, hm h4.1.1.1, ?_⟩
        have h5 := h4.2
        split at h5
        · exact Or.inl ⟨_, by assumption⟩
        · exact Or.inr ⟨_, by assumption⟩
        · cases h5
/-- constants by pool places: (place, (value, word)) -/
def am_ct (L : List (Nat × Value × Nat)) (ix : Nat) : Option Value := ((L.find? (fun q => q.1 == ix)).map (fun q => q.2)).map (fun q => q.1)
def nm_kchk (own : String) (q : Nat × Value × Nat) : Bool := match q.2.1 with
  | .int x => decide (lw_tbl[q.2.2]? = some (Cond.constant own q.1 x))
  | .long x => decide (lw_tbl[q.2.2]? = some (Cond.constantLong own q.1 x))
  | _ => false
theorem nm_kok {own : String} {L : List (Nat × Value × Nat)} (h : L.all (nm_kchk own) = true) : (∀ ix v, am_ct L ix = some (.int v) → Cond.constant own ix v ∈ nm_Ts) ∧ ∀ ix v, am_ct L ix = some (.long v) → Cond.constantLong own ix v ∈ nm_Ts := by
  constructor
  · intro ix v hf
    unfold am_ct at hf
    cases hg : (L.find? (fun q => q.1 == ix)).map (fun q => q.2) with
    | none => rw [hg] at hf; cases hf
    | some r =>
      rw [hg] at hf
      have h1 := List.all_eq_true.mp h _ (nm_find hg)
      simp only [Option.map_some, Option.some.injEq] at hf
      unfold nm_kchk at h1
      simp only [hf] at h1
      exact nm_in (of_decide_eq_true h1) rfl
  · intro ix v hf
    unfold am_ct at hf
    cases hg : (L.find? (fun q => q.1 == ix)).map (fun q => q.2) with
    | none => rw [hg] at hf; cases hf
    | some r =>
      rw [hg] at hf
      have h1 := List.all_eq_true.mp h _ (nm_find hg)
      simp only [Option.map_some, Option.some.injEq] at hf
      unfold nm_kchk at h1
      simp only [hf] at h1
      exact nm_in (of_decide_eq_true h1) rfl
/-- a method: name, bytes, locals, answer; its kind, words taken, receiver's class; the places of its words (code, initialized, static or instanceMethod, selects) -/
abbrev nm_M : Type := (MethodName × ByteArray × Nat × Option FieldType) × Nat × Nat × Nat × Nat × Nat × Nat × Nat
def nm_mt (ml : List nm_M) : am_mt := fun y => (ml.getD y ((⟨"", "", ""⟩, ByteArray.empty, 0, none), 9, 0, 0, 0, 0, 0, 0)).1
def nm_mchk (ct : List nm_K) (q : nm_M) : Bool :=
  decide (lw_tbl[q.2.2.2.2.1]? = some (Cond.code q.1.1 q.1.2.1 q.1.2.2.1 q.1.2.2.2)) && (decide (lw_tbl[q.2.2.2.2.2.1]? = some (Cond.initialized q.1.1.cls)) && (decide (q.1.1.cls ≠ "java/lang/invoke/MethodHandle") && (decide (q.1.1.cls ≠ "java/lang/invoke/VarHandle") && match q.2.1 with
    | 0 => decide (lw_tbl[q.2.2.2.2.2.2.1]? = some (Cond.static q.1.1)) && decide ((parseMethodDescriptor q.1.1.desc).map (fun d => d.parameters.length) = some q.2.2.1)
    | 1 => decide (lw_tbl[q.2.2.2.2.2.2.1]? = some (Cond.instanceMethod q.1.1)) && (decide ((parseMethodDescriptor q.1.1.desc).map (fun d => d.parameters.length + 1) = some q.2.2.1) && match ct[q.2.2.2.1]? with
      | some r => decide (lw_tbl[q.2.2.2.2.2.2.2]? = some (Cond.selects r.1.1 q.1.1 q.1.1))
      | none => false)
    | 2 => decide (lw_tbl[q.2.2.2.2.2.2.1]? = some (Cond.instanceMethod q.1.1)) && (decide ((parseMethodDescriptor q.1.1.desc).map (fun d => d.parameters.length + 1) = some q.2.2.1) && (decide (q.1.1.name = "<init>") && decide (q.1.2.2.2 = none)))
    | _ => false)))
/-- calls by pool places: (place, (method, nest, word)) -/
abbrev nm_S : Type := Nat × Nat × Bool × Nat
def am_sl (ml : List nm_M) (L : List nm_S) (ix : Nat) : Option (Nat × Nat × Nat × Nat) := match (L.find? (fun q => q.1 == ix)).map (fun q => q.2) with
  | none => none
  | some (y, b, _) => match ml[y]? with
    | none => none
    | some q => some (if b then 3 else q.2.1, y, q.2.2.1, q.2.2.2.1)
def nm_schk (ct : List nm_K) (ml : List nm_M) (own : String) (q : nm_S) : Bool := match ml[q.2.1]? with
  | none => false
  | some r => nm_mchk ct r && (if q.2.2.1 then decide (r.2.1 = 0) && (match lw_tbl[q.2.2.2]? with
      | some (.methodLinkNest o i x _) => decide (o = own) && (decide (i = q.1) && decide (x = r.1.1))
      | _ => false) else decide (lw_tbl[q.2.2.2]? = some (Cond.methodLink own q.1 r.1.1)))
end
section
theorem nm_mt_at {ml : List nm_M} {y : Nat} {q : nm_M} (h : ml[y]? = some q) : nm_mt ml y = q.1 := by
  unfold nm_mt
  rw [List.getD_eq_getElem?_getD, h]
  rfl
set_option maxHeartbeats 4000000 in
theorem nm_sok {ct : List nm_K} {ml : List nm_M} {own : String} {L : List nm_S} (h : L.all (nm_schk ct ml own) = true) : am_Sw own nm_Ts nm_Tn (ct.map (fun q => q.1)) (nm_mt ml) (am_sl ml L) := by
  intro ix kd y k ci hs
  unfold am_sl at hs
  split at hs
  · cases hs
  · next y' b pos hf =>
    have hm := nm_find hf
    have h1 := List.all_eq_true.mp h _ hm
    split at hs
    · cases hs
    · next q hq =>
      simp only [Option.some.injEq, Prod.mk.injEq] at hs
      obtain ⟨e1, e2, e3, e4⟩ := hs
      subst e2
      subst e3
      subst e4
      unfold nm_schk at h1
      simp only [hq, Bool.and_eq_true] at h1
      obtain ⟨h2, h3⟩ := h1
      rw [nm_mt_at hq]
      unfold nm_mchk at h2
      simp only [Bool.and_eq_true, decide_eq_true_eq] at h2
      obtain ⟨m1, m2, m3, m4, m5⟩ := h2
      refine ⟨nm_in m1 rfl, nm_in m2 rfl, ⟨m3, m4⟩, fun e => ?_, fun e => ?_, fun e => ?_, fun e => ?_⟩
      · rw [e] at e1
        cases b with
        | true => simp at e1
        | false =>
          simp only [Bool.false_eq_true, if_false, decide_eq_true_eq] at h3 e1
          rw [e1] at m5
          simp only [Bool.and_eq_true, decide_eq_true_eq] at m5
          exact ⟨nm_in h3 rfl, nm_in m5.1 rfl, m5.2⟩
      · rw [e] at e1
        cases b with
        | true => simp at e1
        | false =>
          simp only [Bool.false_eq_true, if_false, decide_eq_true_eq] at h3 e1
          rw [e1] at m5
          simp only [Bool.and_eq_true, decide_eq_true_eq] at m5
          obtain ⟨m6, m7, m8⟩ := m5
          split at m8
          · next r hr =>
            exact ⟨nm_in h3 rfl, nm_in m6 rfl, m7, r.1.1, r.1.2.1, r.1.2.2, by rw [List.getElem?_map, hr]; rfl, nm_in (of_decide_eq_true m8) rfl⟩
          · cases m8
      · rw [e] at e1
        cases b with
        | true => simp at e1
        | false =>
          simp only [Bool.false_eq_true, if_false, decide_eq_true_eq] at h3 e1
          rw [e1] at m5
          simp only [Bool.and_eq_true, decide_eq_true_eq] at m5
          exact ⟨nm_in h3 rfl, nm_in m5.1 rfl, m5.2.1, m5.2.2.1, m5.2.2.2⟩
      · rw [e] at e1
        cases b with
        | true =>
          simp only [if_true, Bool.and_eq_true, decide_eq_true_eq] at h3
          obtain ⟨h4, h5⟩ := h3
          rw [h4] at m5
          simp only [Bool.and_eq_true, decide_eq_true_eq] at m5
          split at h5
          · next o i x host hw =>
            simp only [Bool.and_eq_true, decide_eq_true_eq] at h5
            obtain ⟨rfl, rfl, rfl⟩ := h5
            exact ⟨⟨host, nm_inN hw rfl⟩, nm_in m5.1 rfl, m5.2⟩
          · cases h5
        | false =>
          simp only [Bool.false_eq_true, if_false] at e1
          rw [e1] at m5
          cases m5
theorem nm_ok {ct : List nm_K} {ml : List nm_M} {fr lo : Nat → Nat} {x : Nat} {q : nm_M} {ini : Bool} {LI : List (Nat × Instr × Nat)} {LF : List nm_F} {LK : List (Nat × Value × Nat)} {LS : List nm_S} (hx : ml[x]? = some q) (hpl : plainName q.1.1.cls = true) (hct : ∀ q ∈ ct, nm_cok q)
    (hI : am_ic q.1.2.1 LI = true) (hini : ini = true → q.1.1.name = "<init>") (hF : LF.all (nm_fchk ct q.1.1.cls ini) = true) (hK : LK.all (nm_kchk q.1.1.cls) = true) (hS : LS.all (nm_schk ct ml q.1.1.cls) = true) (hR : LS.all (fun z => decide (fr z.2.1 + 1 ≤ fr x ∧ 8 + ((nm_mt ml z.2.1).2.2.1 + 11) + lo z.2.1 ≤ lo x)) = true) :
    am_ok nm_Ts nm_Tn (ct.map (fun q => q.1)) (nm_mt ml) fr lo x (am_in LI) (am_fl LF) (am_ct LK) (am_sl ml LS) := by
  unfold am_ok
  rw [nm_mt_at hx]
  refine ⟨hpl, fun meth hm => nm_fok hct hF (fun e => hm.trans (hini e)), am_in_ok hI, (nm_kok hK).1, (nm_kok hK).2, nm_sok hS, fun ix kd y k ci hs => ?_⟩
  unfold am_sl at hs
  split at hs
  · cases hs
  · next y' b pos hf =>
    have h1 := List.all_eq_true.mp hR _ (nm_find hf)
    split at hs
    · cases hs
    · simp only [Option.some.injEq, Prod.mk.injEq] at hs
      obtain ⟨-, rfl, -, -⟩ := hs
      simpa using h1
/-- things made, by pool places: (place, (class, fresh fields, words: classLink, instantiable, initialized)) -/
abbrev nm_N : Type := Nat × Nat × List Value × Nat × Nat × Nat
def am_nl (L : List nm_N) (ix : Nat) : Option (Nat × List Value) := ((L.find? (fun q => q.1 == ix)).map (fun q => q.2)).map (fun q => (q.1, q.2.1))
def nm_nchk (ct : List nm_K) (own : String) (q : nm_N) : Bool := match ct[q.2.1]? with
  | none => false
  | some r => decide (lw_tbl[q.2.2.2.1]? = some (Cond.classLink own q.1 r.1.1)) && (decide (lw_tbl[q.2.2.2.2.1]? = some (Cond.instantiable r.1.1 r.1.2.2)) && (decide (lw_tbl[q.2.2.2.2.2]? = some (Cond.initialized r.1.1)) && (decide (q.2.2.1.length = r.1.2.2) && ((List.range r.1.2.2).all (fun j => decide (defaultValue (r.2 j) = vp_V q.2.2.1 j)) && q.2.2.1.all (fun v => match v with
    | .ref _ => false
    | _ => true)))))
theorem nm_nok {ct : List nm_K} {own : String} {L : List nm_N} (hct : ∀ q ∈ ct, nm_cok q) (h : L.all (nm_nchk ct own) = true) : am_Nw own nm_Ts (ct.map (fun q => q.1)) (am_nl L) := by
  intro ix ci fs hf
  unfold am_nl at hf
  cases hg : (L.find? (fun q => q.1 == ix)).map (fun q => q.2) with
  | none => rw [hg] at hf; cases hf
  | some r =>
    rw [hg] at hf
    simp only [Option.map_some, Option.some.injEq, Prod.mk.injEq] at hf
    obtain ⟨rfl, rfl⟩ := hf
    have h1 := List.all_eq_true.mp h _ (nm_find hg)
    unfold nm_nchk at h1
    split at h1
    · cases h1
    · next q hq =>
      simp only [Bool.and_eq_true, decide_eq_true_eq] at h1
      obtain ⟨g1, g2, g3, g4, g5, g6⟩ := h1
      obtain ⟨c1, c2, c3⟩ := hct q (List.mem_of_getElem? hq)
      refine ⟨q.1.1, q.1.2.1, q.1.2.2, q.2, by rw [List.getElem?_map, hq]; rfl, c1, c2, nm_in g1 rfl, nm_in g2 rfl, nm_in g3 rfl, g4, fun j hj => ?_, fun v hv k e => ?_⟩
      · have := List.all_eq_true.mp g5 j (List.mem_range.mpr hj)
        simpa using this
      · have := List.all_eq_true.mp g6 v hv
        rw [e] at this
        cases this
/-- pool places of a kind: (place, word) -/
def am_pl (L : List (Nat × Nat)) (ix : Nat) : Bool := ((L.find? (fun q => q.1 == ix)).map (fun q => q.2)).isSome
theorem nm_pok {w : Nat → Cond} {L : List (Nat × Nat)} (hg : ∀ ix, goodWord (w ix) = true) (h : L.all (fun q => decide (lw_tbl[q.2]? = some (w q.1))) = true) : ∀ ix, am_pl L ix = true → w ix ∈ nm_Ts := by
  intro ix hx
  unfold am_pl at hx
  cases hgt : (L.find? (fun q => q.1 == ix)).map (fun q => q.2) with
  | none => rw [hgt] at hx; cases hx
  | some r =>
    have h1 := List.all_eq_true.mp h _ (nm_find hgt)
    exact nm_in (of_decide_eq_true h1) (hg ix)
end
section
/-! The classes whose objects the law makes: their fields (printed by wip/gen/gen.py out of the claim's words). -/
def nd_T0 : u_T := fun k => match k with
  | 0 => ("PaperParcels", "text", "LPaperParcels$Row;", true)
  | 1 => ("PaperParcels", "slots", "[LPaperParcels$Paper;", true)
  | 2 => ("PaperParcels", "reader", "LPaperParcels$Reader;", true)
  | 3 => ("PaperParcels", "script", "LPaperParcels$Script;", true)
  | _ => ("PaperParcels", "emitter", "LPaperParcels$Emitter;", true)
def nd_y0 : Nat → FieldType := fun k => match k with
  | 0 => .object "PaperParcels$Row"
  | 1 => .array (.object "PaperParcels$Paper")
  | 2 => .object "PaperParcels$Reader"
  | 3 => .object "PaperParcels$Script"
  | _ => .object "PaperParcels$Emitter"
theorem nd_w0 : ∀ w ∈ u_ws "PaperParcels" nd_T0 5, w ∈ nm_Ts := nm_wsok [517, 519, 521, 523, 525] (by decide +kernel)
theorem nd_p0 : ∀ j, j < 5 → parseFieldDescriptor (nd_T0 j).2.2.1 = some (nd_y0 j) := by decide +kernel
theorem nd_d0 : ∀ a, a < 5 → ∀ b, b < 5 → a ≠ b → (nd_T0 a).2.1 ≠ (nd_T0 b).2.1 := by decide +kernel
def nd_T1 : u_T := fun k => match k with
  | 0 => ("PaperParcels$Row", "cells", "[I", true)
  | 1 => ("PaperParcels$Row", "size", "I", false)
  | _ => ("PaperParcels$Row", "over", "Z", false)
def nd_y1 : Nat → FieldType := fun k => match k with
  | 0 => .array .int
  | 1 => .int
  | _ => .boolean
theorem nd_w1 : ∀ w ∈ u_ws "PaperParcels$Row" nd_T1 3, w ∈ nm_Ts := nm_wsok [168, 170, 172] (by decide +kernel)
theorem nd_p1 : ∀ j, j < 3 → parseFieldDescriptor (nd_T1 j).2.2.1 = some (nd_y1 j) := by decide +kernel
theorem nd_d1 : ∀ a, a < 3 → ∀ b, b < 3 → a ≠ b → (nd_T1 a).2.1 ≠ (nd_T1 b).2.1 := by decide +kernel
def nd_T2 : u_T := fun k => match k with
  | 0 => ("PaperParcels$Paper", "kinds", "[I", true)
  | 1 => ("PaperParcels$Paper", "aboves", "[I", true)
  | 2 => ("PaperParcels$Paper", "looks", "[I", true)
  | 3 => ("PaperParcels$Paper", "starts", "[I", true)
  | 4 => ("PaperParcels$Paper", "sizes", "[I", true)
  | 5 => ("PaperParcels$Paper", "signs", "LPaperParcels$Row;", true)
  | _ => ("PaperParcels$Paper", "count", "I", false)
def nd_y2 : Nat → FieldType := fun k => match k with
  | 0 => .array .int
  | 1 => .array .int
  | 2 => .array .int
  | 3 => .array .int
  | 4 => .array .int
  | 5 => .object "PaperParcels$Row"
  | _ => .int
theorem nd_w2 : ∀ w ∈ u_ws "PaperParcels$Paper" nd_T2 7, w ∈ nm_Ts := nm_wsok [211, 213, 215, 217, 219, 221, 223] (by decide +kernel)
theorem nd_p2 : ∀ j, j < 7 → parseFieldDescriptor (nd_T2 j).2.2.1 = some (nd_y2 j) := by decide +kernel
theorem nd_d2 : ∀ a, a < 7 → ∀ b, b < 7 → a ≠ b → (nd_T2 a).2.1 ≠ (nd_T2 b).2.1 := by decide +kernel
def nd_T3 : u_T := fun k => match k with
  | 0 => ("PaperParcels$Reader", "paper", "LPaperParcels$Paper;", true)
  | 1 => ("PaperParcels$Reader", "faultPlace", "I", false)
  | 2 => ("PaperParcels$Reader", "sheetPart", "LPaperParcels$Part;", true)
  | 3 => ("PaperParcels$Reader", "bodyPart", "LPaperParcels$Part;", true)
  | 4 => ("PaperParcels$Reader", "sheet", "LPaperParcels$Elements;", true)
  | 5 => ("PaperParcels$Reader", "body", "LPaperParcels$Elements;", true)
  | 6 => ("PaperParcels$Reader", "styles", "LPaperParcels$Styles;", true)
  | _ => ("PaperParcels$Reader", "builder", "LPaperParcels$Builder;", true)
def nd_y3 : Nat → FieldType := fun k => match k with
  | 0 => .object "PaperParcels$Paper"
  | 1 => .int
  | 2 => .object "PaperParcels$Part"
  | 3 => .object "PaperParcels$Part"
  | 4 => .object "PaperParcels$Elements"
  | 5 => .object "PaperParcels$Elements"
  | 6 => .object "PaperParcels$Styles"
  | _ => .object "PaperParcels$Builder"
theorem nd_w3 : ∀ w ∈ u_ws "PaperParcels$Reader" nd_T3 8, w ∈ nm_Ts := nm_wsok [385, 387, 389, 391, 393, 395, 397, 399] (by decide +kernel)
theorem nd_p3 : ∀ j, j < 8 → parseFieldDescriptor (nd_T3 j).2.2.1 = some (nd_y3 j) := by decide +kernel
theorem nd_d3 : ∀ a, a < 8 → ∀ b, b < 8 → a ≠ b → (nd_T3 a).2.1 ≠ (nd_T3 b).2.1 := by decide +kernel
def nd_T4 : u_T := fun k => match k with
  | 0 => ("PaperParcels$Part", "name", "I", true)
  | 1 => ("PaperParcels$Part", "content", "LPaperParcels$Row;", true)
  | 2 => ("PaperParcels$Part", "packed", "Z", false)
  | 3 => ("PaperParcels$Part", "dataAt", "I", false)
  | _ => ("PaperParcels$Part", "checkAt", "I", false)
def nd_y4 : Nat → FieldType := fun k => match k with
  | 0 => .int
  | 1 => .object "PaperParcels$Row"
  | 2 => .boolean
  | 3 => .int
  | _ => .int
theorem nd_w4 : ∀ w ∈ u_ws "PaperParcels$Part" nd_T4 5, w ∈ nm_Ts := nm_wsok [248, 250, 252, 254, 256] (by decide +kernel)
theorem nd_p4 : ∀ j, j < 5 → parseFieldDescriptor (nd_T4 j).2.2.1 = some (nd_y4 j) := by decide +kernel
theorem nd_d4 : ∀ a, a < 5 → ∀ b, b < 5 → a ≠ b → (nd_T4 a).2.1 ≠ (nd_T4 b).2.1 := by decide +kernel
def nd_T5 : u_T := fun k => match k with
  | 0 => ("PaperParcels$Elements", "content", "LPaperParcels$Row;", true)
  | 1 => ("PaperParcels$Elements", "kinds", "[I", true)
  | 2 => ("PaperParcels$Elements", "begins", "[I", true)
  | 3 => ("PaperParcels$Elements", "parents", "[I", true)
  | 4 => ("PaperParcels$Elements", "firstAttributes", "[I", true)
  | 5 => ("PaperParcels$Elements", "attributeEnds", "[I", true)
  | 6 => ("PaperParcels$Elements", "count", "I", false)
  | 7 => ("PaperParcels$Elements", "attributePlaces", "[I", true)
  | 8 => ("PaperParcels$Elements", "valueSizes", "[I", true)
  | 9 => ("PaperParcels$Elements", "attributes", "I", false)
  | 10 => ("PaperParcels$Elements", "owners", "[I", true)
  | 11 => ("PaperParcels$Elements", "at", "I", false)
  | 12 => ("PaperParcels$Elements", "open", "I", false)
  | _ => ("PaperParcels$Elements", "depth", "I", false)
def nd_y5 : Nat → FieldType := fun k => match k with
  | 0 => .object "PaperParcels$Row"
  | 1 => .array .int
  | 2 => .array .int
  | 3 => .array .int
  | 4 => .array .int
  | 5 => .array .int
  | 6 => .int
  | 7 => .array .int
  | 8 => .array .int
  | 9 => .int
  | 10 => .array .int
  | 11 => .int
  | 12 => .int
  | _ => .int
theorem nd_w5 : ∀ w ∈ u_ws "PaperParcels$Elements" nd_T5 14, w ∈ nm_Ts := nm_wsok [296, 298, 300, 302, 304, 306, 308, 310, 312, 314, 316, 318, 320, 322] (by decide +kernel)
theorem nd_p5 : ∀ j, j < 14 → parseFieldDescriptor (nd_T5 j).2.2.1 = some (nd_y5 j) := by decide +kernel
theorem nd_d5 : ∀ a, a < 14 → ∀ b, b < 14 → a ≠ b → (nd_T5 a).2.1 ≠ (nd_T5 b).2.1 := by decide +kernel
def nd_T6 : u_T := fun k => match k with
  | 0 => ("PaperParcels$Styles", "sheet", "LPaperParcels$Elements;", true)
  | 1 => ("PaperParcels$Styles", "body", "LPaperParcels$Elements;", true)
  | 2 => ("PaperParcels$Styles", "styleOf", "[I", true)
  | 3 => ("PaperParcels$Styles", "givenB", "[I", true)
  | 4 => ("PaperParcels$Styles", "givenZ", "[I", true)
  | _ => ("PaperParcels$Styles", "givenK", "[I", true)
def nd_y6 : Nat → FieldType := fun k => match k with
  | 0 => .object "PaperParcels$Elements"
  | 1 => .object "PaperParcels$Elements"
  | 2 => .array .int
  | 3 => .array .int
  | 4 => .array .int
  | _ => .array .int
theorem nd_w6 : ∀ w ∈ u_ws "PaperParcels$Styles" nd_T6 6, w ∈ nm_Ts := nm_wsok [337, 339, 341, 343, 345, 347] (by decide +kernel)
theorem nd_p6 : ∀ j, j < 6 → parseFieldDescriptor (nd_T6 j).2.2.1 = some (nd_y6 j) := by decide +kernel
theorem nd_d6 : ∀ a, a < 6 → ∀ b, b < 6 → a ≠ b → (nd_T6 a).2.1 ≠ (nd_T6 b).2.1 := by decide +kernel
def nd_T7 : u_T := fun k => match k with
  | 0 => ("PaperParcels$Builder", "body", "LPaperParcels$Elements;", true)
  | 1 => ("PaperParcels$Builder", "styles", "LPaperParcels$Styles;", true)
  | 2 => ("PaperParcels$Builder", "paper", "LPaperParcels$Paper;", true)
  | 3 => ("PaperParcels$Builder", "elementLooks", "[I", true)
  | 4 => ("PaperParcels$Builder", "elementNodes", "[I", true)
  | _ => ("PaperParcels$Builder", "paragraph", "I", false)
def nd_y7 : Nat → FieldType := fun k => match k with
  | 0 => .object "PaperParcels$Elements"
  | 1 => .object "PaperParcels$Styles"
  | 2 => .object "PaperParcels$Paper"
  | 3 => .array .int
  | 4 => .array .int
  | _ => .int
theorem nd_w7 : ∀ w ∈ u_ws "PaperParcels$Builder" nd_T7 6, w ∈ nm_Ts := nm_wsok [362, 364, 366, 368, 370, 372] (by decide +kernel)
theorem nd_p7 : ∀ j, j < 6 → parseFieldDescriptor (nd_T7 j).2.2.1 = some (nd_y7 j) := by decide +kernel
theorem nd_d7 : ∀ a, a < 6 → ∀ b, b < 6 → a ≠ b → (nd_T7 a).2.1 ≠ (nd_T7 b).2.1 := by decide +kernel
def nd_T8 : u_T := fun k => match k with
  | 0 => ("PaperParcels$Script", "found", "Z", false)
  | 1 => ("PaperParcels$Script", "count", "I", false)
  | 2 => ("PaperParcels$Script", "oldNodes", "[I", true)
  | 3 => ("PaperParcels$Script", "freshNodes", "[I", true)
  | 4 => ("PaperParcels$Script", "insertRows", "[I", true)
  | 5 => ("PaperParcels$Script", "insertPlaces", "[I", true)
  | 6 => ("PaperParcels$Script", "old", "LPaperParcels$Tree;", true)
  | 7 => ("PaperParcels$Script", "fresh", "LPaperParcels$Tree;", true)
  | 8 => ("PaperParcels$Script", "result", "LPaperParcels$Paper;", true)
  | 9 => ("PaperParcels$Script", "costs", "[[I", true)
  | 10 => ("PaperParcels$Script", "rowCosts", "[[I", true)
  | 11 => ("PaperParcels$Script", "fates", "[I", true)
  | 12 => ("PaperParcels$Script", "copies", "[I", true)
  | _ => ("PaperParcels$Script", "applied", "I", false)
def nd_y8 : Nat → FieldType := fun k => match k with
  | 0 => .boolean
  | 1 => .int
  | 2 => .array .int
  | 3 => .array .int
  | 4 => .array .int
  | 5 => .array .int
  | 6 => .object "PaperParcels$Tree"
  | 7 => .object "PaperParcels$Tree"
  | 8 => .object "PaperParcels$Paper"
  | 9 => .array (.array .int)
  | 10 => .array (.array .int)
  | 11 => .array .int
  | 12 => .array .int
  | _ => .int
theorem nd_w8 : ∀ w ∈ u_ws "PaperParcels$Script" nd_T8 14, w ∈ nm_Ts := nm_wsok [455, 457, 459, 461, 463, 465, 467, 469, 471, 473, 475, 477, 479, 481] (by decide +kernel)
theorem nd_p8 : ∀ j, j < 14 → parseFieldDescriptor (nd_T8 j).2.2.1 = some (nd_y8 j) := by decide +kernel
theorem nd_d8 : ∀ a, a < 14 → ∀ b, b < 14 → a ≠ b → (nd_T8 a).2.1 ≠ (nd_T8 b).2.1 := by decide +kernel
def nd_T9 : u_T := fun k => match k with
  | 0 => ("PaperParcels$Tree", "paper", "LPaperParcels$Paper;", true)
  | 1 => ("PaperParcels$Tree", "firsts", "[I", true)
  | 2 => ("PaperParcels$Tree", "nexts", "[I", true)
  | 3 => ("PaperParcels$Tree", "weights", "[I", true)
  | _ => ("PaperParcels$Tree", "rowWeights", "[I", true)
def nd_y9 : Nat → FieldType := fun k => match k with
  | 0 => .object "PaperParcels$Paper"
  | 1 => .array .int
  | 2 => .array .int
  | 3 => .array .int
  | _ => .array .int
theorem nd_w9 : ∀ w ∈ u_ws "PaperParcels$Tree" nd_T9 5, w ∈ nm_Ts := nm_wsok [424, 426, 428, 430, 432] (by decide +kernel)
theorem nd_p9 : ∀ j, j < 5 → parseFieldDescriptor (nd_T9 j).2.2.1 = some (nd_y9 j) := by decide +kernel
theorem nd_d9 : ∀ a, a < 5 → ∀ b, b < 5 → a ≠ b → (nd_T9 a).2.1 ≠ (nd_T9 b).2.1 := by decide +kernel
def nd_T10 : u_T := fun k => match k with
  | 0 => ("PaperParcels$Emitter", "whole", "LPaperParcels$Row;", true)
  | 1 => ("PaperParcels$Emitter", "sheet", "LPaperParcels$Row;", true)
  | 2 => ("PaperParcels$Emitter", "body", "LPaperParcels$Row;", true)
  | 3 => ("PaperParcels$Emitter", "data", "LPaperParcels$Row;", true)
  | 4 => ("PaperParcels$Emitter", "needed", "[I", true)
  | _ => ("PaperParcels$Emitter", "neededCount", "I", false)
def nd_y10 : Nat → FieldType := fun k => match k with
  | 0 => .object "PaperParcels$Row"
  | 1 => .object "PaperParcels$Row"
  | 2 => .object "PaperParcels$Row"
  | 3 => .object "PaperParcels$Row"
  | 4 => .array .int
  | _ => .int
theorem nd_w10 : ∀ w ∈ u_ws "PaperParcels$Emitter" nd_T10 6, w ∈ nm_Ts := nm_wsok [499, 501, 503, 505, 507, 509] (by decide +kernel)
theorem nd_p10 : ∀ j, j < 6 → parseFieldDescriptor (nd_T10 j).2.2.1 = some (nd_y10 j) := by decide +kernel
theorem nd_d10 : ∀ a, a < 6 → ∀ b, b < 6 → a ≠ b → (nd_T10 a).2.1 ≠ (nd_T10 b).2.1 := by decide +kernel
def nd_T11 : u_T := fun k => match k with
  | 0 => ("PaperParcelsModel", "thrown", "I", false)
  | 1 => ("PaperParcelsModel", "text", "[I", true)
  | 2 => ("PaperParcelsModel", "length", "I", false)
  | 3 => ("PaperParcelsModel", "wrongAt", "I", false)
  | 4 => ("PaperParcelsModel", "method", "[I", true)
  | 5 => ("PaperParcelsModel", "dataFrom", "[I", true)
  | 6 => ("PaperParcelsModel", "dataSize", "[I", true)
  | 7 => ("PaperParcelsModel", "content", "[I", true)
  | 8 => ("PaperParcelsModel", "size", "[I", true)
  | 9 => ("PaperParcelsModel", "elements", "[I", true)
  | 10 => ("PaperParcelsModel", "kinds", "[I", true)
  | 11 => ("PaperParcelsModel", "starts", "[I", true)
  | 12 => ("PaperParcelsModel", "around", "[I", true)
  | 13 => ("PaperParcelsModel", "owner", "[I", true)
  | 14 => ("PaperParcelsModel", "pile", "[I", true)
  | 15 => ("PaperParcelsModel", "open", "I", false)
  | 16 => ("PaperParcelsModel", "reached", "I", false)
  | 17 => ("PaperParcelsModel", "right", "Z", false)
  | 18 => ("PaperParcelsModel", "closed", "Z", false)
  | 19 => ("PaperParcelsModel", "named", "[Z", true)
  | 20 => ("PaperParcelsModel", "parent", "[I", true)
  | 21 => ("PaperParcelsModel", "gives", "[I", true)
  | 22 => ("PaperParcelsModel", "count", "[I", true)
  | 23 => ("PaperParcelsModel", "node", "[I", true)
  | 24 => ("PaperParcelsModel", "over", "[I", true)
  | 25 => ("PaperParcelsModel", "looks", "[I", true)
  | 26 => ("PaperParcelsModel", "from", "[I", true)
  | 27 => ("PaperParcelsModel", "many", "[I", true)
  | 28 => ("PaperParcelsModel", "lettersOf", "[I", true)
  | 29 => ("PaperParcelsModel", "letters", "[I", true)
  | 30 => ("PaperParcelsModel", "nodeOf", "[I", true)
  | 31 => ("PaperParcelsModel", "hasScript", "Z", false)
  | 32 => ("PaperParcelsModel", "steps", "I", false)
  | 33 => ("PaperParcelsModel", "olds", "[I", true)
  | 34 => ("PaperParcelsModel", "news", "[I", true)
  | 35 => ("PaperParcelsModel", "rows", "[I", true)
  | 36 => ("PaperParcelsModel", "befores", "[I", true)
  | 37 => ("PaperParcelsModel", "weight", "[I", true)
  | 38 => ("PaperParcelsModel", "cost", "[I", true)
  | 39 => ("PaperParcelsModel", "rowA", "[I", true)
  | 40 => ("PaperParcelsModel", "rowB", "[I", true)
  | 41 => ("PaperParcelsModel", "sizeA", "I", false)
  | 42 => ("PaperParcelsModel", "sizeB", "I", false)
  | 43 => ("PaperParcelsModel", "least", "[I", true)
  | 44 => ("PaperParcelsModel", "pairA", "[I", true)
  | 45 => ("PaperParcelsModel", "pairB", "[I", true)
  | 46 => ("PaperParcelsModel", "nextA", "[I", true)
  | 47 => ("PaperParcelsModel", "nextB", "[I", true)
  | 48 => ("PaperParcelsModel", "gone", "[Z", true)
  | 49 => ("PaperParcelsModel", "changed", "[I", true)
  | 50 => ("PaperParcelsModel", "renamed", "[I", true)
  | 51 => ("PaperParcelsModel", "made", "[I", true)
  | 52 => ("PaperParcelsModel", "madeSize", "[I", true)
  | 53 => ("PaperParcelsModel", "packed", "[I", true)
  | 54 => ("PaperParcelsModel", "packedSize", "[I", true)
  | 55 => ("PaperParcelsModel", "needed", "[I", true)
  | _ => ("PaperParcelsModel", "neededCount", "I", false)
def nd_y11 : Nat → FieldType := fun k => match k with
  | 0 => .int
  | 1 => .array .int
  | 2 => .int
  | 3 => .int
  | 4 => .array .int
  | 5 => .array .int
  | 6 => .array .int
  | 7 => .array .int
  | 8 => .array .int
  | 9 => .array .int
  | 10 => .array .int
  | 11 => .array .int
  | 12 => .array .int
  | 13 => .array .int
  | 14 => .array .int
  | 15 => .int
  | 16 => .int
  | 17 => .boolean
  | 18 => .boolean
  | 19 => .array .boolean
  | 20 => .array .int
  | 21 => .array .int
  | 22 => .array .int
  | 23 => .array .int
  | 24 => .array .int
  | 25 => .array .int
  | 26 => .array .int
  | 27 => .array .int
  | 28 => .array .int
  | 29 => .array .int
  | 30 => .array .int
  | 31 => .boolean
  | 32 => .int
  | 33 => .array .int
  | 34 => .array .int
  | 35 => .array .int
  | 36 => .array .int
  | 37 => .array .int
  | 38 => .array .int
  | 39 => .array .int
  | 40 => .array .int
  | 41 => .int
  | 42 => .int
  | 43 => .array .int
  | 44 => .array .int
  | 45 => .array .int
  | 46 => .array .int
  | 47 => .array .int
  | 48 => .array .boolean
  | 49 => .array .int
  | 50 => .array .int
  | 51 => .array .int
  | 52 => .array .int
  | 53 => .array .int
  | 54 => .array .int
  | 55 => .array .int
  | _ => .int
theorem nd_w11 : ∀ w ∈ u_ws "PaperParcelsModel" nd_T11 57, w ∈ nm_Ts := nm_wsok [1280, 1282, 1284, 1286, 1288, 1290, 1292, 1294, 1296, 1298, 1300, 1302, 1304, 1306, 1308, 1310, 1312, 1314, 1316, 1318, 1320, 1322, 1324, 1326, 1328, 1330, 1332, 1334, 1336, 1338, 1340, 1342, 1344, 1346, 1348, 1350, 1352, 1354, 1356, 1358, 1360, 1362, 1364, 1366, 1368, 1370, 1372, 1374, 1376, 1378, 1380, 1382, 1384, 1386, 1388, 1390, 1392] (by decide +kernel)
theorem nd_p11 : ∀ j, j < 57 → parseFieldDescriptor (nd_T11 j).2.2.1 = some (nd_y11 j) := by decide +kernel
theorem nd_d11 : ∀ a, a < 57 → ∀ b, b < 57 → a ≠ b → (nd_T11 a).2.1 ≠ (nd_T11 b).2.1 := by decide +kernel
def nd_ct : List nm_K := [(("PaperParcels", nd_T0, 5), nd_y0), (("PaperParcels$Row", nd_T1, 3), nd_y1), (("PaperParcels$Paper", nd_T2, 7), nd_y2), (("PaperParcels$Reader", nd_T3, 8), nd_y3), (("PaperParcels$Part", nd_T4, 5), nd_y4), (("PaperParcels$Elements", nd_T5, 14), nd_y5), (("PaperParcels$Styles", nd_T6, 6), nd_y6), (("PaperParcels$Builder", nd_T7, 6), nd_y7), (("PaperParcels$Script", nd_T8, 14), nd_y8), (("PaperParcels$Tree", nd_T9, 5), nd_y9), (("PaperParcels$Emitter", nd_T10, 6), nd_y10), (("PaperParcelsModel", nd_T11, 57), nd_y11)]
abbrev nd_cl : List vw_C := nd_ct.map (fun q => q.1)
theorem nd_cok : ∀ q ∈ nd_ct, nm_cok q := List.forall_mem_cons.mpr ⟨⟨nd_w0, nd_p0, nd_d0⟩, List.forall_mem_cons.mpr ⟨⟨nd_w1, nd_p1, nd_d1⟩, List.forall_mem_cons.mpr ⟨⟨nd_w2, nd_p2, nd_d2⟩, List.forall_mem_cons.mpr ⟨⟨nd_w3, nd_p3, nd_d3⟩, List.forall_mem_cons.mpr ⟨⟨nd_w4, nd_p4, nd_d4⟩, List.forall_mem_cons.mpr ⟨⟨nd_w5, nd_p5, nd_d5⟩, List.forall_mem_cons.mpr ⟨⟨nd_w6, nd_p6, nd_d6⟩, List.forall_mem_cons.mpr ⟨⟨nd_w7, nd_p7, nd_d7⟩, List.forall_mem_cons.mpr ⟨⟨nd_w8, nd_p8, nd_d8⟩, List.forall_mem_cons.mpr ⟨⟨nd_w9, nd_p9, nd_d9⟩, List.forall_mem_cons.mpr ⟨⟨nd_w10, nd_p10, nd_d10⟩, List.forall_mem_cons.mpr ⟨⟨nd_w11, nd_p11, nd_d11⟩, fun _ h => absurd h List.not_mem_nil⟩⟩⟩⟩⟩⟩⟩⟩⟩⟩⟩⟩
end
section
/-! The methods by numbers (printed by wip/gen/gen.py). -/
def nd_ml_0 : List nm_M := [
  ((⟨"PaperParcels", "<init>", "()V"⟩, prog_1_method_1_code, 1, none), 2, 1, 0, 146, 116, 145, 0),
  ((⟨"java/lang/Object", "<init>", "()V"⟩, object_method_1_code, 1, none), 9, 1, 99, 149, 0, 148, 0),
  ((⟨"PaperParcels$Row", "<init>", "(I)V"⟩, prog_8_method_1_code, 2, none), 2, 2, 1, 154, 117, 153, 0),
  ((⟨"PaperParcels$Paper", "<init>", "(II)V"⟩, prog_5_method_1_code, 3, none), 2, 3, 2, 181, 118, 180, 0),
  ((⟨"PaperParcels$Reader", "<init>", "()V"⟩, prog_7_method_1_code, 1, none), 2, 1, 3, 230, 119, 229, 0),
  ((⟨"PaperParcels$Part", "<init>", "(I)V"⟩, prog_6_method_1_code, 2, none), 2, 2, 4, 238, 120, 237, 0),
  ((⟨"PaperParcels$Elements", "<init>", "(LPaperParcels$Row;)V"⟩, prog_3_method_1_code, 2, none), 2, 2, 5, 263, 121, 262, 0),
  ((⟨"PaperParcels$Styles", "<init>", "(LPaperParcels$Elements;LPaperParcels$Elements;)V"⟩, prog_11_method_1_code, 3, none), 2, 3, 6, 329, 122, 328, 0),
  ((⟨"PaperParcels$Builder", "<init>", "(LPaperParcels$Elements;LPaperParcels$Styles;LPaperParcels$Paper;)V"⟩, prog_2_method_1_code, 4, none), 2, 4, 7, 354, 123, 353, 0),
  ((⟨"PaperParcels$Script", "<init>", "(LPaperParcels$Paper;LPaperParcels$Paper;LPaperParcels$Paper;)V"⟩, prog_10_method_1_code, 4, none), 2, 4, 8, 406, 124, 405, 0),
  ((⟨"PaperParcels$Tree", "<init>", "(LPaperParcels$Paper;)V"⟩, prog_12_method_1_code, 2, none), 2, 2, 9, 412, 125, 411, 0),
  ((⟨"PaperParcels$Emitter", "<init>", "()V"⟩, prog_4_method_1_code, 1, none), 2, 1, 10, 488, 126, 487, 0),
  ((⟨"PaperParcels", "write", "(J)Z"⟩, prog_1_method_2_code, 6, (some .boolean)), 1, 2, 0, 531, 116, 529, 530),
  ((⟨"PaperParcels$Row", "put", "(I)V"⟩, prog_8_method_3_code, 2, none), 1, 2, 1, 535, 117, 533, 534),
  ((⟨"PaperParcels", "wipe", "()I"⟩, prog_1_method_3_code, 2, (some .int)), 1, 1, 0, 539, 116, 537, 538),
  ((⟨"PaperParcels$Row", "clear", "()V"⟩, prog_8_method_2_code, 1, none), 1, 1, 1, 543, 117, 541, 542),
  ((⟨"PaperParcels", "length", "()I"⟩, prog_1_method_4_code, 1, (some .int)), 1, 1, 0, 547, 116, 545, 546),
  ((⟨"PaperParcels", "character", "(I)I"⟩, prog_1_method_5_code, 2, (some .int)), 1, 2, 0, 551, 116, 549, 550),
  ((⟨"PaperParcels$Row", "at", "(I)I"⟩, prog_8_method_6_code, 2, (some .int)), 1, 2, 1, 555, 117, 553, 554),
  ((⟨"PaperParcels", "place", "()I"⟩, prog_1_method_7_code, 1, (some .int)), 1, 1, 0, 559, 116, 557, 558),
  ((⟨"PaperParcels", "steps", "()I"⟩, prog_1_method_15_code, 1, (some .int)), 1, 1, 0, 563, 116, 561, 562),
  ((⟨"PaperParcels", "read", "(I)I"⟩, prog_1_method_6_code, 3, (some .int)), 1, 2, 0, 571, 116, 569, 570),
  ((⟨"java/lang/Throwable", "<init>", "()V"⟩, prog_24_method_1_code, 1, none), 2, 1, 99, 596, 128, 595, 0),
  ((⟨"java/lang/IllegalArgumentException", "<init>", "()V"⟩, prog_16_method_1_code, 1, none), 2, 1, 99, 616, 131, 615, 0),
  ((⟨"java/lang/RuntimeException", "<init>", "()V"⟩, prog_20_method_1_code, 1, none), 2, 1, 99, 619, 130, 618, 0),
  ((⟨"java/lang/Exception", "<init>", "()V"⟩, prog_15_method_1_code, 1, none), 2, 1, 99, 622, 129, 621, 0),
  ((⟨"PaperParcels$Reader", "findFault", "(LPaperParcels$Row;)I"⟩, prog_7_method_2_code, 3, (some .int)), 1, 2, 3, 639, 119, 637, 638),
  ((⟨"PaperParcels$Reader", "packageFault", "(LPaperParcels$Row;)I"⟩, prog_7_method_5_code, 3, (some .int)), 1, 2, 3, 643, 119, 642, 1),
  ((⟨"PaperParcels$Part", "scan", "(LPaperParcels$Row;I)I"⟩, prog_6_method_2_code, 6, (some .int)), 1, 3, 4, 647, 120, 645, 646),
  ((⟨"PaperParcels", "isDigit", "(I)Z"⟩, prog_1_method_22_code, 1, (some .boolean)), 0, 1, 0, 651, 116, 650, 0),
  ((⟨"PaperParcels$Part", "isHex", "(I)Z"⟩, prog_6_method_4_code, 1, (some .boolean)), 0, 1, 4, 654, 120, 653, 0),
  ((⟨"java/lang/Math", "min", "(II)I"⟩, prog_19_method_69_code, 2, (some .int)), 0, 2, 99, 657, 132, 656, 0),
  ((⟨"PaperParcels$Part", "end", "()I"⟩, prog_6_method_3_code, 1, (some .int)), 1, 1, 4, 661, 120, 659, 660),
  ((⟨"PaperParcels$Reader", "isFault", "(I)Z"⟩, prog_7_method_3_code, 2, (some .boolean)), 1, 2, 3, 665, 119, 664, 2),
  ((⟨"PaperParcels$Reader", "contentFault", "(LPaperParcels$Part;LPaperParcels$Row;)I"⟩, prog_7_method_6_code, 3, (some .int)), 1, 3, 3, 669, 119, 668, 3),
  ((⟨"PaperParcels$Part", "unpack", "(LPaperParcels$Row;)I"⟩, prog_6_method_5_code, 4, (some .int)), 1, 2, 4, 673, 120, 671, 672),
  ((⟨"PaperParcels$Part", "follow", "(LPaperParcels$Row;I)Z"⟩, prog_6_method_6_code, 6, (some .boolean)), 1, 3, 4, 678, 120, 677, 4),
  ((⟨"PaperParcels$Part", "checkFault", "(LPaperParcels$Row;)I"⟩, prog_6_method_7_code, 4, (some .int)), 1, 2, 4, 683, 120, 681, 682),
  ((⟨"PaperParcels$Row", "checkSum", "()I"⟩, prog_8_method_7_code, 5, (some .int)), 1, 1, 1, 687, 117, 685, 686),
  ((⟨"PaperParcels", "hexDigit", "(I)I"⟩, prog_1_method_25_code, 1, (some .int)), 0, 1, 0, 692, 116, 691, 0)]
def nd_ml_1 : List nm_M := [
  ((⟨"PaperParcels$Elements", "parse", "()I"⟩, prog_3_method_2_code, 4, (some .int)), 1, 1, 5, 696, 121, 694, 695),
  ((⟨"java/util/Arrays", "fill", "([II)V"⟩, prog_26_method_103_code, 4, none), 0, 2, 99, 699, 133, 698, 0),
  ((⟨"PaperParcels$Elements", "takeBegin", "()Z"⟩, prog_3_method_4_code, 4, (some .boolean)), 1, 1, 5, 704, 121, 703, 5),
  ((⟨"PaperParcels", "isSmall", "(I)Z"⟩, prog_1_method_23_code, 1, (some .boolean)), 0, 1, 0, 707, 116, 706, 0),
  ((⟨"PaperParcels$Elements", "addElement", "(I)I"⟩, prog_3_method_5_code, 2, (some .int)), 1, 2, 5, 711, 121, 710, 6),
  ((⟨"PaperParcels$Elements", "takeAttribute", "(I)Z"⟩, prog_3_method_7_code, 5, (some .boolean)), 1, 2, 5, 715, 121, 714, 7),
  ((⟨"PaperParcels$Elements", "attribute", "(II)I"⟩, prog_3_method_10_code, 4, (some .int)), 1, 3, 5, 719, 121, 717, 718),
  ((⟨"PaperParcels$Elements", "take", "(I)Z"⟩, prog_3_method_8_code, 2, (some .boolean)), 1, 2, 5, 723, 121, 722, 8),
  ((⟨"PaperParcels$Elements", "isOfValue", "(I)Z"⟩, prog_3_method_9_code, 1, (some .boolean)), 0, 1, 5, 726, 121, 725, 0),
  ((⟨"PaperParcels", "isCapital", "(I)Z"⟩, prog_1_method_24_code, 1, (some .boolean)), 0, 1, 0, 729, 116, 728, 0),
  ((⟨"PaperParcels$Elements", "takeEnd", "()Z"⟩, prog_3_method_6_code, 1, (some .boolean)), 1, 1, 5, 734, 121, 733, 9),
  ((⟨"PaperParcels$Elements", "takeLetter", "(I)Z"⟩, prog_3_method_3_code, 2, (some .boolean)), 1, 2, 5, 738, 121, 737, 10),
  ((⟨"PaperParcels$Reader", "inBody", "(I)I"⟩, prog_7_method_4_code, 1, (some .int)), 0, 1, 3, 741, 119, 740, 0),
  ((⟨"PaperParcels$Rules", "firstFault", "(LPaperParcels$Elements;I)I"⟩, prog_9_method_2_code, 4, (some .int)), 0, 2, 99, 744, 134, 743, 0),
  ((⟨"PaperParcels$Rules", "faultOf", "(LPaperParcels$Elements;II)I"⟩, prog_9_method_3_code, 7, (some .int)), 0, 3, 99, 747, 134, 746, 0),
  ((⟨"PaperParcels$Rules", "mayStandIn", "(II)Z"⟩, prog_9_method_4_code, 2, (some .boolean)), 0, 2, 99, 750, 134, 749, 0),
  ((⟨"PaperParcels$Rules", "mayHave", "(LPaperParcels$Elements;II)Z"⟩, prog_9_method_5_code, 6, (some .boolean)), 0, 3, 99, 753, 134, 752, 0),
  ((⟨"PaperParcels$Elements", "valueSign", "(II)I"⟩, prog_3_method_11_code, 3, (some .int)), 1, 3, 5, 758, 121, 756, 757),
  ((⟨"PaperParcels$Elements", "firstLetter", "(I)I"⟩, prog_3_method_13_code, 3, (some .int)), 1, 2, 5, 765, 121, 763, 764),
  ((⟨"PaperParcels$Rules", "lacksElement", "(LPaperParcels$Elements;I)Z"⟩, prog_9_method_6_code, 3, (some .boolean)), 0, 2, 99, 768, 134, 767, 0),
  ((⟨"PaperParcels$Elements", "hasDirectlyIn", "(III)Z"⟩, prog_3_method_14_code, 5, (some .boolean)), 1, 4, 5, 772, 121, 770, 771),
  ((⟨"PaperParcels$Styles", "firstFault", "()I"⟩, prog_11_method_2_code, 3, (some .int)), 1, 1, 6, 776, 122, 774, 775),
  ((⟨"PaperParcels$Styles", "firstNamedAgain", "()I"⟩, prog_11_method_3_code, 3, (some .int)), 1, 1, 6, 780, 122, 779, 11),
  ((⟨"PaperParcels$Styles", "nameIn", "(LPaperParcels$Elements;II)I"⟩, prog_11_method_7_code, 4, (some .int)), 0, 3, 6, 784, 122, 783, 0),
  ((⟨"PaperParcels$Styles", "firstWithoutName", "(LPaperParcels$Elements;I)I"⟩, prog_11_method_4_code, 5, (some .int)), 1, 3, 6, 791, 122, 790, 12),
  ((⟨"PaperParcels$Styles", "firstWithoutEnd", "()I"⟩, prog_11_method_5_code, 4, (some .int)), 1, 1, 6, 795, 122, 794, 13),
  ((⟨"PaperParcels$Styles", "parentOf", "(I)I"⟩, prog_11_method_6_code, 3, (some .int)), 1, 2, 6, 799, 122, 798, 14),
  ((⟨"PaperParcels$Styles", "settle", "()V"⟩, prog_11_method_8_code, 2, none), 1, 1, 6, 803, 122, 801, 802),
  ((⟨"PaperParcels$Styles", "given", "(II)I"⟩, prog_11_method_9_code, 6, (some .int)), 1, 3, 6, 807, 122, 806, 15),
  ((⟨"PaperParcels$Elements", "valueNumber", "(I)I"⟩, prog_3_method_12_code, 4, (some .int)), 1, 2, 5, 811, 121, 809, 810),
  ((⟨"PaperParcels$Builder", "build", "()Z"⟩, prog_2_method_2_code, 4, (some .boolean)), 1, 1, 7, 816, 123, 814, 815),
  ((⟨"PaperParcels$Paper", "clear", "()V"⟩, prog_5_method_2_code, 1, none), 1, 1, 2, 820, 118, 818, 819),
  ((⟨"PaperParcels$Builder", "addElement", "(I)Z"⟩, prog_2_method_3_code, 4, (some .boolean)), 1, 2, 7, 825, 123, 824, 16),
  ((⟨"PaperParcels$Styles", "lookOf", "(II)I"⟩, prog_11_method_10_code, 7, (some .int)), 1, 3, 6, 829, 122, 827, 828),
  ((⟨"PaperParcels", "numberOfLook", "(II)I"⟩, prog_1_method_21_code, 2, (some .int)), 0, 2, 0, 832, 116, 831, 0),
  ((⟨"PaperParcels$Paper", "add", "(III)Z"⟩, prog_5_method_3_code, 4, (some .boolean)), 1, 4, 2, 836, 118, 834, 835),
  ((⟨"PaperParcels$Builder", "addLetter", "(II)Z"⟩, prog_2_method_4_code, 3, (some .boolean)), 1, 3, 7, 841, 123, 840, 17),
  ((⟨"PaperParcels$Paper", "endsInRun", "(I)Z"⟩, prog_5_method_8_code, 2, (some .boolean)), 1, 2, 2, 845, 118, 843, 844),
  ((⟨"PaperParcels$Paper", "addSign", "(I)V"⟩, prog_5_method_4_code, 2, none), 1, 2, 2, 849, 118, 847, 848),
  ((⟨"PaperParcels$Paper", "copyFrom", "(LPaperParcels$Paper;)V"⟩, prog_5_method_6_code, 3, none), 1, 2, 2, 854, 118, 852, 853)]
def nd_ml_2 : List nm_M := [
  ((⟨"PaperParcels$Paper", "addCopy", "(LPaperParcels$Paper;II)V"⟩, prog_5_method_5_code, 5, none), 1, 4, 2, 859, 118, 857, 858),
  ((⟨"PaperParcels$Script", "drop", "()V"⟩, prog_10_method_2_code, 1, none), 1, 1, 8, 865, 124, 863, 864),
  ((⟨"PaperParcels", "nodes", "(I)I"⟩, prog_1_method_8_code, 2, (some .int)), 1, 2, 0, 872, 116, 870, 871),
  ((⟨"PaperParcels", "inSlot", "(I)LPaperParcels$Paper;"⟩, prog_1_method_19_code, 2, (some (.object "PaperParcels$Paper"))), 1, 2, 0, 876, 116, 875, 18),
  ((⟨"PaperParcels", "kind", "(II)I"⟩, prog_1_method_9_code, 3, (some .int)), 1, 3, 0, 884, 116, 882, 883),
  ((⟨"PaperParcels", "withNode", "(LPaperParcels$Paper;I)LPaperParcels$Paper;"⟩, prog_1_method_20_code, 2, (some (.object "PaperParcels$Paper"))), 0, 2, 0, 887, 116, 886, 0),
  ((⟨"java/lang/IndexOutOfBoundsException", "<init>", "()V"⟩, prog_18_method_1_code, 1, none), 2, 1, 99, 899, 135, 898, 0),
  ((⟨"PaperParcels", "above", "(II)I"⟩, prog_1_method_10_code, 3, (some .int)), 1, 3, 0, 909, 116, 907, 908),
  ((⟨"PaperParcels", "look", "(III)I"⟩, prog_1_method_11_code, 6, (some .int)), 1, 4, 0, 916, 116, 914, 915),
  ((⟨"PaperParcels", "letters", "(II)I"⟩, prog_1_method_12_code, 3, (some .int)), 1, 3, 0, 924, 116, 922, 923),
  ((⟨"PaperParcels", "letter", "(III)I"⟩, prog_1_method_13_code, 4, (some .int)), 1, 4, 0, 931, 116, 929, 930),
  ((⟨"PaperParcels$Paper", "signAt", "(II)I"⟩, prog_5_method_7_code, 3, (some .int)), 1, 3, 2, 935, 118, 933, 934),
  ((⟨"PaperParcels", "compare", "()I"⟩, prog_1_method_14_code, 1, (some .int)), 1, 1, 0, 943, 116, 941, 942),
  ((⟨"java/lang/IllegalStateException", "<init>", "()V"⟩, prog_17_method_1_code, 1, none), 2, 1, 99, 955, 136, 954, 0),
  ((⟨"PaperParcels$Script", "find", "()I"⟩, prog_10_method_3_code, 1, (some .int)), 1, 1, 8, 962, 124, 960, 961),
  ((⟨"PaperParcels$Tree", "link", "()V"⟩, prog_12_method_2_code, 3, none), 1, 1, 9, 966, 125, 964, 965),
  ((⟨"PaperParcels$Script", "fillCosts", "()V"⟩, prog_10_method_4_code, 4, none), 1, 1, 8, 970, 124, 969, 19),
  ((⟨"PaperParcels$Script", "costTakingOut", "(II)I"⟩, prog_10_method_5_code, 3, (some .int)), 1, 3, 8, 974, 124, 973, 20),
  ((⟨"PaperParcels$Script", "costPuttingIn", "(II)I"⟩, prog_10_method_6_code, 3, (some .int)), 1, 3, 8, 978, 124, 977, 21),
  ((⟨"PaperParcels$Script", "sameKind", "(II)Z"⟩, prog_10_method_8_code, 3, (some .boolean)), 1, 3, 8, 983, 124, 982, 22),
  ((⟨"PaperParcels$Script", "costOfChange", "(II)I"⟩, prog_10_method_9_code, 3, (some .int)), 1, 3, 8, 987, 124, 986, 23),
  ((⟨"PaperParcels$Script", "sameSigns", "(II)Z"⟩, prog_10_method_10_code, 5, (some .boolean)), 1, 3, 8, 991, 124, 990, 24),
  ((⟨"PaperParcels$Script", "costTogether", "(II)I"⟩, prog_10_method_7_code, 3, (some .int)), 1, 3, 8, 996, 124, 995, 25),
  ((⟨"PaperParcels$Script", "addSteps", "()V"⟩, prog_10_method_11_code, 6, none), 1, 1, 8, 1001, 124, 1000, 26),
  ((⟨"PaperParcels$Script", "addChange", "(II)V"⟩, prog_10_method_12_code, 3, none), 1, 3, 8, 1005, 124, 1004, 27),
  ((⟨"PaperParcels$Script", "addStep", "(IIII)V"⟩, prog_10_method_14_code, 5, none), 1, 5, 8, 1009, 124, 1008, 28),
  ((⟨"PaperParcels$Script", "isLeastTogether", "(II)Z"⟩, prog_10_method_13_code, 3, (some .boolean)), 1, 3, 8, 1013, 124, 1012, 29),
  ((⟨"PaperParcels", "step", "(IZ)I"⟩, prog_1_method_16_code, 3, (some .int)), 1, 3, 0, 1020, 116, 1018, 1019),
  ((⟨"PaperParcels", "apply", "(I)I"⟩, prog_1_method_17_code, 2, (some .int)), 1, 2, 0, 1027, 116, 1025, 1026),
  ((⟨"PaperParcels$Script", "carryOut", "(I)V"⟩, prog_10_method_15_code, 3, none), 1, 2, 8, 1031, 124, 1029, 1030),
  ((⟨"PaperParcels$Script", "copyRows", "()V"⟩, prog_10_method_16_code, 4, none), 1, 1, 8, 1037, 124, 1036, 30),
  ((⟨"PaperParcels$Script", "endRows", "(II)V"⟩, prog_10_method_18_code, 5, none), 1, 3, 8, 1041, 124, 1040, 31),
  ((⟨"PaperParcels$Script", "putIn", "(II)V"⟩, prog_10_method_19_code, 4, none), 1, 3, 8, 1045, 124, 1044, 32),
  ((⟨"PaperParcels$Script", "copyFresh", "(II)V"⟩, prog_10_method_20_code, 5, none), 1, 3, 8, 1049, 124, 1048, 33),
  ((⟨"PaperParcels$Script", "copyOld", "(II)V"⟩, prog_10_method_17_code, 3, none), 1, 3, 8, 1054, 124, 1053, 34),
  ((⟨"PaperParcels", "emit", "(II)I"⟩, prog_1_method_18_code, 4, (some .int)), 1, 3, 0, 1062, 116, 1060, 1061),
  ((⟨"PaperParcels$Emitter", "compose", "(LPaperParcels$Paper;I)Z"⟩, prog_4_method_2_code, 3, (some .boolean)), 1, 3, 10, 1066, 126, 1064, 1065),
  ((⟨"PaperParcels$Emitter", "gatherLooks", "(LPaperParcels$Paper;)Z"⟩, prog_4_method_3_code, 3, (some .boolean)), 1, 2, 10, 1070, 126, 1069, 35),
  ((⟨"PaperParcels$Emitter", "needsLook", "(LPaperParcels$Paper;I)Z"⟩, prog_4_method_4_code, 3, (some .boolean)), 0, 2, 10, 1073, 126, 1072, 0),
  ((⟨"PaperParcels$Emitter", "styleFor", "(I)I"⟩, prog_4_method_5_code, 3, (some .int)), 1, 2, 10, 1077, 126, 1076, 36)]
def nd_ml_3 : List nm_M := [
  ((⟨"PaperParcels$Emitter", "putSheet", "()V"⟩, prog_4_method_6_code, 2, none), 1, 1, 10, 1081, 126, 1080, 37),
  ((⟨"PaperParcels$Row", "putText", "(Ljava/lang/String;)V"⟩, prog_8_method_4_code, 3, none), 1, 2, 1, 1087, 117, 1085, 1086),
  ((⟨"java/lang/String", "length", "()I"⟩, prog_21_method_54_code, 1, (some .int)), 9, 1, 99, 1091, 137, 1089, 1090),
  ((⟨"java/lang/String", "coder", "()B"⟩, prog_21_method_152_code, 1, (some .byte)), 9, 1, 99, 1095, 137, 1093, 1094),
  ((⟨"java/lang/String", "charAt", "(I)C"⟩, prog_21_method_56_code, 2, (some .char)), 9, 2, 99, 1101, 137, 1099, 1100),
  ((⟨"java/lang/String", "isLatin1", "()Z"⟩, prog_21_method_154_code, 1, (some .boolean)), 9, 1, 99, 1105, 137, 1103, 1104),
  ((⟨"java/lang/StringLatin1", "charAt", "([BI)C"⟩, prog_22_method_2_code, 2, (some .char)), 0, 2, 99, 1108, 138, 1107, 0),
  ((⟨"java/lang/String", "checkIndex", "(II)V"⟩, prog_21_method_155_code, 2, none), 0, 2, 99, 1111, 137, 1110, 0),
  ((⟨"jdk/internal/util/Preconditions", "checkIndex", "(IILjava/util/function/BiFunction;)I"⟩, prog_27_method_11_code, 3, (some .int)), 0, 3, 99, 1116, 139, 1115, 0),
  ((⟨"java/lang/StringUTF16", "charAt", "([BI)C"⟩, prog_23_method_83_code, 2, (some .char)), 0, 2, 99, 1119, 140, 1118, 0),
  ((⟨"java/lang/StringUTF16", "checkIndex", "(I[B)V"⟩, prog_23_method_91_code, 2, none), 0, 2, 99, 1122, 140, 1121, 0),
  ((⟨"java/lang/StringUTF16", "length", "([B)I"⟩, prog_23_method_6_code, 1, (some .int)), 0, 1, 99, 1125, 140, 1124, 0),
  ((⟨"java/lang/StringUTF16", "getChar", "([BI)C"⟩, prog_23_method_5_code, 2, (some .char)), 0, 2, 99, 1129, 140, 1128, 0),
  ((⟨"PaperParcels$Emitter", "putStyle", "(I)V"⟩, prog_4_method_7_code, 3, none), 1, 2, 10, 1141, 126, 1140, 38),
  ((⟨"PaperParcels$Emitter", "putBody", "(LPaperParcels$Paper;)V"⟩, prog_4_method_8_code, 4, none), 1, 2, 10, 1153, 126, 1152, 39),
  ((⟨"PaperParcels$Emitter", "putEnds", "(LPaperParcels$Paper;II)V"⟩, prog_4_method_9_code, 6, none), 1, 4, 10, 1157, 126, 1156, 40),
  ((⟨"PaperParcels$Emitter", "putEnd", "(LPaperParcels$Paper;I)V"⟩, prog_4_method_11_code, 3, none), 1, 3, 10, 1161, 126, 1160, 41),
  ((⟨"PaperParcels$Emitter", "putRun", "(LPaperParcels$Paper;I)V"⟩, prog_4_method_12_code, 5, none), 1, 3, 10, 1168, 126, 1167, 42),
  ((⟨"PaperParcels$Emitter", "putBegin", "(LPaperParcels$Paper;I)V"⟩, prog_4_method_10_code, 3, none), 1, 3, 10, 1172, 126, 1171, 43),
  ((⟨"PaperParcels$Paper", "isEmptyNode", "(I)Z"⟩, prog_5_method_9_code, 2, (some .boolean)), 1, 2, 2, 1177, 118, 1175, 1176),
  ((⟨"PaperParcels$Emitter", "putPart", "(ILPaperParcels$Row;I)V"⟩, prog_4_method_13_code, 6, none), 1, 4, 10, 1182, 126, 1181, 44),
  ((⟨"PaperParcels$Emitter", "pack", "(LPaperParcels$Row;)V"⟩, prog_4_method_14_code, 5, none), 1, 2, 10, 1186, 126, 1185, 45),
  ((⟨"PaperParcels$Emitter", "bestBack", "(LPaperParcels$Row;I)I"⟩, prog_4_method_15_code, 6, (some .int)), 0, 2, 10, 1189, 126, 1188, 0),
  ((⟨"PaperParcels$Emitter", "sameFrom", "(LPaperParcels$Row;II)I"⟩, prog_4_method_16_code, 4, (some .int)), 0, 3, 10, 1192, 126, 1191, 0),
  ((⟨"PaperParcels$Row", "putAll", "(LPaperParcels$Row;)V"⟩, prog_8_method_5_code, 3, none), 1, 2, 1, 1197, 117, 1195, 1196),
  ((⟨"java/lang/UnsupportedOperationException", "<init>", "()V"⟩, prog_25_method_1_code, 1, none), 2, 1, 99, 1211, 141, 1210, 0),
  ((⟨"PaperParcelsModel", "<init>", "()V"⟩, prog_14_method_1_code, 1, none), 2, 1, 11, 1221, 127, 1220, 0),
  ((⟨"PaperParcelsModel", "thrown", "()I"⟩, prog_14_method_2_code, 1, (some .int)), 1, 1, 11, 1399, 127, 1397, 1398),
  ((⟨"PaperParcelsModel", "write", "(J)Z"⟩, prog_14_method_4_code, 7, (some .boolean)), 1, 2, 11, 1403, 127, 1401, 1402),
  ((⟨"PaperParcelsModel", "wipe", "()I"⟩, prog_14_method_5_code, 2, (some .int)), 1, 1, 11, 1408, 127, 1406, 1407),
  ((⟨"PaperParcelsModel", "length", "()I"⟩, prog_14_method_6_code, 1, (some .int)), 1, 1, 11, 1412, 127, 1410, 1411),
  ((⟨"PaperParcelsModel", "character", "(I)I"⟩, prog_14_method_7_code, 2, (some .int)), 1, 2, 11, 1416, 127, 1414, 1415),
  ((⟨"PaperParcelsModel", "read", "(I)I"⟩, prog_14_method_55_code, 4, (some .int)), 1, 2, 11, 1420, 127, 1418, 1419),
  ((⟨"PaperParcelsModel", "textFault", "()I"⟩, prog_14_method_53_code, 4, (some .int)), 1, 1, 11, 1424, 127, 1423, 46),
  ((⟨"PaperParcelsModel", "outline", "()I"⟩, prog_14_method_13_code, 4, (some .int)), 1, 1, 11, 1428, 127, 1427, 47),
  ((⟨"PaperParcelsModel", "charAt", "(I)I"⟩, prog_14_method_8_code, 2, (some .int)), 1, 2, 11, 1432, 127, 1431, 48),
  ((⟨"PaperParcelsModel", "isDigit", "(I)Z"⟩, prog_14_method_9_code, 1, (some .boolean)), 0, 1, 11, 1435, 127, 1434, 0),
  ((⟨"PaperParcelsModel", "hex", "(I)I"⟩, prog_14_method_12_code, 1, (some .int)), 0, 1, 11, 1438, 127, 1437, 0),
  ((⟨"PaperParcelsModel", "fail", "(II)I"⟩, prog_14_method_50_code, 3, (some .int)), 1, 3, 11, 1442, 127, 1441, 49),
  ((⟨"PaperParcelsModel", "partFault", "(I)I"⟩, prog_14_method_51_code, 3, (some .int)), 1, 2, 11, 1446, 127, 1445, 50)]
def nd_ml_4 : List nm_M := [
  ((⟨"PaperParcelsModel", "unpack", "(I)I"⟩, prog_14_method_15_code, 9, (some .int)), 1, 2, 11, 1450, 127, 1449, 51),
  ((⟨"PaperParcelsModel", "reference", "(III)I"⟩, prog_14_method_14_code, 5, (some .int)), 1, 4, 11, 1454, 127, 1453, 52),
  ((⟨"PaperParcelsModel", "isChecked", "(I)Z"⟩, prog_14_method_17_code, 5, (some .boolean)), 1, 2, 11, 1458, 127, 1457, 53),
  ((⟨"PaperParcelsModel", "checked", "(II)I"⟩, prog_14_method_16_code, 4, (some .int)), 0, 2, 11, 1462, 127, 1461, 0),
  ((⟨"PaperParcelsModel", "scan", "(I)I"⟩, prog_14_method_24_code, 3, (some .int)), 1, 2, 11, 1467, 127, 1466, 54),
  ((⟨"PaperParcelsModel", "in", "(II)I"⟩, prog_14_method_18_code, 3, (some .int)), 1, 3, 11, 1471, 127, 1470, 55),
  ((⟨"PaperParcelsModel", "passEnd", "(I)V"⟩, prog_14_method_23_code, 3, none), 1, 2, 11, 1475, 127, 1474, 56),
  ((⟨"PaperParcelsModel", "stop", "(I)V"⟩, prog_14_method_20_code, 2, none), 1, 2, 11, 1479, 127, 1478, 57),
  ((⟨"PaperParcelsModel", "passBeginning", "(I)V"⟩, prog_14_method_22_code, 5, none), 1, 2, 11, 1483, 127, 1482, 58),
  ((⟨"PaperParcelsModel", "isSmall", "(I)Z"⟩, prog_14_method_11_code, 1, (some .boolean)), 0, 1, 11, 1486, 127, 1485, 0),
  ((⟨"PaperParcelsModel", "passAttribute", "(II)I"⟩, prog_14_method_21_code, 5, (some .int)), 1, 3, 11, 1490, 127, 1489, 59),
  ((⟨"PaperParcelsModel", "isPlain", "(I)Z"⟩, prog_14_method_19_code, 1, (some .boolean)), 0, 1, 11, 1493, 127, 1492, 0),
  ((⟨"PaperParcelsModel", "isCapital", "(I)Z"⟩, prog_14_method_10_code, 1, (some .boolean)), 0, 1, 11, 1496, 127, 1495, 0),
  ((⟨"PaperParcelsModel", "documentFault", "()I"⟩, prog_14_method_54_code, 3, (some .int)), 1, 1, 11, 1500, 127, 1499, 60),
  ((⟨"PaperParcelsModel", "elementFault", "(I)I"⟩, prog_14_method_52_code, 4, (some .int)), 1, 2, 11, 1504, 127, 1503, 61),
  ((⟨"PaperParcelsModel", "misfit", "(II)I"⟩, prog_14_method_33_code, 8, (some .int)), 1, 3, 11, 1508, 127, 1507, 62),
  ((⟨"PaperParcelsModel", "stands", "(II)Z"⟩, prog_14_method_26_code, 5, (some .boolean)), 1, 3, 11, 1512, 127, 1511, 63),
  ((⟨"PaperParcelsModel", "kindOver", "(II)I"⟩, prog_14_method_25_code, 4, (some .int)), 1, 3, 11, 1516, 127, 1515, 64),
  ((⟨"PaperParcelsModel", "badAttribute", "(II)I"⟩, prog_14_method_30_code, 5, (some .int)), 1, 3, 11, 1520, 127, 1519, 65),
  ((⟨"PaperParcelsModel", "pastValue", "(II)I"⟩, prog_14_method_29_code, 4, (some .int)), 1, 3, 11, 1524, 127, 1523, 66),
  ((⟨"PaperParcelsModel", "may", "(IIIII)Z"⟩, prog_14_method_27_code, 9, (some .boolean)), 1, 6, 11, 1528, 127, 1527, 67),
  ((⟨"PaperParcelsModel", "valueAt", "(III)I"⟩, prog_14_method_28_code, 6, (some .int)), 1, 4, 11, 1532, 127, 1531, 68),
  ((⟨"PaperParcelsModel", "firstLetter", "(II)I"⟩, prog_14_method_31_code, 4, (some .int)), 1, 3, 11, 1536, 127, 1535, 69),
  ((⟨"PaperParcelsModel", "has", "(IIII)Z"⟩, prog_14_method_32_code, 8, (some .boolean)), 1, 5, 11, 1540, 127, 1539, 70),
  ((⟨"PaperParcelsModel", "noteStyles", "()I"⟩, prog_14_method_37_code, 3, (some .int)), 1, 1, 11, 1544, 127, 1543, 71),
  ((⟨"PaperParcelsModel", "capital", "(III)I"⟩, prog_14_method_34_code, 5, (some .int)), 1, 4, 11, 1548, 127, 1547, 72),
  ((⟨"PaperParcelsModel", "number", "(II)I"⟩, prog_14_method_35_code, 5, (some .int)), 1, 3, 11, 1552, 127, 1551, 73),
  ((⟨"PaperParcelsModel", "ends", "(I)Z"⟩, prog_14_method_36_code, 4, (some .boolean)), 1, 2, 11, 1556, 127, 1555, 74),
  ((⟨"PaperParcelsModel", "unknownStyle", "()I"⟩, prog_14_method_38_code, 3, (some .int)), 1, 1, 11, 1560, 127, 1559, 75),
  ((⟨"PaperParcelsModel", "form", "()V"⟩, prog_14_method_47_code, 4, none), 1, 1, 11, 1564, 127, 1563, 76),
  ((⟨"PaperParcelsModel", "addNode", "(III)V"⟩, prog_14_method_41_code, 6, none), 1, 4, 11, 1568, 127, 1567, 77),
  ((⟨"PaperParcelsModel", "formParagraph", "(I)V"⟩, prog_14_method_46_code, 6, none), 1, 2, 11, 1572, 127, 1571, 78),
  ((⟨"PaperParcelsModel", "giveLook", "(II)V"⟩, prog_14_method_45_code, 4, none), 1, 3, 11, 1576, 127, 1575, 79),
  ((⟨"PaperParcelsModel", "lookOf", "(II)I"⟩, prog_14_method_40_code, 6, (some .int)), 1, 3, 11, 1580, 127, 1579, 80),
  ((⟨"PaperParcelsModel", "given", "(II)I"⟩, prog_14_method_39_code, 4, (some .int)), 1, 3, 11, 1584, 127, 1583, 81),
  ((⟨"PaperParcelsModel", "paragraphOf", "(I)I"⟩, prog_14_method_43_code, 3, (some .int)), 1, 2, 11, 1588, 127, 1587, 82),
  ((⟨"PaperParcelsModel", "hasLook", "(II)Z"⟩, prog_14_method_44_code, 5, (some .boolean)), 1, 3, 11, 1592, 127, 1591, 83),
  ((⟨"PaperParcelsModel", "addLetter", "(II)V"⟩, prog_14_method_42_code, 3, none), 1, 3, 11, 1596, 127, 1595, 84),
  ((⟨"PaperParcelsModel", "copyNode", "(IIII)V"⟩, prog_14_method_48_code, 5, none), 1, 5, 11, 1600, 127, 1599, 85),
  ((⟨"PaperParcelsModel", "copyInside", "(IIII)V"⟩, prog_14_method_49_code, 7, none), 1, 5, 11, 1604, 127, 1603, 86)]
def nd_ml_5 : List nm_M := [
  ((⟨"PaperParcelsModel", "place", "()I"⟩, prog_14_method_56_code, 1, (some .int)), 1, 1, 11, 1608, 127, 1606, 1607),
  ((⟨"PaperParcelsModel", "nodes", "(I)I"⟩, prog_14_method_58_code, 2, (some .int)), 1, 2, 11, 1612, 127, 1610, 1611),
  ((⟨"PaperParcelsModel", "isSlot", "(I)Z"⟩, prog_14_method_57_code, 1, (some .boolean)), 0, 1, 11, 1615, 127, 1614, 0),
  ((⟨"PaperParcelsModel", "kind", "(II)I"⟩, prog_14_method_60_code, 3, (some .int)), 1, 3, 11, 1619, 127, 1617, 1618),
  ((⟨"PaperParcelsModel", "isNode", "(II)Z"⟩, prog_14_method_59_code, 3, (some .boolean)), 1, 3, 11, 1623, 127, 1622, 87),
  ((⟨"PaperParcelsModel", "above", "(II)I"⟩, prog_14_method_61_code, 3, (some .int)), 1, 3, 11, 1627, 127, 1625, 1626),
  ((⟨"PaperParcelsModel", "look", "(III)I"⟩, prog_14_method_62_code, 4, (some .int)), 1, 4, 11, 1631, 127, 1629, 1630),
  ((⟨"PaperParcelsModel", "refuse", "(I)I"⟩, prog_14_method_3_code, 2, (some .int)), 1, 2, 11, 1635, 127, 1634, 88),
  ((⟨"PaperParcelsModel", "letters", "(II)I"⟩, prog_14_method_63_code, 3, (some .int)), 1, 3, 11, 1639, 127, 1637, 1638),
  ((⟨"PaperParcelsModel", "letter", "(III)I"⟩, prog_14_method_64_code, 4, (some .int)), 1, 4, 11, 1643, 127, 1641, 1642),
  ((⟨"PaperParcelsModel", "compare", "()I"⟩, prog_14_method_74_code, 2, (some .int)), 1, 1, 11, 1647, 127, 1645, 1646),
  ((⟨"PaperParcelsModel", "weigh", "(I)V"⟩, prog_14_method_65_code, 3, none), 1, 2, 11, 1651, 127, 1650, 89),
  ((⟨"PaperParcelsModel", "costs", "()V"⟩, prog_14_method_70_code, 3, none), 1, 1, 11, 1655, 127, 1654, 90),
  ((⟨"PaperParcelsModel", "lay", "(II)V"⟩, prog_14_method_69_code, 9, none), 1, 3, 11, 1659, 127, 1658, 91),
  ((⟨"PaperParcelsModel", "isPair", "(II)Z"⟩, prog_14_method_68_code, 3, (some .boolean)), 1, 3, 11, 1664, 127, 1663, 92),
  ((⟨"PaperParcelsModel", "change", "(II)I"⟩, prog_14_method_67_code, 5, (some .int)), 1, 3, 11, 1668, 127, 1667, 93),
  ((⟨"PaperParcelsModel", "sameLetters", "(II)Z"⟩, prog_14_method_66_code, 5, (some .boolean)), 1, 3, 11, 1672, 127, 1671, 94),
  ((⟨"PaperParcelsModel", "beginPair", "(III)V"⟩, prog_14_method_72_code, 4, none), 1, 4, 11, 1676, 127, 1675, 95),
  ((⟨"PaperParcelsModel", "addStep", "(IIII)V"⟩, prog_14_method_71_code, 5, none), 1, 5, 11, 1680, 127, 1679, 96),
  ((⟨"PaperParcelsModel", "goOn", "(I)Z"⟩, prog_14_method_73_code, 6, (some .boolean)), 1, 2, 11, 1684, 127, 1683, 97),
  ((⟨"PaperParcelsModel", "steps", "()I"⟩, prog_14_method_75_code, 1, (some .int)), 1, 1, 11, 1688, 127, 1686, 1687),
  ((⟨"PaperParcelsModel", "step", "(IZ)I"⟩, prog_14_method_76_code, 3, (some .int)), 1, 3, 11, 1692, 127, 1690, 1691),
  ((⟨"PaperParcelsModel", "apply", "(I)I"⟩, prog_14_method_81_code, 4, (some .int)), 1, 2, 11, 1696, 127, 1694, 1695),
  ((⟨"PaperParcelsModel", "mark", "(I)V"⟩, prog_14_method_79_code, 4, none), 1, 2, 11, 1700, 127, 1699, 98),
  ((⟨"PaperParcelsModel", "endOf", "(II)I"⟩, prog_14_method_77_code, 6, (some .int)), 1, 3, 11, 1704, 127, 1703, 99),
  ((⟨"PaperParcelsModel", "putIn", "(III)V"⟩, prog_14_method_78_code, 9, none), 1, 4, 11, 1708, 127, 1707, 100),
  ((⟨"PaperParcelsModel", "keep", "(I)V"⟩, prog_14_method_80_code, 3, none), 1, 2, 11, 1712, 127, 1711, 101),
  ((⟨"PaperParcelsModel", "emit", "(II)I"⟩, prog_14_method_97_code, 3, (some .int)), 1, 3, 11, 1716, 127, 1714, 1715),
  ((⟨"PaperParcelsModel", "sayStyles", "(I)V"⟩, prog_14_method_87_code, 4, none), 1, 2, 11, 1720, 127, 1719, 102),
  ((⟨"PaperParcelsModel", "needs", "(II)Z"⟩, prog_14_method_85_code, 5, (some .boolean)), 1, 3, 11, 1724, 127, 1723, 103),
  ((⟨"PaperParcelsModel", "placeOfLook", "(II)I"⟩, prog_14_method_86_code, 5, (some .int)), 1, 3, 11, 1728, 127, 1727, 104),
  ((⟨"PaperParcelsModel", "sayAll", "(IJ)V"⟩, prog_14_method_83_code, 6, none), 1, 3, 11, 1733, 127, 1732, 105),
  ((⟨"PaperParcelsModel", "say", "(II)V"⟩, prog_14_method_82_code, 3, none), 1, 3, 11, 1737, 127, 1736, 106),
  ((⟨"PaperParcelsModel", "sayAttribute", "(IIII)V"⟩, prog_14_method_84_code, 5, none), 1, 5, 11, 1744, 127, 1743, 107),
  ((⟨"PaperParcelsModel", "sayNodes", "(I)V"⟩, prog_14_method_90_code, 6, none), 1, 2, 11, 1749, 127, 1748, 108),
  ((⟨"PaperParcelsModel", "letterOf", "(I)I"⟩, prog_14_method_88_code, 1, (some .int)), 0, 1, 11, 1753, 127, 1752, 0),
  ((⟨"PaperParcelsModel", "sayRun", "(II)V"⟩, prog_14_method_89_code, 5, none), 1, 3, 11, 1757, 127, 1756, 109),
  ((⟨"PaperParcelsModel", "pack", "(II)V"⟩, prog_14_method_93_code, 8, none), 1, 3, 11, 1763, 127, 1762, 110),
  ((⟨"PaperParcelsModel", "alike", "(III)I"⟩, prog_14_method_91_code, 5, (some .int)), 1, 4, 11, 1767, 127, 1766, 111),
  ((⟨"PaperParcelsModel", "put", "(II)V"⟩, prog_14_method_92_code, 3, none), 1, 3, 11, 1771, 127, 1770, 112)]
def nd_ml_6 : List nm_M := [
  ((⟨"PaperParcelsModel", "typePart", "(II)V"⟩, prog_14_method_96_code, 5, none), 1, 3, 11, 1775, 127, 1774, 113),
  ((⟨"PaperParcelsModel", "type", "(I)V"⟩, prog_14_method_94_code, 2, none), 1, 2, 11, 1779, 127, 1778, 114),
  ((⟨"PaperParcelsModel", "hexDigit", "(I)I"⟩, prog_14_method_95_code, 1, (some .int)), 0, 1, 11, 1782, 127, 1781, 0)]
def nd_ml : List nm_M := nd_ml_0 ++ (nd_ml_1 ++ (nd_ml_2 ++ (nd_ml_3 ++ (nd_ml_4 ++ (nd_ml_5 ++ (nd_ml_6))))))
abbrev nd_mt : am_mt := nm_mt nd_ml
def nd_frL : List Nat := [4, 0, 1, 2, 3, 2, 1, 1, 1, 2, 1, 2, 1, 0, 1, 0, 0, 1, 0, 0, 0, 7, 1, 4, 3, 2, 6, 3, 2, 0, 1, 0, 0, 0, 3, 2, 1, 1, 0, 0, 4, 0, 3, 0, 1, 2, 1, 1, 1, 0, 2, 0, 0, 4, 3, 0, 2, 1, 0, 1, 0, 5, 3, 2, 3, 4, 3, 5, 4, 2, 5, 1, 4, 3, 0, 0, 2, 0, 1, 2, 1, 0, 7, 6, 7, 6, 4, 7, 7, 7, 7, 1, 7, 4, 6, 0, 4, 0, 0, 0, 3, 2, 0, 5, 4, 0, 1, 6, 7, 6, 5, 4, 3, 2, 2, 10, 9, 1, 0, 0, 7, 5, 1, 0, 4, 0, 2, 1, 0, 3, 2, 0, 1, 6, 8, 7, 6, 7, 6, 0, 4, 3, 2, 1, 1, 4, 1, 0, 0, 0, 0, 0, 9, 5, 2, 0, 0, 1, 0, 3, 2, 1, 2, 0, 4, 0, 1, 0, 3, 0, 2, 1, 0, 8, 4, 3, 1, 0, 2, 1, 1, 2, 0, 0, 4, 3, 3, 0, 4, 7, 0, 6, 5, 4, 0, 0, 5, 0, 2, 1, 0, 1, 0, 2, 1, 2, 2, 0, 2, 2, 4, 0, 2, 1, 0, 1, 0, 2, 0, 3, 0, 0, 4, 0, 0, 3, 3, 4, 2, 0, 0, 1, 0, 1, 3, 0, 2, 1, 0, 0, 1, 0, 0]
def nd_loL : List Nat := [83, 0, 20, 41, 63, 41, 20, 20, 20, 41, 20, 41, 21, 0, 20, 0, 0, 21, 0, 0, 0, 161, 20, 80, 60, 40, 139, 65, 40, 0, 20, 0, 0, 0, 69, 46, 21, 24, 0, 0, 91, 0, 68, 0, 21, 44, 21, 21, 20, 0, 42, 0, 0, 94, 68, 0, 43, 21, 0, 24, 0, 112, 67, 44, 67, 89, 67, 114, 89, 43, 116, 20, 93, 67, 0, 0, 42, 0, 21, 47, 23, 0, 121, 100, 121, 100, 80, 121, 121, 121, 121, 21, 156, 80, 136, 0, 89, 0, 0, 0, 67, 43, 0, 111, 89, 0, 22, 100, 163, 141, 118, 94, 71, 47, 47, 220, 198, 22, 0, 0, 150, 106, 20, 0, 85, 0, 43, 22, 0, 64, 43, 0, 20, 128, 175, 150, 128, 150, 128, 0, 93, 69, 44, 21, 21, 80, 20, 0, 0, 0, 0, 0, 213, 110, 40, 0, 0, 20, 0, 72, 44, 20, 40, 0, 88, 0, 22, 0, 64, 0, 40, 20, 0, 191, 101, 74, 23, 0, 50, 22, 22, 45, 0, 0, 94, 70, 70, 0, 94, 168, 0, 143, 119, 94, 0, 0, 119, 0, 48, 22, 0, 20, 0, 42, 20, 42, 42, 0, 42, 42, 96, 0, 50, 22, 0, 24, 0, 48, 0, 71, 0, 0, 100, 0, 0, 72, 72, 96, 47, 0, 0, 22, 0, 22, 71, 0, 47, 24, 0, 0, 23, 0, 0]
def nd_fr (y : Nat) : Nat := nd_frL.getD y 0
def nd_lo (y : Nat) : Nat := nd_loL.getD y 0
def nd_f0 : List nm_F := [(50, 1, 1, 0, 160), (96, 2, 0, 9, 188), (100, 2, 1, 9, 192), (103, 2, 2, 9, 197), (110, 2, 4, 9, 202), (89, 2, 6, 0, 210), (71, 3, 0, 9, 376), (82, 3, 1, 0, 378), (133, 8, 0, 1, 438), (123, 8, 1, 0, 440), (130, 8, 2, 9, 442), (127, 8, 3, 9, 444), (147, 10, 0, 9, 493), (14, 0, 0, 9, 512), (20, 0, 1, 9, 513), (30, 0, 2, 9, 514), (39, 0, 3, 9, 515), (46, 0, 4, 9, 516)]
theorem nd_f0_ok : nd_f0.all (nm_fchk nd_ct "PaperParcels" false) = true := by decide +kernel
def nd_fi0 : List nm_F := [(50, 1, 1, 0, 160), (96, 2, 0, 9, 188), (100, 2, 1, 9, 192), (103, 2, 2, 9, 197), (110, 2, 4, 9, 202), (89, 2, 6, 0, 210), (71, 3, 0, 9, 376), (82, 3, 1, 0, 378), (133, 8, 0, 1, 438), (123, 8, 1, 0, 440), (130, 8, 2, 9, 442), (127, 8, 3, 9, 444), (147, 10, 0, 9, 493), (14, 0, 0, 3, 512), (20, 0, 1, 3, 513), (30, 0, 2, 3, 514), (39, 0, 3, 3, 515), (46, 0, 4, 3, 516)]
theorem nd_fi0_ok : nd_fi0.all (nm_fchk nd_ct "PaperParcels" true) = true := by decide +kernel
def nd_k0 : List (Nat × Value × Nat) := []
theorem nd_k0_ok : nd_k0.all (nm_kchk "PaperParcels") = true := by decide +kernel
def nd_f1 : List nm_F := [(9, 1, 0, 9, 156), (15, 1, 1, 0, 157), (19, 1, 2, 1, 165)]
theorem nd_f1_ok : nd_f1.all (nm_fchk nd_ct "PaperParcels$Row" false) = true := by decide +kernel
def nd_fi1 : List nm_F := [(9, 1, 0, 3, 156), (15, 1, 1, 0, 157), (19, 1, 2, 1, 165)]
theorem nd_fi1_ok : nd_fi1.all (nm_fchk nd_ct "PaperParcels$Row" true) = true := by decide +kernel
def nd_k1 : List (Nat × Value × Nat) := [(37, .int 65535, 688), (38, .int 32768, 689)]
theorem nd_k1_ok : nd_k1.all (nm_kchk "PaperParcels$Row") = true := by decide +kernel
def nd_f2 : List nm_F := [(43, 1, 1, 0, 162), (9, 2, 0, 9, 185), (15, 2, 1, 9, 189), (18, 2, 2, 9, 194), (21, 2, 3, 9, 198), (24, 2, 4, 9, 199), (32, 2, 5, 9, 204), (36, 2, 6, 0, 205)]
theorem nd_f2_ok : nd_f2.all (nm_fchk nd_ct "PaperParcels$Paper" false) = true := by decide +kernel
def nd_fi2 : List nm_F := [(43, 1, 1, 0, 162), (9, 2, 0, 3, 185), (15, 2, 1, 3, 189), (18, 2, 2, 3, 194), (21, 2, 3, 3, 198), (24, 2, 4, 3, 199), (32, 2, 5, 3, 204), (36, 2, 6, 0, 205)]
theorem nd_fi2_ok : nd_fi2.all (nm_fchk nd_ct "PaperParcels$Paper" true) = true := by decide +kernel
def nd_k2 : List (Nat × Value × Nat) := []
theorem nd_k2_ok : nd_k2.all (nm_kchk "PaperParcels$Paper") = true := by decide +kernel
def nd_f3 : List nm_F := [(112, 1, 1, 0, 163), (38, 4, 1, 9, 244), (14, 3, 0, 9, 375), (20, 3, 1, 0, 377), (29, 3, 2, 9, 379), (33, 3, 3, 9, 380), (45, 3, 4, 9, 381), (49, 3, 5, 9, 382), (57, 3, 6, 9, 383), (66, 3, 7, 9, 384)]
theorem nd_f3_ok : nd_f3.all (nm_fchk nd_ct "PaperParcels$Reader" false) = true := by decide +kernel
def nd_fi3 : List nm_F := [(112, 1, 1, 0, 163), (38, 4, 1, 9, 244), (14, 3, 0, 3, 375), (20, 3, 1, 0, 377), (29, 3, 2, 3, 379), (33, 3, 3, 3, 380), (45, 3, 4, 3, 381), (49, 3, 5, 3, 382), (57, 3, 6, 3, 383), (66, 3, 7, 3, 384)]
theorem nd_fi3_ok : nd_fi3.all (nm_fchk nd_ct "PaperParcels$Reader" true) = true := by decide +kernel
def nd_k3 : List (Nat × Value × Nat) := []
theorem nd_k3_ok : nd_k3.all (nm_kchk "PaperParcels$Reader") = true := by decide +kernel
def nd_f4 : List nm_F := [(45, 1, 1, 0, 161), (64, 1, 2, 1, 167), (9, 4, 0, 9, 242), (20, 4, 1, 9, 243), (32, 4, 2, 1, 245), (36, 4, 3, 0, 246), (39, 4, 4, 0, 247)]
theorem nd_f4_ok : nd_f4.all (nm_fchk nd_ct "PaperParcels$Part" false) = true := by decide +kernel
def nd_fi4 : List nm_F := [(45, 1, 1, 0, 161), (64, 1, 2, 1, 167), (9, 4, 0, 2, 242), (20, 4, 1, 3, 243), (32, 4, 2, 1, 245), (36, 4, 3, 0, 246), (39, 4, 4, 0, 247)]
theorem nd_fi4_ok : nd_fi4.all (nm_fchk nd_ct "PaperParcels$Part" true) = true := by decide +kernel
def nd_k4 : List (Nat × Value × Nat) := []
theorem nd_k4_ok : nd_k4.all (nm_kchk "PaperParcels$Part") = true := by decide +kernel
def nd_f5 : List nm_F := [(62, 1, 1, 0, 159), (9, 5, 0, 9, 265), (15, 5, 1, 9, 268), (19, 5, 2, 9, 271), (22, 5, 3, 9, 275), (25, 5, 4, 9, 278), (28, 5, 5, 9, 280), (40, 5, 6, 0, 282), (31, 5, 7, 9, 286), (34, 5, 8, 9, 288), (44, 5, 9, 0, 290), (37, 5, 10, 9, 291), (47, 5, 11, 0, 293), (50, 5, 12, 0, 294), (53, 5, 13, 0, 295)]
theorem nd_f5_ok : nd_f5.all (nm_fchk nd_ct "PaperParcels$Elements" false) = true := by decide +kernel
def nd_fi5 : List nm_F := [(62, 1, 1, 0, 159), (9, 5, 0, 3, 265), (15, 5, 1, 3, 268), (19, 5, 2, 3, 271), (22, 5, 3, 3, 275), (25, 5, 4, 3, 278), (28, 5, 5, 3, 280), (40, 5, 6, 0, 282), (31, 5, 7, 3, 286), (34, 5, 8, 3, 288), (44, 5, 9, 0, 290), (37, 5, 10, 3, 291), (47, 5, 11, 0, 293), (50, 5, 12, 0, 294), (53, 5, 13, 0, 295)]
theorem nd_fi5_ok : nd_fi5.all (nm_fchk nd_ct "PaperParcels$Elements" true) = true := by decide +kernel
def nd_k5 : List (Nat × Value × Nat) := []
theorem nd_k5_ok : nd_k5.all (nm_kchk "PaperParcels$Elements") = true := by decide +kernel
def nd_f6 : List nm_F := [(42, 5, 2, 9, 272), (53, 5, 6, 0, 285), (9, 6, 0, 9, 331), (15, 6, 1, 9, 332), (18, 6, 2, 9, 333), (22, 6, 3, 9, 334), (25, 6, 4, 9, 335), (28, 6, 5, 9, 336)]
theorem nd_f6_ok : nd_f6.all (nm_fchk nd_ct "PaperParcels$Styles" false) = true := by decide +kernel
def nd_fi6 : List nm_F := [(42, 5, 2, 9, 272), (53, 5, 6, 0, 285), (9, 6, 0, 3, 331), (15, 6, 1, 3, 332), (18, 6, 2, 3, 333), (22, 6, 3, 3, 334), (25, 6, 4, 3, 335), (28, 6, 5, 3, 336)]
theorem nd_fi6_ok : nd_fi6.all (nm_fchk nd_ct "PaperParcels$Styles" true) = true := by decide +kernel
def nd_k6 : List (Nat × Value × Nat) := []
theorem nd_k6_ok : nd_k6.all (nm_kchk "PaperParcels$Styles") = true := by decide +kernel
def nd_f7 : List nm_F := [(45, 1, 1, 0, 158), (74, 2, 6, 0, 208), (39, 5, 0, 9, 266), (75, 5, 1, 9, 270), (53, 5, 2, 9, 273), (71, 5, 3, 9, 276), (50, 5, 6, 0, 284), (60, 5, 10, 9, 292), (9, 7, 0, 9, 356), (15, 7, 1, 9, 357), (19, 7, 2, 9, 358), (23, 7, 3, 9, 359), (27, 7, 4, 9, 360), (35, 7, 5, 0, 361)]
theorem nd_f7_ok : nd_f7.all (nm_fchk nd_ct "PaperParcels$Builder" false) = true := by decide +kernel
def nd_fi7 : List nm_F := [(45, 1, 1, 0, 158), (74, 2, 6, 0, 208), (39, 5, 0, 9, 266), (75, 5, 1, 9, 270), (53, 5, 2, 9, 273), (71, 5, 3, 9, 276), (50, 5, 6, 0, 284), (60, 5, 10, 9, 292), (9, 7, 0, 3, 356), (15, 7, 1, 3, 357), (19, 7, 2, 3, 358), (23, 7, 3, 3, 359), (27, 7, 4, 3, 360), (35, 7, 5, 0, 361)]
theorem nd_fi7_ok : nd_fi7.all (nm_fchk nd_ct "PaperParcels$Builder" true) = true := by decide +kernel
def nd_k7 : List (Nat × Value × Nat) := []
theorem nd_k7_ok : nd_k7.all (nm_kchk "PaperParcels$Builder") = true := by decide +kernel
def nd_f8 : List nm_F := [(114, 2, 0, 9, 187), (133, 2, 1, 9, 193), (120, 2, 2, 9, 196), (123, 2, 4, 9, 201), (77, 2, 6, 0, 209), (74, 9, 0, 9, 415), (102, 9, 1, 9, 417), (111, 9, 2, 9, 419), (108, 9, 3, 9, 421), (80, 9, 4, 9, 423), (54, 8, 0, 1, 437), (58, 8, 1, 0, 439), (27, 8, 2, 9, 441), (31, 8, 3, 9, 443), (34, 8, 4, 9, 445), (37, 8, 5, 9, 446), (14, 8, 6, 9, 447), (20, 8, 7, 9, 448), (23, 8, 8, 9, 449), (42, 8, 9, 9, 450), (45, 8, 10, 9, 451), (48, 8, 11, 9, 452), (51, 8, 12, 9, 453), (143, 8, 13, 0, 454)]
theorem nd_f8_ok : nd_f8.all (nm_fchk nd_ct "PaperParcels$Script" false) = true := by decide +kernel
def nd_fi8 : List nm_F := [(114, 2, 0, 9, 187), (133, 2, 1, 9, 193), (120, 2, 2, 9, 196), (123, 2, 4, 9, 201), (77, 2, 6, 0, 209), (74, 9, 0, 9, 415), (102, 9, 1, 9, 417), (111, 9, 2, 9, 419), (108, 9, 3, 9, 421), (80, 9, 4, 9, 423), (54, 8, 0, 1, 437), (58, 8, 1, 0, 439), (27, 8, 2, 3, 441), (31, 8, 3, 3, 443), (34, 8, 4, 3, 445), (37, 8, 5, 3, 446), (14, 8, 6, 3, 447), (20, 8, 7, 3, 448), (23, 8, 8, 3, 449), (42, 8, 9, 3, 450), (45, 8, 10, 3, 451), (48, 8, 11, 3, 452), (51, 8, 12, 3, 453), (143, 8, 13, 0, 454)]
theorem nd_fi8_ok : nd_fi8.all (nm_fchk nd_ct "PaperParcels$Script" true) = true := by decide +kernel
def nd_k8 : List (Nat × Value × Nat) := []
theorem nd_k8_ok : nd_k8.all (nm_kchk "PaperParcels$Script") = true := by decide +kernel
def nd_f9 : List nm_F := [(37, 2, 1, 9, 190), (34, 2, 4, 9, 200), (28, 2, 6, 0, 206), (9, 9, 0, 9, 414), (15, 9, 1, 9, 416), (19, 9, 2, 9, 418), (22, 9, 3, 9, 420), (25, 9, 4, 9, 422)]
theorem nd_f9_ok : nd_f9.all (nm_fchk nd_ct "PaperParcels$Tree" false) = true := by decide +kernel
def nd_fi9 : List nm_F := [(37, 2, 1, 9, 190), (34, 2, 4, 9, 200), (28, 2, 6, 0, 206), (9, 9, 0, 3, 414), (15, 9, 1, 3, 416), (19, 9, 2, 3, 418), (22, 9, 3, 3, 420), (25, 9, 4, 3, 422)]
theorem nd_fi9_ok : nd_fi9.all (nm_fchk nd_ct "PaperParcels$Tree" true) = true := by decide +kernel
def nd_k9 : List (Nat × Value × Nat) := []
theorem nd_k9_ok : nd_k9.all (nm_kchk "PaperParcels$Tree") = true := by decide +kernel
def nd_f10 : List nm_F := [(154, 1, 1, 0, 164), (44, 1, 2, 1, 166), (78, 2, 0, 9, 186), (75, 2, 1, 9, 191), (68, 2, 2, 9, 195), (141, 2, 4, 9, 203), (59, 2, 6, 0, 207), (14, 10, 0, 9, 492), (20, 10, 1, 9, 494), (23, 10, 2, 9, 495), (26, 10, 3, 9, 496), (29, 10, 4, 9, 497), (55, 10, 5, 0, 498)]
theorem nd_f10_ok : nd_f10.all (nm_fchk nd_ct "PaperParcels$Emitter" false) = true := by decide +kernel
def nd_fi10 : List nm_F := [(154, 1, 1, 0, 164), (44, 1, 2, 1, 166), (78, 2, 0, 9, 186), (75, 2, 1, 9, 191), (68, 2, 2, 9, 195), (141, 2, 4, 9, 203), (59, 2, 6, 0, 207), (14, 10, 0, 3, 492), (20, 10, 1, 3, 494), (23, 10, 2, 3, 495), (26, 10, 3, 3, 496), (29, 10, 4, 3, 497), (55, 10, 5, 0, 498)]
theorem nd_fi10_ok : nd_fi10.all (nm_fchk nd_ct "PaperParcels$Emitter" true) = true := by decide +kernel
def nd_k10 : List (Nat × Value × Nat) := []
theorem nd_k10_ok : nd_k10.all (nm_kchk "PaperParcels$Emitter") = true := by decide +kernel
def nd_f11 : List nm_F := [(150, 11, 0, 0, 1223), (7, 11, 1, 9, 1224), (155, 11, 2, 0, 1225), (13, 11, 3, 0, 1226), (17, 11, 4, 9, 1227), (20, 11, 5, 9, 1228), (23, 11, 6, 9, 1229), (26, 11, 7, 9, 1230), (29, 11, 8, 9, 1231), (32, 11, 9, 9, 1232), (35, 11, 10, 9, 1233), (38, 11, 11, 9, 1234), (41, 11, 12, 9, 1235), (44, 11, 13, 9, 1236), (47, 11, 14, 9, 1237), (202, 11, 15, 0, 1238), (189, 11, 16, 0, 1239), (185, 11, 17, 1, 1240), (208, 11, 18, 1, 1241), (50, 11, 19, 9, 1242), (54, 11, 20, 9, 1243), (57, 11, 21, 9, 1244), (60, 11, 22, 9, 1245), (63, 11, 23, 9, 1246), (66, 11, 24, 9, 1247), (69, 11, 25, 9, 1248), (72, 11, 26, 9, 1249), (75, 11, 27, 9, 1250), (78, 11, 28, 9, 1251), (81, 11, 29, 9, 1252), (84, 11, 30, 9, 1253), (326, 11, 31, 1, 1254), (357, 11, 32, 0, 1255), (87, 11, 33, 9, 1256), (90, 11, 34, 9, 1257), (93, 11, 35, 9, 1258), (96, 11, 36, 9, 1259), (99, 11, 37, 9, 1260), (102, 11, 38, 9, 1261), (105, 11, 39, 9, 1262), (108, 11, 40, 9, 1263), (341, 11, 41, 0, 1264), (344, 11, 42, 0, 1265), (111, 11, 43, 9, 1266), (114, 11, 44, 9, 1267), (117, 11, 45, 9, 1268), (120, 11, 46, 9, 1269), (123, 11, 47, 9, 1270), (126, 11, 48, 9, 1271), (129, 11, 49, 9, 1272), (132, 11, 50, 9, 1273), (135, 11, 51, 9, 1274), (138, 11, 52, 9, 1275), (141, 11, 53, 9, 1276), (144, 11, 54, 9, 1277), (147, 11, 55, 9, 1278), (390, 11, 56, 0, 1279)]
theorem nd_f11_ok : nd_f11.all (nm_fchk nd_ct "PaperParcelsModel" false) = true := by decide +kernel
def nd_fi11 : List nm_F := [(150, 11, 0, 0, 1223), (7, 11, 1, 3, 1224), (155, 11, 2, 0, 1225), (13, 11, 3, 0, 1226), (17, 11, 4, 3, 1227), (20, 11, 5, 3, 1228), (23, 11, 6, 3, 1229), (26, 11, 7, 3, 1230), (29, 11, 8, 3, 1231), (32, 11, 9, 3, 1232), (35, 11, 10, 3, 1233), (38, 11, 11, 3, 1234), (41, 11, 12, 3, 1235), (44, 11, 13, 3, 1236), (47, 11, 14, 3, 1237), (202, 11, 15, 0, 1238), (189, 11, 16, 0, 1239), (185, 11, 17, 1, 1240), (208, 11, 18, 1, 1241), (50, 11, 19, 3, 1242), (54, 11, 20, 3, 1243), (57, 11, 21, 3, 1244), (60, 11, 22, 3, 1245), (63, 11, 23, 3, 1246), (66, 11, 24, 3, 1247), (69, 11, 25, 3, 1248), (72, 11, 26, 3, 1249), (75, 11, 27, 3, 1250), (78, 11, 28, 3, 1251), (81, 11, 29, 3, 1252), (84, 11, 30, 3, 1253), (326, 11, 31, 1, 1254), (357, 11, 32, 0, 1255), (87, 11, 33, 3, 1256), (90, 11, 34, 3, 1257), (93, 11, 35, 3, 1258), (96, 11, 36, 3, 1259), (99, 11, 37, 3, 1260), (102, 11, 38, 3, 1261), (105, 11, 39, 3, 1262), (108, 11, 40, 3, 1263), (341, 11, 41, 0, 1264), (344, 11, 42, 0, 1265), (111, 11, 43, 3, 1266), (114, 11, 44, 3, 1267), (117, 11, 45, 3, 1268), (120, 11, 46, 3, 1269), (123, 11, 47, 3, 1270), (126, 11, 48, 3, 1271), (129, 11, 49, 3, 1272), (132, 11, 50, 3, 1273), (135, 11, 51, 3, 1274), (138, 11, 52, 3, 1275), (141, 11, 53, 3, 1276), (144, 11, 54, 3, 1277), (147, 11, 55, 3, 1278), (390, 11, 56, 0, 1279)]
theorem nd_fi11_ok : nd_fi11.all (nm_fchk nd_ct "PaperParcelsModel" true) = true := by decide +kernel
def nd_k11 : List (Nat × Value × Nat) := [(153, .long 255, 1404), (174, .int 65535, 1459), (173, .int 32768, 1463), (347, .int 1000000, 1660), (399, .long 29756, 1729), (405, .long 15919, 1738), (407, .long 62, 1739), (409, .long 29500, 1740), (414, .long 1047801660, 1745), (420, .long 12092, 1750), (416, .long 30780, 1758), (418, .long 1048063804, 1759)]
theorem nd_k11_ok : nd_k11.all (nm_kchk "PaperParcelsModel") = true := by decide +kernel
def nd_f12 : List nm_F := [(60, 5, 0, 9, 267), (21, 5, 1, 9, 269), (32, 5, 2, 9, 274), (25, 5, 3, 9, 277), (35, 5, 4, 9, 279), (38, 5, 5, 9, 281), (9, 5, 6, 0, 283), (45, 5, 7, 9, 287), (69, 5, 8, 9, 289)]
theorem nd_f12_ok : nd_f12.all (nm_fchk nd_ct "PaperParcels$Rules" false) = true := by decide +kernel
def nd_fi12 : List nm_F := [(60, 5, 0, 9, 267), (21, 5, 1, 9, 269), (32, 5, 2, 9, 274), (25, 5, 3, 9, 277), (35, 5, 4, 9, 279), (38, 5, 5, 9, 281), (9, 5, 6, 0, 283), (45, 5, 7, 9, 287), (69, 5, 8, 9, 289)]
theorem nd_fi12_ok : nd_fi12.all (nm_fchk nd_ct "PaperParcels$Rules" true) = true := by decide +kernel
def nd_k12 : List (Nat × Value × Nat) := []
theorem nd_k12_ok : nd_k12.all (nm_kchk "PaperParcels$Rules") = true := by decide +kernel
theorem nd_wa0 : Cond.arrayClass .int ∈ nm_Ts := nm_in (i := 175) (by decide +kernel) rfl
theorem nd_wa1 : Cond.arrayClass .boolean ∈ nm_Ts := nm_in (i := 1395) (by decide +kernel) rfl
theorem nd_wa2 : Cond.arrayClass .long ∈ nm_Ts := nm_in (i := 1784) (by decide +kernel) rfl
theorem nd_wa3 : Cond.arrayOver (.object "PaperParcels$Paper") ∈ nm_Tn := nm_inN (i := 177) (by decide +kernel) rfl
theorem nd_wa4 : Cond.arrayOver (.array .int) ∈ nm_Tn := nm_inN (i := 436) (by decide +kernel) rfl
theorem nd_wo1 : Cond.instanceMethod objectInit ∈ nm_Ts := nm_in (i := 148) (by decide +kernel) rfl
theorem nd_wo2 : Cond.code objectInit ⟨#[0xb1]⟩ 1 none ∈ nm_Ts := nm_in (i := 149) (by decide +kernel) rfl
theorem nd_okA {own : String} {F G : Nat} {LN : List nm_N} {LA LM LO : List (Nat × Nat)} (hN : LN.all (nm_nchk nd_ct own) = true) (hA : LA.all (fun q => decide (lw_tbl[q.2]? = some (Cond.classLink own q.1 "PaperParcels$Paper"))) = true) (hM : LM.all (fun q => decide (lw_tbl[q.2]? = some (Cond.classLink own q.1 ("[" ++ (FieldType.array .int).toString)))) = true) (hO : LO.all (fun q => decide (lw_tbl[q.2]? = some (Cond.methodLink own q.1 objectInit))) = true) (hF : 1 ≤ F) (hG : 20 ≤ G) :
    am_okA own "PaperParcels$Paper" nm_Ts nm_Tn nd_cl F G (am_nl LN) (am_pl LA) (am_pl LM) (am_pl LO) :=
  ⟨nd_wa0, nd_wa1, nd_wa2, nd_wa3, nd_wa4, nm_nok nd_cok hN, nm_pok (w := fun ix => Cond.classLink own ix "PaperParcels$Paper") (fun _ => rfl) hA, nm_pok (w := fun ix => Cond.classLink own ix ("[" ++ (FieldType.array .int).toString)) (fun _ => rfl) hM, fun ix hx => ⟨nm_pok (w := fun ix => Cond.methodLink own ix objectInit) (fun _ => rfl) hO ix hx, nd_wo1, nd_wo2⟩, hF, hG⟩
end
section
-- PaperParcels.<init>()V
def nd_i0 : List (Nat × Instr × Nat) := [(0, .aload_n 0, 1), (1, .invokespecial 3, 3), (4, .aload_n 0, 1), (5, .new 9, 3), (8, .dup, 1), (9, .sipush 480, 3), (12, .invokespecial 11, 3), (15, .putfield 14, 3), (18, .aload_n 0, 1), (19, .iconst 3, 1), (20, .anewarray 18, 3), (23, .putfield 20, 3), (26, .aload_n 0, 1), (27, .getfield 20, 3), (30, .iconst 0, 1), (31, .new 18, 3), (34, .dup, 1), (35, .bipush 40, 2), (37, .sipush 300, 3), (40, .invokespecial 24, 3), (43, .aastore, 1), (44, .aload_n 0, 1), (45, .getfield 20, 3), (48, .iconst 1, 1), (49, .new 18, 3), (52, .dup, 1), (53, .bipush 40, 2), (55, .sipush 300, 3), (58, .invokespecial 24, 3), (61, .aastore, 1), (62, .aload_n 0, 1), (63, .getfield 20, 3), (66, .iconst 2, 1), (67, .new 18, 3), (70, .dup, 1), (71, .bipush 80, 2), (73, .sipush 600, 3), (76, .invokespecial 24, 3), (79, .aastore, 1), (80, .aload_n 0, 1), (81, .new 27, 3), (84, .dup, 1), (85, .invokespecial 29, 3), (88, .putfield 30, 3), (91, .aload_n 0, 1), (92, .new 34, 3), (95, .dup, 1), (96, .aload_n 0, 1), (97, .getfield 20, 3), (100, .iconst 0, 1), (101, .aaload, 1), (102, .aload_n 0, 1), (103, .getfield 20, 3), (106, .iconst 1, 1), (107, .aaload, 1), (108, .aload_n 0, 1), (109, .getfield 20, 3), (112, .iconst 2, 1), (113, .aaload, 1), (114, .invokespecial 36, 3), (117, .putfield 39, 3), (120, .aload_n 0, 1), (121, .new 43, 3), (124, .dup, 1), (125, .invokespecial 45, 3), (128, .putfield 46, 3), (131, .return_, 1)]
theorem nd_i0_ok : am_ic prog_1_method_1_code nd_i0 = true := by decide +kernel
def nd_s0 : List nm_S := [(11, 2, false, 152), (24, 3, false, 179), (29, 4, false, 228), (36, 9, false, 404), (45, 11, false, 486)]
theorem nd_s0_ok : nd_s0.all (nm_schk nd_ct nd_ml "PaperParcels") = true := by decide +kernel
theorem nd_ok0 : am_ok nm_Ts nm_Tn nd_cl nd_mt nd_fr nd_lo 0 (am_in nd_i0) (am_fl nd_fi0) (am_ct nd_k0) (am_sl nd_ml nd_s0) := nm_ok (x := 0) (ini := true) rfl (by decide +kernel) nd_cok nd_i0_ok (by exact fun _ => rfl) nd_fi0_ok nd_k0_ok nd_s0_ok (by decide +kernel)
def nd_n0 : List nm_N := [(9, 1, [.null, .int 0, .int 0], 150, 151, 117), (18, 2, [.null, .null, .null, .null, .null, .null, .int 0], 176, 178, 118), (27, 3, [.null, .int 0, .null, .null, .null, .null, .null, .null], 226, 227, 119), (34, 8, [.int 0, .int 0, .null, .null, .null, .null, .null, .null, .null, .null, .null, .null, .null, .int 0], 402, 403, 124), (43, 10, [.null, .null, .null, .null, .null, .int 0], 484, 485, 126)]
def nd_a0 : List (Nat × Nat) := [(18, 176)]
def nd_m0 : List (Nat × Nat) := []
def nd_o0 : List (Nat × Nat) := [(3, 147)]
theorem nd_okA0 : am_okA "PaperParcels" "PaperParcels$Paper" nm_Ts nm_Tn nd_cl (nd_fr 0) (nd_lo 0) (am_nl nd_n0) (am_pl nd_a0) (am_pl nd_m0) (am_pl nd_o0) := nd_okA (by decide +kernel) (by decide +kernel) (by decide +kernel) (by decide +kernel) (by decide +kernel) (by decide +kernel)
-- PaperParcels$Row.<init>(I)V
def nd_i2 : List (Nat × Instr × Nat) := [(0, .aload_n 0, 1), (1, .invokespecial 3, 3), (4, .aload_n 0, 1), (5, .iload_n 1, 1), (6, .newarray .int, 2), (8, .putfield 9, 3), (11, .return_, 1)]
theorem nd_i2_ok : am_ic prog_8_method_1_code nd_i2 = true := by decide +kernel
def nd_s2 : List nm_S := []
theorem nd_s2_ok : nd_s2.all (nm_schk nd_ct nd_ml "PaperParcels$Row") = true := by decide +kernel
theorem nd_ok2 : am_ok nm_Ts nm_Tn nd_cl nd_mt nd_fr nd_lo 2 (am_in nd_i2) (am_fl nd_fi1) (am_ct nd_k1) (am_sl nd_ml nd_s2) := nm_ok (x := 2) (ini := true) rfl (by decide +kernel) nd_cok nd_i2_ok (by exact fun _ => rfl) nd_fi1_ok nd_k1_ok nd_s2_ok (by decide +kernel)
def nd_n2 : List nm_N := []
def nd_a2 : List (Nat × Nat) := []
def nd_m2 : List (Nat × Nat) := []
def nd_o2 : List (Nat × Nat) := [(3, 155)]
theorem nd_okA2 : am_okA "PaperParcels$Row" "PaperParcels$Paper" nm_Ts nm_Tn nd_cl (nd_fr 2) (nd_lo 2) (am_nl nd_n2) (am_pl nd_a2) (am_pl nd_m2) (am_pl nd_o2) := nd_okA (by decide +kernel) (by decide +kernel) (by decide +kernel) (by decide +kernel) (by decide +kernel) (by decide +kernel)
-- PaperParcels$Paper.<init>(II)V
def nd_i3 : List (Nat × Instr × Nat) := [(0, .aload_n 0, 1), (1, .invokespecial 3, 3), (4, .aload_n 0, 1), (5, .iload_n 1, 1), (6, .newarray .int, 2), (8, .putfield 9, 3), (11, .aload_n 0, 1), (12, .iload_n 1, 1), (13, .newarray .int, 2), (15, .putfield 15, 3), (18, .aload_n 0, 1), (19, .iload_n 1, 1), (20, .newarray .int, 2), (22, .putfield 18, 3), (25, .aload_n 0, 1), (26, .iload_n 1, 1), (27, .newarray .int, 2), (29, .putfield 21, 3), (32, .aload_n 0, 1), (33, .iload_n 1, 1), (34, .newarray .int, 2), (36, .putfield 24, 3), (39, .aload_n 0, 1), (40, .new 27, 3), (43, .dup, 1), (44, .iload_n 2, 1), (45, .invokespecial 29, 3), (48, .putfield 32, 3), (51, .return_, 1)]
theorem nd_i3_ok : am_ic prog_5_method_1_code nd_i3 = true := by decide +kernel
def nd_s3 : List nm_S := [(29, 2, false, 184)]
theorem nd_s3_ok : nd_s3.all (nm_schk nd_ct nd_ml "PaperParcels$Paper") = true := by decide +kernel
theorem nd_ok3 : am_ok nm_Ts nm_Tn nd_cl nd_mt nd_fr nd_lo 3 (am_in nd_i3) (am_fl nd_fi2) (am_ct nd_k2) (am_sl nd_ml nd_s3) := nm_ok (x := 3) (ini := true) rfl (by decide +kernel) nd_cok nd_i3_ok (by exact fun _ => rfl) nd_fi2_ok nd_k2_ok nd_s3_ok (by decide +kernel)
def nd_n3 : List nm_N := [(27, 1, [.null, .int 0, .int 0], 183, 151, 117)]
def nd_a3 : List (Nat × Nat) := []
def nd_m3 : List (Nat × Nat) := []
def nd_o3 : List (Nat × Nat) := [(3, 182)]
theorem nd_okA3 : am_okA "PaperParcels$Paper" "PaperParcels$Paper" nm_Ts nm_Tn nd_cl (nd_fr 3) (nd_lo 3) (am_nl nd_n3) (am_pl nd_a3) (am_pl nd_m3) (am_pl nd_o3) := nd_okA (by decide +kernel) (by decide +kernel) (by decide +kernel) (by decide +kernel) (by decide +kernel) (by decide +kernel)
-- PaperParcels$Reader.<init>()V
def nd_i4 : List (Nat × Instr × Nat) := [(0, .aload_n 0, 1), (1, .invokespecial 3, 3), (4, .aload_n 0, 1), (5, .new 9, 3), (8, .dup, 1), (9, .bipush 40, 2), (11, .sipush 300, 3), (14, .invokespecial 11, 3), (17, .putfield 14, 3), (20, .aload_n 0, 1), (21, .iconst (-1), 1), (22, .putfield 20, 3), (25, .aload_n 0, 1), (26, .new 24, 3), (29, .dup, 1), (30, .bipush 83, 2), (32, .invokespecial 26, 3), (35, .putfield 29, 3), (38, .aload_n 0, 1), (39, .new 24, 3), (42, .dup, 1), (43, .bipush 67, 2), (45, .invokespecial 26, 3), (48, .putfield 33, 3), (51, .aload_n 0, 1), (52, .new 36, 3), (55, .dup, 1), (56, .aload_n 0, 1), (57, .getfield 29, 3), (60, .getfield 38, 3), (63, .invokespecial 42, 3), (66, .putfield 45, 3), (69, .aload_n 0, 1), (70, .new 36, 3), (73, .dup, 1), (74, .aload_n 0, 1), (75, .getfield 33, 3), (78, .getfield 38, 3), (81, .invokespecial 42, 3), (84, .putfield 49, 3), (87, .aload_n 0, 1), (88, .new 52, 3), (91, .dup, 1), (92, .aload_n 0, 1), (93, .getfield 45, 3), (96, .aload_n 0, 1), (97, .getfield 49, 3), (100, .invokespecial 54, 3), (103, .putfield 57, 3), (106, .aload_n 0, 1), (107, .new 61, 3), (110, .dup, 1), (111, .aload_n 0, 1), (112, .getfield 49, 3), (115, .aload_n 0, 1), (116, .getfield 57, 3), (119, .aload_n 0, 1), (120, .getfield 14, 3), (123, .invokespecial 63, 3), (126, .putfield 66, 3), (129, .return_, 1)]
theorem nd_i4_ok : am_ic prog_7_method_1_code nd_i4 = true := by decide +kernel
def nd_s4 : List nm_S := [(11, 3, false, 233), (26, 5, false, 236), (42, 6, false, 261), (54, 7, false, 327), (63, 8, false, 352)]
theorem nd_s4_ok : nd_s4.all (nm_schk nd_ct nd_ml "PaperParcels$Reader") = true := by decide +kernel
theorem nd_ok4 : am_ok nm_Ts nm_Tn nd_cl nd_mt nd_fr nd_lo 4 (am_in nd_i4) (am_fl nd_fi3) (am_ct nd_k3) (am_sl nd_ml nd_s4) := nm_ok (x := 4) (ini := true) rfl (by decide +kernel) nd_cok nd_i4_ok (by exact fun _ => rfl) nd_fi3_ok nd_k3_ok nd_s4_ok (by decide +kernel)
def nd_n4 : List nm_N := [(9, 2, [.null, .null, .null, .null, .null, .null, .int 0], 232, 178, 118), (24, 4, [.int 0, .null, .int 0, .int 0, .int 0], 234, 235, 120), (36, 5, [.null, .null, .null, .null, .null, .null, .int 0, .null, .null, .int 0, .null, .int 0, .int 0, .int 0], 259, 260, 121), (52, 6, [.null, .null, .null, .null, .null, .null], 325, 326, 122), (61, 7, [.null, .null, .null, .null, .null, .int 0], 350, 351, 123)]
def nd_a4 : List (Nat × Nat) := []
def nd_m4 : List (Nat × Nat) := []
def nd_o4 : List (Nat × Nat) := [(3, 231)]
theorem nd_okA4 : am_okA "PaperParcels$Reader" "PaperParcels$Paper" nm_Ts nm_Tn nd_cl (nd_fr 4) (nd_lo 4) (am_nl nd_n4) (am_pl nd_a4) (am_pl nd_m4) (am_pl nd_o4) := nd_okA (by decide +kernel) (by decide +kernel) (by decide +kernel) (by decide +kernel) (by decide +kernel) (by decide +kernel)
-- PaperParcels$Part.<init>(I)V
def nd_i5 : List (Nat × Instr × Nat) := [(0, .aload_n 0, 1), (1, .invokespecial 3, 3), (4, .aload_n 0, 1), (5, .iload_n 1, 1), (6, .putfield 9, 3), (9, .aload_n 0, 1), (10, .new 15, 3), (13, .dup, 1), (14, .sipush 300, 3), (17, .invokespecial 17, 3), (20, .putfield 20, 3), (23, .return_, 1)]
theorem nd_i5_ok : am_ic prog_6_method_1_code nd_i5 = true := by decide +kernel
def nd_s5 : List nm_S := [(17, 2, false, 241)]
theorem nd_s5_ok : nd_s5.all (nm_schk nd_ct nd_ml "PaperParcels$Part") = true := by decide +kernel
theorem nd_ok5 : am_ok nm_Ts nm_Tn nd_cl nd_mt nd_fr nd_lo 5 (am_in nd_i5) (am_fl nd_fi4) (am_ct nd_k4) (am_sl nd_ml nd_s5) := nm_ok (x := 5) (ini := true) rfl (by decide +kernel) nd_cok nd_i5_ok (by exact fun _ => rfl) nd_fi4_ok nd_k4_ok nd_s5_ok (by decide +kernel)
def nd_n5 : List nm_N := [(15, 1, [.null, .int 0, .int 0], 240, 151, 117)]
def nd_a5 : List (Nat × Nat) := []
def nd_m5 : List (Nat × Nat) := []
def nd_o5 : List (Nat × Nat) := [(3, 239)]
theorem nd_okA5 : am_okA "PaperParcels$Part" "PaperParcels$Paper" nm_Ts nm_Tn nd_cl (nd_fr 5) (nd_lo 5) (am_nl nd_n5) (am_pl nd_a5) (am_pl nd_m5) (am_pl nd_o5) := nd_okA (by decide +kernel) (by decide +kernel) (by decide +kernel) (by decide +kernel) (by decide +kernel) (by decide +kernel)
-- PaperParcels$Elements.<init>(LPaperParcels$Row;)V
def nd_i6 : List (Nat × Instr × Nat) := [(0, .aload_n 0, 1), (1, .invokespecial 3, 3), (4, .aload_n 0, 1), (5, .aload_n 1, 1), (6, .putfield 9, 3), (9, .aload_n 0, 1), (10, .bipush 30, 2), (12, .newarray .int, 2), (14, .putfield 15, 3), (17, .aload_n 0, 1), (18, .bipush 30, 2), (20, .newarray .int, 2), (22, .putfield 19, 3), (25, .aload_n 0, 1), (26, .bipush 30, 2), (28, .newarray .int, 2), (30, .putfield 22, 3), (33, .aload_n 0, 1), (34, .bipush 30, 2), (36, .newarray .int, 2), (38, .putfield 25, 3), (41, .aload_n 0, 1), (42, .bipush 30, 2), (44, .newarray .int, 2), (46, .putfield 28, 3), (49, .aload_n 0, 1), (50, .bipush 60, 2), (52, .newarray .int, 2), (54, .putfield 31, 3), (57, .aload_n 0, 1), (58, .bipush 60, 2), (60, .newarray .int, 2), (62, .putfield 34, 3), (65, .aload_n 0, 1), (66, .sipush 300, 3), (69, .newarray .int, 2), (71, .putfield 37, 3), (74, .return_, 1)]
theorem nd_i6_ok : am_ic prog_3_method_1_code nd_i6 = true := by decide +kernel
def nd_s6 : List nm_S := []
theorem nd_s6_ok : nd_s6.all (nm_schk nd_ct nd_ml "PaperParcels$Elements") = true := by decide +kernel
theorem nd_ok6 : am_ok nm_Ts nm_Tn nd_cl nd_mt nd_fr nd_lo 6 (am_in nd_i6) (am_fl nd_fi5) (am_ct nd_k5) (am_sl nd_ml nd_s6) := nm_ok (x := 6) (ini := true) rfl (by decide +kernel) nd_cok nd_i6_ok (by exact fun _ => rfl) nd_fi5_ok nd_k5_ok nd_s6_ok (by decide +kernel)
def nd_n6 : List nm_N := []
def nd_a6 : List (Nat × Nat) := []
def nd_m6 : List (Nat × Nat) := []
def nd_o6 : List (Nat × Nat) := [(3, 264)]
theorem nd_okA6 : am_okA "PaperParcels$Elements" "PaperParcels$Paper" nm_Ts nm_Tn nd_cl (nd_fr 6) (nd_lo 6) (am_nl nd_n6) (am_pl nd_a6) (am_pl nd_m6) (am_pl nd_o6) := nd_okA (by decide +kernel) (by decide +kernel) (by decide +kernel) (by decide +kernel) (by decide +kernel) (by decide +kernel)
-- PaperParcels$Styles.<init>(LPaperParcels$Elements;LPaperParcels$Elements;)V
def nd_i7 : List (Nat × Instr × Nat) := [(0, .aload_n 0, 1), (1, .invokespecial 3, 3), (4, .aload_n 0, 1), (5, .aload_n 1, 1), (6, .putfield 9, 3), (9, .aload_n 0, 1), (10, .aload_n 2, 1), (11, .putfield 15, 3), (14, .aload_n 0, 1), (15, .bipush 26, 2), (17, .newarray .int, 2), (19, .putfield 18, 3), (22, .aload_n 0, 1), (23, .bipush 26, 2), (25, .newarray .int, 2), (27, .putfield 22, 3), (30, .aload_n 0, 1), (31, .bipush 26, 2), (33, .newarray .int, 2), (35, .putfield 25, 3), (38, .aload_n 0, 1), (39, .bipush 26, 2), (41, .newarray .int, 2), (43, .putfield 28, 3), (46, .return_, 1)]
theorem nd_i7_ok : am_ic prog_11_method_1_code nd_i7 = true := by decide +kernel
def nd_s7 : List nm_S := []
theorem nd_s7_ok : nd_s7.all (nm_schk nd_ct nd_ml "PaperParcels$Styles") = true := by decide +kernel
theorem nd_ok7 : am_ok nm_Ts nm_Tn nd_cl nd_mt nd_fr nd_lo 7 (am_in nd_i7) (am_fl nd_fi6) (am_ct nd_k6) (am_sl nd_ml nd_s7) := nm_ok (x := 7) (ini := true) rfl (by decide +kernel) nd_cok nd_i7_ok (by exact fun _ => rfl) nd_fi6_ok nd_k6_ok nd_s7_ok (by decide +kernel)
def nd_n7 : List nm_N := []
def nd_a7 : List (Nat × Nat) := []
def nd_m7 : List (Nat × Nat) := []
def nd_o7 : List (Nat × Nat) := [(3, 330)]
theorem nd_okA7 : am_okA "PaperParcels$Styles" "PaperParcels$Paper" nm_Ts nm_Tn nd_cl (nd_fr 7) (nd_lo 7) (am_nl nd_n7) (am_pl nd_a7) (am_pl nd_m7) (am_pl nd_o7) := nd_okA (by decide +kernel) (by decide +kernel) (by decide +kernel) (by decide +kernel) (by decide +kernel) (by decide +kernel)
-- PaperParcels$Builder.<init>(LPaperParcels$Elements;LPaperParcels$Styles;LPaperParcels$Paper;)V
def nd_i8 : List (Nat × Instr × Nat) := [(0, .aload_n 0, 1), (1, .invokespecial 3, 3), (4, .aload_n 0, 1), (5, .aload_n 1, 1), (6, .putfield 9, 3), (9, .aload_n 0, 1), (10, .aload_n 2, 1), (11, .putfield 15, 3), (14, .aload_n 0, 1), (15, .aload_n 3, 1), (16, .putfield 19, 3), (19, .aload_n 0, 1), (20, .bipush 30, 2), (22, .newarray .int, 2), (24, .putfield 23, 3), (27, .aload_n 0, 1), (28, .bipush 30, 2), (30, .newarray .int, 2), (32, .putfield 27, 3), (35, .return_, 1)]
theorem nd_i8_ok : am_ic prog_2_method_1_code nd_i8 = true := by decide +kernel
def nd_s8 : List nm_S := []
theorem nd_s8_ok : nd_s8.all (nm_schk nd_ct nd_ml "PaperParcels$Builder") = true := by decide +kernel
theorem nd_ok8 : am_ok nm_Ts nm_Tn nd_cl nd_mt nd_fr nd_lo 8 (am_in nd_i8) (am_fl nd_fi7) (am_ct nd_k7) (am_sl nd_ml nd_s8) := nm_ok (x := 8) (ini := true) rfl (by decide +kernel) nd_cok nd_i8_ok (by exact fun _ => rfl) nd_fi7_ok nd_k7_ok nd_s8_ok (by decide +kernel)
def nd_n8 : List nm_N := []
def nd_a8 : List (Nat × Nat) := []
def nd_m8 : List (Nat × Nat) := []
def nd_o8 : List (Nat × Nat) := [(3, 355)]
theorem nd_okA8 : am_okA "PaperParcels$Builder" "PaperParcels$Paper" nm_Ts nm_Tn nd_cl (nd_fr 8) (nd_lo 8) (am_nl nd_n8) (am_pl nd_a8) (am_pl nd_m8) (am_pl nd_o8) := nd_okA (by decide +kernel) (by decide +kernel) (by decide +kernel) (by decide +kernel) (by decide +kernel) (by decide +kernel)
-- PaperParcels$Script.<init>(LPaperParcels$Paper;LPaperParcels$Paper;LPaperParcels$Paper;)V
def nd_i9 : List (Nat × Instr × Nat) := [(0, .aload_n 0, 1), (1, .invokespecial 3, 3), (4, .aload_n 0, 1), (5, .new 9, 3), (8, .dup, 1), (9, .aload_n 1, 1), (10, .invokespecial 11, 3), (13, .putfield 14, 3), (16, .aload_n 0, 1), (17, .new 9, 3), (20, .dup, 1), (21, .aload_n 2, 1), (22, .invokespecial 11, 3), (25, .putfield 20, 3), (28, .aload_n 0, 1), (29, .aload_n 3, 1), (30, .putfield 23, 3), (33, .aload_n 0, 1), (34, .bipush 80, 2), (36, .newarray .int, 2), (38, .putfield 27, 3), (41, .aload_n 0, 1), (42, .bipush 80, 2), (44, .newarray .int, 2), (46, .putfield 31, 3), (49, .aload_n 0, 1), (50, .bipush 80, 2), (52, .newarray .int, 2), (54, .putfield 34, 3), (57, .aload_n 0, 1), (58, .bipush 80, 2), (60, .newarray .int, 2), (62, .putfield 37, 3), (65, .aload_n 0, 1), (66, .bipush 40, 2), (68, .bipush 40, 2), (70, .multianewarray 40 2, 4), (74, .putfield 42, 3), (77, .aload_n 0, 1), (78, .bipush 41, 2), (80, .bipush 41, 2), (82, .multianewarray 40 2, 4), (86, .putfield 45, 3), (89, .aload_n 0, 1), (90, .bipush 40, 2), (92, .newarray .int, 2), (94, .putfield 48, 3), (97, .aload_n 0, 1), (98, .bipush 40, 2), (100, .newarray .int, 2), (102, .putfield 51, 3), (105, .return_, 1)]
theorem nd_i9_ok : am_ic prog_10_method_1_code nd_i9 = true := by decide +kernel
def nd_s9 : List nm_S := [(11, 10, false, 410)]
theorem nd_s9_ok : nd_s9.all (nm_schk nd_ct nd_ml "PaperParcels$Script") = true := by decide +kernel
theorem nd_ok9 : am_ok nm_Ts nm_Tn nd_cl nd_mt nd_fr nd_lo 9 (am_in nd_i9) (am_fl nd_fi8) (am_ct nd_k8) (am_sl nd_ml nd_s9) := nm_ok (x := 9) (ini := true) rfl (by decide +kernel) nd_cok nd_i9_ok (by exact fun _ => rfl) nd_fi8_ok nd_k8_ok nd_s9_ok (by decide +kernel)
def nd_n9 : List nm_N := [(9, 9, [.null, .null, .null, .null, .null], 408, 409, 125)]
def nd_a9 : List (Nat × Nat) := []
def nd_m9 : List (Nat × Nat) := [(40, 435)]
def nd_o9 : List (Nat × Nat) := [(3, 407)]
theorem nd_okA9 : am_okA "PaperParcels$Script" "PaperParcels$Paper" nm_Ts nm_Tn nd_cl (nd_fr 9) (nd_lo 9) (am_nl nd_n9) (am_pl nd_a9) (am_pl nd_m9) (am_pl nd_o9) := nd_okA (by decide +kernel) (by decide +kernel) (by decide +kernel) (by decide +kernel) (by decide +kernel) (by decide +kernel)
-- PaperParcels$Tree.<init>(LPaperParcels$Paper;)V
def nd_i10 : List (Nat × Instr × Nat) := [(0, .aload_n 0, 1), (1, .invokespecial 3, 3), (4, .aload_n 0, 1), (5, .aload_n 1, 1), (6, .putfield 9, 3), (9, .aload_n 0, 1), (10, .bipush 40, 2), (12, .newarray .int, 2), (14, .putfield 15, 3), (17, .aload_n 0, 1), (18, .bipush 40, 2), (20, .newarray .int, 2), (22, .putfield 19, 3), (25, .aload_n 0, 1), (26, .bipush 40, 2), (28, .newarray .int, 2), (30, .putfield 22, 3), (33, .aload_n 0, 1), (34, .bipush 41, 2), (36, .newarray .int, 2), (38, .putfield 25, 3), (41, .return_, 1)]
theorem nd_i10_ok : am_ic prog_12_method_1_code nd_i10 = true := by decide +kernel
def nd_s10 : List nm_S := []
theorem nd_s10_ok : nd_s10.all (nm_schk nd_ct nd_ml "PaperParcels$Tree") = true := by decide +kernel
theorem nd_ok10 : am_ok nm_Ts nm_Tn nd_cl nd_mt nd_fr nd_lo 10 (am_in nd_i10) (am_fl nd_fi9) (am_ct nd_k9) (am_sl nd_ml nd_s10) := nm_ok (x := 10) (ini := true) rfl (by decide +kernel) nd_cok nd_i10_ok (by exact fun _ => rfl) nd_fi9_ok nd_k9_ok nd_s10_ok (by decide +kernel)
def nd_n10 : List nm_N := []
def nd_a10 : List (Nat × Nat) := []
def nd_m10 : List (Nat × Nat) := []
def nd_o10 : List (Nat × Nat) := [(3, 413)]
theorem nd_okA10 : am_okA "PaperParcels$Tree" "PaperParcels$Paper" nm_Ts nm_Tn nd_cl (nd_fr 10) (nd_lo 10) (am_nl nd_n10) (am_pl nd_a10) (am_pl nd_m10) (am_pl nd_o10) := nd_okA (by decide +kernel) (by decide +kernel) (by decide +kernel) (by decide +kernel) (by decide +kernel) (by decide +kernel)
-- PaperParcels$Emitter.<init>()V
def nd_i11 : List (Nat × Instr × Nat) := [(0, .aload_n 0, 1), (1, .invokespecial 3, 3), (4, .aload_n 0, 1), (5, .new 9, 3), (8, .dup, 1), (9, .sipush 480, 3), (12, .invokespecial 11, 3), (15, .putfield 14, 3), (18, .aload_n 0, 1), (19, .new 9, 3), (22, .dup, 1), (23, .sipush 300, 3), (26, .invokespecial 11, 3), (29, .putfield 20, 3), (32, .aload_n 0, 1), (33, .new 9, 3), (36, .dup, 1), (37, .sipush 300, 3), (40, .invokespecial 11, 3), (43, .putfield 23, 3), (46, .aload_n 0, 1), (47, .new 9, 3), (50, .dup, 1), (51, .sipush 300, 3), (54, .invokespecial 11, 3), (57, .putfield 26, 3), (60, .aload_n 0, 1), (61, .bipush 26, 2), (63, .newarray .int, 2), (65, .putfield 29, 3), (68, .return_, 1)]
theorem nd_i11_ok : am_ic prog_4_method_1_code nd_i11 = true := by decide +kernel
def nd_s11 : List nm_S := [(11, 2, false, 491)]
theorem nd_s11_ok : nd_s11.all (nm_schk nd_ct nd_ml "PaperParcels$Emitter") = true := by decide +kernel
theorem nd_ok11 : am_ok nm_Ts nm_Tn nd_cl nd_mt nd_fr nd_lo 11 (am_in nd_i11) (am_fl nd_fi10) (am_ct nd_k10) (am_sl nd_ml nd_s11) := nm_ok (x := 11) (ini := true) rfl (by decide +kernel) nd_cok nd_i11_ok (by exact fun _ => rfl) nd_fi10_ok nd_k10_ok nd_s11_ok (by decide +kernel)
def nd_n11 : List nm_N := [(9, 1, [.null, .int 0, .int 0], 490, 151, 117)]
def nd_a11 : List (Nat × Nat) := []
def nd_m11 : List (Nat × Nat) := []
def nd_o11 : List (Nat × Nat) := [(3, 489)]
theorem nd_okA11 : am_okA "PaperParcels$Emitter" "PaperParcels$Paper" nm_Ts nm_Tn nd_cl (nd_fr 11) (nd_lo 11) (am_nl nd_n11) (am_pl nd_a11) (am_pl nd_m11) (am_pl nd_o11) := nd_okA (by decide +kernel) (by decide +kernel) (by decide +kernel) (by decide +kernel) (by decide +kernel) (by decide +kernel)
-- PaperParcelsModel.<init>()V
def nd_i146 : List (Nat × Instr × Nat) := [(0, .aload_n 0, 1), (1, .invokespecial 1, 3), (4, .aload_n 0, 1), (5, .sipush 480, 3), (8, .newarray .int, 2), (10, .putfield 7, 3), (13, .aload_n 0, 1), (14, .iconst (-1), 1), (15, .putfield 13, 3), (18, .aload_n 0, 1), (19, .iconst 2, 1), (20, .newarray .int, 2), (22, .putfield 17, 3), (25, .aload_n 0, 1), (26, .iconst 2, 1), (27, .newarray .int, 2), (29, .putfield 20, 3), (32, .aload_n 0, 1), (33, .iconst 2, 1), (34, .newarray .int, 2), (36, .putfield 23, 3), (39, .aload_n 0, 1), (40, .sipush 600, 3), (43, .newarray .int, 2), (45, .putfield 26, 3), (48, .aload_n 0, 1), (49, .iconst 2, 1), (50, .newarray .int, 2), (52, .putfield 29, 3), (55, .aload_n 0, 1), (56, .iconst 2, 1), (57, .newarray .int, 2), (59, .putfield 32, 3), (62, .aload_n 0, 1), (63, .bipush 60, 2), (65, .newarray .int, 2), (67, .putfield 35, 3), (70, .aload_n 0, 1), (71, .bipush 60, 2), (73, .newarray .int, 2), (75, .putfield 38, 3), (78, .aload_n 0, 1), (79, .bipush 60, 2), (81, .newarray .int, 2), (83, .putfield 41, 3), (86, .aload_n 0, 1), (87, .sipush 600, 3), (90, .newarray .int, 2), (92, .putfield 44, 3), (95, .aload_n 0, 1), (96, .bipush 8, 2), (98, .newarray .int, 2), (100, .putfield 47, 3), (103, .aload_n 0, 1), (104, .bipush 26, 2), (106, .newarray .boolean, 2), (108, .putfield 50, 3), (111, .aload_n 0, 1), (112, .bipush 26, 2), (114, .newarray .int, 2), (116, .putfield 54, 3), (119, .aload_n 0, 1), (120, .bipush 78, 2), (122, .newarray .int, 2), (124, .putfield 57, 3), (127, .aload_n 0, 1), (128, .iconst 4, 1), (129, .newarray .int, 2), (131, .putfield 60, 3), (134, .aload_n 0, 1), (135, .sipush 400, 3), (138, .newarray .int, 2), (140, .putfield 63, 3), (143, .aload_n 0, 1), (144, .sipush 400, 3), (147, .newarray .int, 2), (149, .putfield 66, 3), (152, .aload_n 0, 1), (153, .sipush 1200, 3), (156, .newarray .int, 2), (158, .putfield 69, 3), (161, .aload_n 0, 1), (162, .sipush 400, 3), (165, .newarray .int, 2), (167, .putfield 72, 3), (170, .aload_n 0, 1), (171, .sipush 400, 3), (174, .newarray .int, 2), (176, .putfield 75, 3), (179, .aload_n 0, 1), (180, .iconst 4, 1), (181, .newarray .int, 2), (183, .putfield 78, 3), (186, .aload_n 0, 1), (187, .sipush 2800, 3), (190, .newarray .int, 2), (192, .putfield 81, 3), (195, .aload_n 0, 1), (196, .bipush 30, 2), (198, .newarray .int, 2), (200, .putfield 84, 3), (203, .aload_n 0, 1), (204, .bipush 120, 2), (206, .newarray .int, 2), (208, .putfield 87, 3), (211, .aload_n 0, 1), (212, .bipush 120, 2), (214, .newarray .int, 2), (216, .putfield 90, 3), (219, .aload_n 0, 1), (220, .bipush 120, 2), (222, .newarray .int, 2), (224, .putfield 93, 3), (227, .aload_n 0, 1), (228, .bipush 120, 2), (230, .newarray .int, 2), (232, .putfield 96, 3), (235, .aload_n 0, 1), (236, .sipush 200, 3), (239, .newarray .int, 2), (241, .putfield 99, 3), (244, .aload_n 0, 1), (245, .sipush 1600, 3), (248, .newarray .int, 2), (250, .putfield 102, 3), (253, .aload_n 0, 1), (254, .bipush 40, 2), (256, .newarray .int, 2), (258, .putfield 105, 3), (261, .aload_n 0, 1), (262, .bipush 40, 2), (264, .newarray .int, 2), (266, .putfield 108, 3), (269, .aload_n 0, 1), (270, .sipush 1681, 3), (273, .newarray .int, 2), (275, .putfield 111, 3), (278, .aload_n 0, 1), (279, .bipush 16, 2), (281, .newarray .int, 2), (283, .putfield 114, 3), (286, .aload_n 0, 1), (287, .bipush 16, 2), (289, .newarray .int, 2), (291, .putfield 117, 3), (294, .aload_n 0, 1), (295, .bipush 16, 2), (297, .newarray .int, 2), (299, .putfield 120, 3), (302, .aload_n 0, 1), (303, .bipush 16, 2), (305, .newarray .int, 2), (307, .putfield 123, 3), (310, .aload_n 0, 1), (311, .bipush 40, 2), (313, .newarray .boolean, 2), (315, .putfield 126, 3), (318, .aload_n 0, 1), (319, .bipush 40, 2), (321, .newarray .int, 2), (323, .putfield 129, 3), (326, .aload_n 0, 1), (327, .bipush 40, 2), (329, .newarray .int, 2), (331, .putfield 132, 3), (334, .aload_n 0, 1), (335, .sipush 4800, 3), (338, .newarray .int, 2), (340, .putfield 135, 3), (343, .aload_n 0, 1), (344, .iconst 2, 1), (345, .newarray .int, 2), (347, .putfield 138, 3), (350, .aload_n 0, 1), (351, .sipush 600, 3), (354, .newarray .int, 2), (356, .putfield 141, 3), (359, .aload_n 0, 1), (360, .iconst 2, 1), (361, .newarray .int, 2), (363, .putfield 144, 3), (366, .aload_n 0, 1), (367, .sipush 240, 3), (370, .newarray .int, 2), (372, .putfield 147, 3), (375, .return_, 1)]
theorem nd_i146_ok : am_ic prog_14_method_1_code nd_i146 = true := by decide +kernel
def nd_s146 : List nm_S := []
theorem nd_s146_ok : nd_s146.all (nm_schk nd_ct nd_ml "PaperParcelsModel") = true := by decide +kernel
theorem nd_ok146 : am_ok nm_Ts nm_Tn nd_cl nd_mt nd_fr nd_lo 146 (am_in nd_i146) (am_fl nd_fi11) (am_ct nd_k11) (am_sl nd_ml nd_s146) := nm_ok (x := 146) (ini := true) rfl (by decide +kernel) nd_cok nd_i146_ok (by exact fun _ => rfl) nd_fi11_ok nd_k11_ok nd_s146_ok (by decide +kernel)
def nd_n146 : List nm_N := []
def nd_a146 : List (Nat × Nat) := []
def nd_m146 : List (Nat × Nat) := []
def nd_o146 : List (Nat × Nat) := [(1, 1222)]
theorem nd_okA146 : am_okA "PaperParcelsModel" "PaperParcels$Paper" nm_Ts nm_Tn nd_cl (nd_fr 146) (nd_lo 146) (am_nl nd_n146) (am_pl nd_a146) (am_pl nd_m146) (am_pl nd_o146) := nd_okA (by decide +kernel) (by decide +kernel) (by decide +kernel) (by decide +kernel) (by decide +kernel) (by decide +kernel)
end
section
/-! The constructors run: what they make (printed by wip/gen/ctor.py). -/
abbrev nd_TA : Type := (Nat → Option (Instr × Nat)) × (Nat → Option (Nat × Nat × Nat)) × (Nat → Option Value) × (Nat → Option (Nat × List Value)) × (Nat → Bool) × (Nat → Bool) × (Nat → Bool) × (Nat → Option (Nat × Nat × Nat × Nat)) × Nat
def nd_tA (y : Nat) : Option nd_TA := match y with
  | 0 => some (am_in nd_i0, am_fl nd_fi0, am_ct nd_k0, am_nl nd_n0, am_pl nd_a0, am_pl nd_m0, am_pl nd_o0, am_sl nd_ml nd_s0, 1)
  | 2 => some (am_in nd_i2, am_fl nd_fi1, am_ct nd_k1, am_nl nd_n2, am_pl nd_a2, am_pl nd_m2, am_pl nd_o2, am_sl nd_ml nd_s2, 2)
  | 3 => some (am_in nd_i3, am_fl nd_fi2, am_ct nd_k2, am_nl nd_n3, am_pl nd_a3, am_pl nd_m3, am_pl nd_o3, am_sl nd_ml nd_s3, 3)
  | 4 => some (am_in nd_i4, am_fl nd_fi3, am_ct nd_k3, am_nl nd_n4, am_pl nd_a4, am_pl nd_m4, am_pl nd_o4, am_sl nd_ml nd_s4, 1)
  | 5 => some (am_in nd_i5, am_fl nd_fi4, am_ct nd_k4, am_nl nd_n5, am_pl nd_a5, am_pl nd_m5, am_pl nd_o5, am_sl nd_ml nd_s5, 2)
  | 6 => some (am_in nd_i6, am_fl nd_fi5, am_ct nd_k5, am_nl nd_n6, am_pl nd_a6, am_pl nd_m6, am_pl nd_o6, am_sl nd_ml nd_s6, 2)
  | 7 => some (am_in nd_i7, am_fl nd_fi6, am_ct nd_k6, am_nl nd_n7, am_pl nd_a7, am_pl nd_m7, am_pl nd_o7, am_sl nd_ml nd_s7, 3)
  | 8 => some (am_in nd_i8, am_fl nd_fi7, am_ct nd_k7, am_nl nd_n8, am_pl nd_a8, am_pl nd_m8, am_pl nd_o8, am_sl nd_ml nd_s8, 4)
  | 9 => some (am_in nd_i9, am_fl nd_fi8, am_ct nd_k8, am_nl nd_n9, am_pl nd_a9, am_pl nd_m9, am_pl nd_o9, am_sl nd_ml nd_s9, 4)
  | 10 => some (am_in nd_i10, am_fl nd_fi9, am_ct nd_k9, am_nl nd_n10, am_pl nd_a10, am_pl nd_m10, am_pl nd_o10, am_sl nd_ml nd_s10, 2)
  | 11 => some (am_in nd_i11, am_fl nd_fi10, am_ct nd_k10, am_nl nd_n11, am_pl nd_a11, am_pl nd_m11, am_pl nd_o11, am_sl nd_ml nd_s11, 1)
  | 146 => some (am_in nd_i146, am_fl nd_fi11, am_ct nd_k11, am_nl nd_n146, am_pl nd_a146, am_pl nd_m146, am_pl nd_o146, am_sl nd_ml nd_s146, 1)
  | _ => none
def nd_rA : Nat → Nat → List Value → List va_E → Option (Option Value × List va_E)
  | 0, _, _, _ => none
  | d + 1, y, As, h => match nd_tA y with
    | none => none
    | some T => if (am_ent As).length ≤ T.2.2.2.2.2.2.2.2 then (match am_lA (nd_rA d) T.1 T.2.1 T.2.2.1 T.2.2.2.1 T.2.2.2.2.1 T.2.2.2.2.2.1 T.2.2.2.2.2.2.1 T.2.2.2.2.2.2.2.1 (am_ret T.1 none) 400 (0, am_entry As T.2.2.2.2.2.2.2.2, [], h) with
      | some (v, h') => if h'.length ≤ 1000000 then some (v, h') else none
      | none => none) else none
def hp_c : List va_E := [
  .inr (0, [.ref 1, .ref 3, .ref 28, .ref 69, .ref 169]),
  .inr (1, [.ref 2, .int 0, .int 0]),
  .inl (0, 480, .inl (fun _ => 0)),
  .inl (3, 3, .inr (.inr (.inr (.inr (va_up (va_up (va_up (fun _ => none) 0 (some 4)) 1 (some 12)) 2 (some 20)))))),
  .inr (2, [.ref 5, .ref 6, .ref 7, .ref 8, .ref 9, .ref 10, .int 0]),
  .inl (0, 40, .inl (fun _ => 0)),
  .inl (0, 40, .inl (fun _ => 0)),
  .inl (0, 40, .inl (fun _ => 0)),
  .inl (0, 40, .inl (fun _ => 0)),
  .inl (0, 40, .inl (fun _ => 0)),
  .inr (1, [.ref 11, .int 0, .int 0]),
  .inl (0, 300, .inl (fun _ => 0)),
  .inr (2, [.ref 13, .ref 14, .ref 15, .ref 16, .ref 17, .ref 18, .int 0]),
  .inl (0, 40, .inl (fun _ => 0)),
  .inl (0, 40, .inl (fun _ => 0)),
  .inl (0, 40, .inl (fun _ => 0)),
  .inl (0, 40, .inl (fun _ => 0)),
  .inl (0, 40, .inl (fun _ => 0)),
  .inr (1, [.ref 19, .int 0, .int 0]),
  .inl (0, 300, .inl (fun _ => 0)),
  .inr (2, [.ref 21, .ref 22, .ref 23, .ref 24, .ref 25, .ref 26, .int 0]),
  .inl (0, 80, .inl (fun _ => 0)),
  .inl (0, 80, .inl (fun _ => 0)),
  .inl (0, 80, .inl (fun _ => 0)),
  .inl (0, 80, .inl (fun _ => 0)),
  .inl (0, 80, .inl (fun _ => 0)),
  .inr (1, [.ref 27, .int 0, .int 0]),
  .inl (0, 600, .inl (fun _ => 0)),
  .inr (3, [.ref 29, .int (-1), .ref 37, .ref 40, .ref 43, .ref 52, .ref 61, .ref 66]),
  .inr (2, [.ref 30, .ref 31, .ref 32, .ref 33, .ref 34, .ref 35, .int 0]),
  .inl (0, 40, .inl (fun _ => 0)),
  .inl (0, 40, .inl (fun _ => 0)),
  .inl (0, 40, .inl (fun _ => 0)),
  .inl (0, 40, .inl (fun _ => 0)),
  .inl (0, 40, .inl (fun _ => 0)),
  .inr (1, [.ref 36, .int 0, .int 0]),
  .inl (0, 300, .inl (fun _ => 0)),
  .inr (4, [.int 83, .ref 38, .int 0, .int 0, .int 0]),
  .inr (1, [.ref 39, .int 0, .int 0]),
  .inl (0, 300, .inl (fun _ => 0)),
  .inr (4, [.int 67, .ref 41, .int 0, .int 0, .int 0]),
  .inr (1, [.ref 42, .int 0, .int 0]),
  .inl (0, 300, .inl (fun _ => 0)),
  .inr (5, [.ref 38, .ref 44, .ref 45, .ref 46, .ref 47, .ref 48, .int 0, .ref 49, .ref 50, .int 0, .ref 51, .int 0, .int 0, .int 0]),
  .inl (0, 30, .inl (fun _ => 0)),
  .inl (0, 30, .inl (fun _ => 0)),
  .inl (0, 30, .inl (fun _ => 0)),
  .inl (0, 30, .inl (fun _ => 0)),
  .inl (0, 30, .inl (fun _ => 0)),
  .inl (0, 60, .inl (fun _ => 0)),
  .inl (0, 60, .inl (fun _ => 0)),
  .inl (0, 300, .inl (fun _ => 0)),
  .inr (5, [.ref 41, .ref 53, .ref 54, .ref 55, .ref 56, .ref 57, .int 0, .ref 58, .ref 59, .int 0, .ref 60, .int 0, .int 0, .int 0]),
  .inl (0, 30, .inl (fun _ => 0)),
  .inl (0, 30, .inl (fun _ => 0)),
  .inl (0, 30, .inl (fun _ => 0)),
  .inl (0, 30, .inl (fun _ => 0)),
  .inl (0, 30, .inl (fun _ => 0)),
  .inl (0, 60, .inl (fun _ => 0)),
  .inl (0, 60, .inl (fun _ => 0)),
  .inl (0, 300, .inl (fun _ => 0)),
  .inr (6, [.ref 43, .ref 52, .ref 62, .ref 63, .ref 64, .ref 65]),
  .inl (0, 26, .inl (fun _ => 0)),
  .inl (0, 26, .inl (fun _ => 0)),
  .inl (0, 26, .inl (fun _ => 0)),
  .inl (0, 26, .inl (fun _ => 0)),
  .inr (7, [.ref 52, .ref 61, .ref 29, .ref 67, .ref 68, .int 0]),
  .inl (0, 30, .inl (fun _ => 0)),
  .inl (0, 30, .inl (fun _ => 0)),
  .inr (8, [.int 0, .int 0, .ref 80, .ref 81, .ref 82, .ref 83, .ref 70, .ref 75, .ref 20, .ref 84, .ref 125, .ref 167, .ref 168, .int 0]),
  .inr (9, [.ref 4, .ref 71, .ref 72, .ref 73, .ref 74]),
  .inl (0, 40, .inl (fun _ => 0)),
  .inl (0, 40, .inl (fun _ => 0)),
  .inl (0, 40, .inl (fun _ => 0)),
  .inl (0, 41, .inl (fun _ => 0)),
  .inr (9, [.ref 12, .ref 76, .ref 77, .ref 78, .ref 79]),
  .inl (0, 40, .inl (fun _ => 0)),
  .inl (0, 40, .inl (fun _ => 0)),
  .inl (0, 40, .inl (fun _ => 0)),
  .inl (0, 41, .inl (fun _ => 0)),
  .inl (0, 80, .inl (fun _ => 0)),
  .inl (0, 80, .inl (fun _ => 0)),
  .inl (0, 80, .inl (fun _ => 0)),
  .inl (0, 80, .inl (fun _ => 0)),
  .inl (4, 40, .inr (.inr (.inr (.inr (fun i => if i < 40 then some (84 + 1 + i) else none))))),
  .inl (0, 40, .inl (fun _ => 0)),
  .inl (0, 40, .inl (fun _ => 0)),
  .inl (0, 40, .inl (fun _ => 0)),
  .inl (0, 40, .inl (fun _ => 0)),
  .inl (0, 40, .inl (fun _ => 0)),
  .inl (0, 40, .inl (fun _ => 0)),
  .inl (0, 40, .inl (fun _ => 0)),
  .inl (0, 40, .inl (fun _ => 0)),
  .inl (0, 40, .inl (fun _ => 0)),
  .inl (0, 40, .inl (fun _ => 0)),
  .inl (0, 40, .inl (fun _ => 0)),
  .inl (0, 40, .inl (fun _ => 0)),
  .inl (0, 40, .inl (fun _ => 0)),
  .inl (0, 40, .inl (fun _ => 0)),
  .inl (0, 40, .inl (fun _ => 0)),
  .inl (0, 40, .inl (fun _ => 0)),
  .inl (0, 40, .inl (fun _ => 0)),
  .inl (0, 40, .inl (fun _ => 0)),
  .inl (0, 40, .inl (fun _ => 0)),
  .inl (0, 40, .inl (fun _ => 0)),
  .inl (0, 40, .inl (fun _ => 0)),
  .inl (0, 40, .inl (fun _ => 0)),
  .inl (0, 40, .inl (fun _ => 0)),
  .inl (0, 40, .inl (fun _ => 0)),
  .inl (0, 40, .inl (fun _ => 0)),
  .inl (0, 40, .inl (fun _ => 0)),
  .inl (0, 40, .inl (fun _ => 0)),
  .inl (0, 40, .inl (fun _ => 0)),
  .inl (0, 40, .inl (fun _ => 0)),
  .inl (0, 40, .inl (fun _ => 0)),
  .inl (0, 40, .inl (fun _ => 0)),
  .inl (0, 40, .inl (fun _ => 0)),
  .inl (0, 40, .inl (fun _ => 0)),
  .inl (0, 40, .inl (fun _ => 0)),
  .inl (0, 40, .inl (fun _ => 0)),
  .inl (0, 40, .inl (fun _ => 0)),
  .inl (0, 40, .inl (fun _ => 0)),
  .inl (0, 40, .inl (fun _ => 0)),
  .inl (0, 40, .inl (fun _ => 0)),
  .inl (0, 40, .inl (fun _ => 0)),
  .inl (4, 41, .inr (.inr (.inr (.inr (fun i => if i < 41 then some (125 + 1 + i) else none))))),
  .inl (0, 41, .inl (fun _ => 0)),
  .inl (0, 41, .inl (fun _ => 0)),
  .inl (0, 41, .inl (fun _ => 0)),
  .inl (0, 41, .inl (fun _ => 0)),
  .inl (0, 41, .inl (fun _ => 0)),
  .inl (0, 41, .inl (fun _ => 0)),
  .inl (0, 41, .inl (fun _ => 0)),
  .inl (0, 41, .inl (fun _ => 0)),
  .inl (0, 41, .inl (fun _ => 0)),
  .inl (0, 41, .inl (fun _ => 0)),
  .inl (0, 41, .inl (fun _ => 0)),
  .inl (0, 41, .inl (fun _ => 0)),
  .inl (0, 41, .inl (fun _ => 0)),
  .inl (0, 41, .inl (fun _ => 0)),
  .inl (0, 41, .inl (fun _ => 0)),
  .inl (0, 41, .inl (fun _ => 0)),
  .inl (0, 41, .inl (fun _ => 0)),
  .inl (0, 41, .inl (fun _ => 0)),
  .inl (0, 41, .inl (fun _ => 0)),
  .inl (0, 41, .inl (fun _ => 0)),
  .inl (0, 41, .inl (fun _ => 0)),
  .inl (0, 41, .inl (fun _ => 0)),
  .inl (0, 41, .inl (fun _ => 0)),
  .inl (0, 41, .inl (fun _ => 0)),
  .inl (0, 41, .inl (fun _ => 0)),
  .inl (0, 41, .inl (fun _ => 0)),
  .inl (0, 41, .inl (fun _ => 0)),
  .inl (0, 41, .inl (fun _ => 0)),
  .inl (0, 41, .inl (fun _ => 0)),
  .inl (0, 41, .inl (fun _ => 0)),
  .inl (0, 41, .inl (fun _ => 0)),
  .inl (0, 41, .inl (fun _ => 0)),
  .inl (0, 41, .inl (fun _ => 0)),
  .inl (0, 41, .inl (fun _ => 0)),
  .inl (0, 41, .inl (fun _ => 0)),
  .inl (0, 41, .inl (fun _ => 0)),
  .inl (0, 41, .inl (fun _ => 0)),
  .inl (0, 41, .inl (fun _ => 0)),
  .inl (0, 41, .inl (fun _ => 0)),
  .inl (0, 41, .inl (fun _ => 0)),
  .inl (0, 41, .inl (fun _ => 0)),
  .inl (0, 40, .inl (fun _ => 0)),
  .inl (0, 40, .inl (fun _ => 0)),
  .inr (10, [.ref 170, .ref 172, .ref 174, .ref 176, .ref 178, .int 0]),
  .inr (1, [.ref 171, .int 0, .int 0]),
  .inl (0, 480, .inl (fun _ => 0)),
  .inr (1, [.ref 173, .int 0, .int 0]),
  .inl (0, 300, .inl (fun _ => 0)),
  .inr (1, [.ref 175, .int 0, .int 0]),
  .inl (0, 300, .inl (fun _ => 0)),
  .inr (1, [.ref 177, .int 0, .int 0]),
  .inl (0, 300, .inl (fun _ => 0)),
  .inl (0, 26, .inl (fun _ => 0))]
def hp_m : List va_E := [
  .inr (11, [.int 0, .ref 180, .int 0, .int (-1), .ref 181, .ref 182, .ref 183, .ref 184, .ref 185, .ref 186, .ref 187, .ref 188, .ref 189, .ref 190, .ref 191, .int 0, .int 0, .int 0, .int 0, .ref 192, .ref 193, .ref 194, .ref 195, .ref 196, .ref 197, .ref 198, .ref 199, .ref 200, .ref 201, .ref 202, .ref 203, .int 0, .int 0, .ref 204, .ref 205, .ref 206, .ref 207, .ref 208, .ref 209, .ref 210, .ref 211, .int 0, .int 0, .ref 212, .ref 213, .ref 214, .ref 215, .ref 216, .ref 217, .ref 218, .ref 219, .ref 220, .ref 221, .ref 222, .ref 223, .ref 224, .int 0]),
  .inl (0, 480, .inl (fun _ => 0)),
  .inl (0, 2, .inl (fun _ => 0)),
  .inl (0, 2, .inl (fun _ => 0)),
  .inl (0, 2, .inl (fun _ => 0)),
  .inl (0, 600, .inl (fun _ => 0)),
  .inl (0, 2, .inl (fun _ => 0)),
  .inl (0, 2, .inl (fun _ => 0)),
  .inl (0, 60, .inl (fun _ => 0)),
  .inl (0, 60, .inl (fun _ => 0)),
  .inl (0, 60, .inl (fun _ => 0)),
  .inl (0, 600, .inl (fun _ => 0)),
  .inl (0, 8, .inl (fun _ => 0)),
  .inl (1, 26, .inl (fun _ => 0)),
  .inl (0, 26, .inl (fun _ => 0)),
  .inl (0, 78, .inl (fun _ => 0)),
  .inl (0, 4, .inl (fun _ => 0)),
  .inl (0, 400, .inl (fun _ => 0)),
  .inl (0, 400, .inl (fun _ => 0)),
  .inl (0, 1200, .inl (fun _ => 0)),
  .inl (0, 400, .inl (fun _ => 0)),
  .inl (0, 400, .inl (fun _ => 0)),
  .inl (0, 4, .inl (fun _ => 0)),
  .inl (0, 2800, .inl (fun _ => 0)),
  .inl (0, 30, .inl (fun _ => 0)),
  .inl (0, 120, .inl (fun _ => 0)),
  .inl (0, 120, .inl (fun _ => 0)),
  .inl (0, 120, .inl (fun _ => 0)),
  .inl (0, 120, .inl (fun _ => 0)),
  .inl (0, 200, .inl (fun _ => 0)),
  .inl (0, 1600, .inl (fun _ => 0)),
  .inl (0, 40, .inl (fun _ => 0)),
  .inl (0, 40, .inl (fun _ => 0)),
  .inl (0, 1681, .inl (fun _ => 0)),
  .inl (0, 16, .inl (fun _ => 0)),
  .inl (0, 16, .inl (fun _ => 0)),
  .inl (0, 16, .inl (fun _ => 0)),
  .inl (0, 16, .inl (fun _ => 0)),
  .inl (1, 40, .inl (fun _ => 0)),
  .inl (0, 40, .inl (fun _ => 0)),
  .inl (0, 40, .inl (fun _ => 0)),
  .inl (0, 4800, .inl (fun _ => 0)),
  .inl (0, 2, .inl (fun _ => 0)),
  .inl (0, 600, .inl (fun _ => 0)),
  .inl (0, 2, .inl (fun _ => 0)),
  .inl (0, 240, .inl (fun _ => 0))]
set_option maxRecDepth 100000 in
theorem hp_c_ok : nd_rA 5 0 [.ref 0] [.inr (0, [.null, .null, .null, .null, .null])] = some (none, hp_c) := rfl
set_option maxRecDepth 100000 in
theorem hp_m_ok : nd_rA 5 146 [.ref 179] (hp_c ++ [.inr (11, [.int 0, .null, .int 0, .int 0, .null, .null, .null, .null, .null, .null, .null, .null, .null, .null, .null, .int 0, .int 0, .int 0, .int 0, .null, .null, .null, .null, .null, .null, .null, .null, .null, .null, .null, .null, .int 0, .int 0, .null, .null, .null, .null, .null, .null, .null, .null, .int 0, .int 0, .null, .null, .null, .null, .null, .null, .null, .null, .null, .null, .null, .null, .null, .int 0])]) = some (none, hp_c ++ hp_m) := rfl
end
section
/-! What the constructors compute is what they promise. -/
/-- the world of the claim: launch, places, numbers, tables -/
def cx_ok (l : Launch) (D : va_G) (ad : Nat → Nat) (ca : Nat → ClassId) (A : Nat → Prop) (tys : List (ClassId × FieldType)) (XX : State → Prop) (b0 : Nat) : Prop :=
  tys[0]? = some (ca 0, .int) ∧ tys[1]? = some (ca 1, .boolean) ∧ tys[2]? = some (ca 2, .long) ∧ tys[3]? = some (ca 3, .object "PaperParcels$Paper") ∧ tys[4]? = some (ca 4, .array .int) ∧ am_XX A nm_Tn XX ∧ (∀ k, k < 1000000 → ad k = b0 + k) ∧ (∀ h : List va_E, h.length ≤ 1000000 → va_D A (am_ws ad ca h)) ∧ l.stackTraces = false
theorem cx_t3 {l : Launch} {D : va_G} {ad : Nat → Nat} {ca : Nat → ClassId} {A : Nat → Prop} {tys : List (ClassId × FieldType)} {XX : State → Prop} {b0 : Nat} (h : cx_ok l D ad ca A tys XX b0) : am_t3 tys ca := by
  obtain ⟨-, -, -, h3, h4, -⟩ := h
  intro tg ht
  rcases ht with rfl | rfl
  · exact ⟨_, h3, rfl⟩
  · exact ⟨_, h4, rfl⟩
section CTA
variable {l : Launch} {D : va_G} {ad : Nat → Nat} {ca : Nat → ClassId} {A : Nat → Prop} {tys : List (ClassId × FieldType)} {XX : State → Prop} {b0 : Nat}
set_option maxHeartbeats 4000000 in
set_option maxRecDepth 100000 in
theorem nd_rA_ok (hK : cx_ok l D ad ca A tys XX b0) : ∀ (d y : Nat) (As : List Value) (h : List va_E) (v : Option Value) (h' : List va_E), nd_rA d y As h = some (v, h') → am_MA l D nd_cl tys ad ca A XX nm_Ts nd_mt nd_fr nd_lo b0 y As h v h' := by
  have t3 := cx_t3 hK
  obtain ⟨t0, t1, t2, t33, t44, hXX, had, hD9, -⟩ := hK
  intro d
  induction d with
  | zero => intro y As h v h' hr; cases hr
  | succ d ih =>
    intro y As h v h' hr
    unfold nd_rA at hr
    split at hr
    · cases hr
    · next T hT =>
      split at hr
      · next hn =>
        split at hr
        · next v1 h1 hl =>
          split at hr
          · next hlen =>
            cases hr
            have hE := am_lA_ok (Cr := fun y As h w h1 => nd_rA d y As h = some (w, h1)) (fun _ _ _ _ _ hc => hc) _ _ hl
            have hCr : ∀ y As h w h1, nd_rA d y As h = some (w, h1) → am_MA l D nd_cl tys ad ca A XX nm_Ts nd_mt nd_fr nd_lo b0 y As h w h1 := fun y As h w h1 hc => ih y As h w h1 hc
            unfold nd_tA at hT
            split at hT
            · cases hT; exact am_meetsA (T3 := nd_T2) (N3 := 7) nd_ok0 nd_okA0 nm_good t0 t1 t2 t3 t33 t44 rfl hXX had hD9 hCr hn hlen hE
            · cases hT; exact am_meetsA (T3 := nd_T2) (N3 := 7) nd_ok2 nd_okA2 nm_good t0 t1 t2 t3 t33 t44 rfl hXX had hD9 hCr hn hlen hE
            · cases hT; exact am_meetsA (T3 := nd_T2) (N3 := 7) nd_ok3 nd_okA3 nm_good t0 t1 t2 t3 t33 t44 rfl hXX had hD9 hCr hn hlen hE
            · cases hT; exact am_meetsA (T3 := nd_T2) (N3 := 7) nd_ok4 nd_okA4 nm_good t0 t1 t2 t3 t33 t44 rfl hXX had hD9 hCr hn hlen hE
            · cases hT; exact am_meetsA (T3 := nd_T2) (N3 := 7) nd_ok5 nd_okA5 nm_good t0 t1 t2 t3 t33 t44 rfl hXX had hD9 hCr hn hlen hE
            · cases hT; exact am_meetsA (T3 := nd_T2) (N3 := 7) nd_ok6 nd_okA6 nm_good t0 t1 t2 t3 t33 t44 rfl hXX had hD9 hCr hn hlen hE
            · cases hT; exact am_meetsA (T3 := nd_T2) (N3 := 7) nd_ok7 nd_okA7 nm_good t0 t1 t2 t3 t33 t44 rfl hXX had hD9 hCr hn hlen hE
            · cases hT; exact am_meetsA (T3 := nd_T2) (N3 := 7) nd_ok8 nd_okA8 nm_good t0 t1 t2 t3 t33 t44 rfl hXX had hD9 hCr hn hlen hE
            · cases hT; exact am_meetsA (T3 := nd_T2) (N3 := 7) nd_ok9 nd_okA9 nm_good t0 t1 t2 t3 t33 t44 rfl hXX had hD9 hCr hn hlen hE
            · cases hT; exact am_meetsA (T3 := nd_T2) (N3 := 7) nd_ok10 nd_okA10 nm_good t0 t1 t2 t3 t33 t44 rfl hXX had hD9 hCr hn hlen hE
            · cases hT; exact am_meetsA (T3 := nd_T2) (N3 := 7) nd_ok11 nd_okA11 nm_good t0 t1 t2 t3 t33 t44 rfl hXX had hD9 hCr hn hlen hE
            · cases hT; exact am_meetsA (T3 := nd_T2) (N3 := 7) nd_ok146 nd_okA146 nm_good t0 t1 t2 t3 t33 t44 rfl hXX had hD9 hCr hn hlen hE
            · cases hT
          · cases hr
        · cases hr
      · cases hr
end CTA
end
section
/-! THE CLAIM OUT OF ONE WALK OF THE LAW'S BODY. Your part is whole_start (and what it stands on); all else here is the same for every law, but numbers. -/
def R_law : String := "PaperParcelsLaw"
def lw_P (b : Addr) (xs : List Int32) (args : Array Value) (s : State) : Prop := args = #[.ref b] ∧ s.IntsAt b xs ∧ xs.length ≤ 2048 ∧ (Jvm.Cond.and given_1 narrow_1).before args s = true
def lw_Q (_ : Array Value) (s : State) (o : Outcome) (t : State) : Prop := o = .returned (some (.int 1)) ∧ Framed s o t [] 601024 7293034
def lw_Z (below : List Frame) (a : Array Value) (s : State) : State → Prop := fun t => ∃ o, t.status = .running ∧ Ended t below o ∧ lw_Q a s o t
/-- the law's own end, with 1 on the stack, nothing written that was there before, its room as the claim has it -/
theorem lw_ret {p : Program} {l : Launch} {e : Env} {s : State} {m : MethodId} {below : List Frame} {meth : Method} {c : Code} {b : Nat} (hx : p.tables.exec = Jvm.exec) (hb : c.code = code) (hr : meth.sig.returnType = ret) (hlocks : meth.locks = false) {pc : Nat} {H : Heap} {ls : Array Slot} (hdg : decode code pc = .ok (.ireturn, 1)) : W p l e room_1 s m #[Value.ref b] below meth c H [] 601024 7293034 (lw_Z below #[Value.ref b] s) (F0 m pc ls [.int 1]) := by
  intro T hT X
  obtain ⟨fs, hret, hrun, hended, hW, hframe⟩ := X.leave (v := some (.int 1)) (hlocks := hlocks) (fun h => by rw [hr] at h; cases h)
  have hmeth' : T.vm.method? m = some meth := X.method'
  refine ⟨T.setFrames fs, ?_, .returned (some (.int 1)), hrun, hended, rfl, ⟨_, rfl⟩, hW, hframe⟩
  jvm_step X.here [X.here.top, hx, hb, hdg, hmeth', hr, ret, narrow_b1]
  (try refine ⟨rfl, ?_⟩); (try refine ⟨rfl, ?_⟩)
  first | (intro acts; rw [hret _ acts rfl rfl rfl]) | rw [hret _ _ rfl rfl rfl]
  exact Steps.refl _
/-- what holds at the law's entry: the machine, the code, the tables' words (any of lw_tbl by 'hts w (by decide +kernel)'), the script of L ints xs at the cell b, what the Statement gives of the start (any of its parts by flat_of_before) -/
def lw_At (p : Program) (s : State) (m : MethodId) (meth : Method) (c : Code) (b L : Nat) (xs : Nat → Int32) : Prop :=
  p.tables.exec = Jvm.exec ∧ c.code = code ∧ meth.sig.returnType = ret ∧ c.maxLocals = 7 ∧ s.vm.findClass R_law = some m.cls ∧ (∀ w ∈ lw_tbl, w.before #[Value.ref b] s = true) ∧ va_X b L xs s s.heap ∧ b < s.heap.size ∧ meth.locks = false ∧ (Jvm.Cond.and given_1 narrow_1).before #[Value.ref b] s = true
end
section
/-! The world at the law's entry: classes, arrays' classes, the words that are carried. -/
theorem sx_aoA {t : FieldType} {u U : State} (hvm : u.vm.Alike U.vm) {a a' : Array Value} (h : (Cond.arrayOver (.array t)).before a u = true) : (Cond.arrayOver (.array t)).before a' U = true := by
  obtain ⟨comp, c, k, h1, h2, h3, h4, h5⟩ := arrayOverA_spec h
  obtain ⟨k', hk', he⟩ := hvm.2.2 _ _ h3
  have e1 := va_idx_bare U.vm comp
  rw [hvm.bare_eq] at e1
  have e2 := e1.symm.trans ((va_idx_bare u.vm comp).trans h2)
  have e3 := hvm.findClass (FieldType.array t).toString none
  have e4 := hvm.findClass ("[" ++ (FieldType.array t).toString) none
  rw [h1] at e3
  rw [h5] at e4
  have e5 : k'.kind = .array comp (.array t) := by rw [he]; exact h4
  simp only [Cond.before, Cond.holds, Cond.value]
  rw [e3, Option.bind_some]
  erw [e2]
  simp [hk', e5, e4]
theorem sx_st {O n d : String} {s U : State} (hvm : s.vm.Alike U.vm) (hh : ∀ q, q < s.heap.size → U.heap[q]? = s.heap[q]?) {a a' : Array Value} {v : Value} (h : (Term.static O n d).eval a s none [] s = some v) : (Term.static O n d).eval a' U none [] U = some v := by
  cases hf : s.fieldFound? O n d with
  | none => simp [Term.eval, State.fieldNamed?, hf] at h
  | some w =>
    obtain ⟨c, k, i, f⟩ := w
    obtain ⟨k', hf', he⟩ := State.fieldFound?_setVm hvm hf
    have hf2 : U.fieldFound? O n d = some (c, k', i, f) := hf'
    have hs : k'.statics = k.statics := by rw [he]
    cases hst : f.isStatic with
    | false => simp [Term.eval, State.fieldNamed?, hf, hst] at h
    | true =>
      cases hk : k.statics with
      | none => simp [Term.eval, State.fieldNamed?, hf, hst, hk] at h
      | some q =>
        cases hq : s.heap[q]? with
        | none => simp [Term.eval, State.fieldNamed?, hf, hst, hk, hq] at h
        | some cell =>
          have hq2 : U.heap[q]? = some cell := (hh q (Array.getElem?_eq_some_iff.mp hq).1).trans hq
          simp [Term.eval, State.fieldNamed?, hf, hst, hk, hq] at h
          simp [Term.eval, State.fieldNamed?, hf2, hst, hs, hk, hq2]
          exact h
theorem sx_ls {O n d : String} {s U : State} (hvm : s.vm.Alike U.vm) (hh : ∀ q, q < s.heap.size → U.heap[q]? = s.heap[q]?) {a a' : Array Value} (h : (Cond.laysStatic O n d).before a s = true) : (Cond.laysStatic O n d).before a' U = true := by
  obtain ⟨c, k, i, f, q, cell, hc, hi, hst, ha, hcell, h1, h2, h3, h4⟩ := Cond.laysStatic_spec h
  obtain ⟨k', hf', he⟩ := State.fieldFound?_setVm hvm hi
  have hf2 : U.fieldFound? O n d = some (c, k', i, f) := hf'
  exact Cond.laysStatic_of (s := U) ((hvm.findClass O none).trans hc) hf2 hst (by rw [he]; exact ha) ((hh q (Array.getElem?_eq_some_iff.mp hcell).1).trans hcell) h1 h2 h3 (by rw [he]; exact h4)
theorem sx_ir {t : Term} {s : State} {a : Array Value} (h : (Cond.isRef t).before a s = true) : ∃ v, t.eval a s none [] s = some v ∧ ∀ (U : State) (a' : Array Value), t.eval a' U none [] U = some v → (Cond.isRef t).before a' U = true := by
  simp only [Cond.before, Cond.holds, Cond.value] at h
  cases he : t.eval a s none [] s with
  | none => simp [he] at h
  | some v =>
    refine ⟨v, rfl, fun U a' hU => ?_⟩
    simp only [Cond.before, Cond.holds, Cond.value, hU]
    simpa [he] using h
theorem sx_sc {C S : String} {s U : State} (hvm : s.vm.Alike U.vm) {a a' : Array Value} (h : (Cond.superclass C S).before a s = true) : (Cond.superclass C S).before a' U = true := by
  simp only [Cond.before, Cond.holds, Cond.value] at h ⊢
  rw [hvm.findClass, hvm.findClass]
  cases hc : s.vm.findClass C with
  | none => simp [hc] at h
  | some c =>
    cases hp : s.vm.findClass S with
    | none => simp [hc, hp] at h
    | some p =>
      simp only [hc, hp] at h ⊢
      cases hk : s.vm.classes[c]? with
      | none => simp [hk] at h
      | some k =>
        cases hkp : s.vm.classes[p]? with
        | none => simp [hkp] at h
        | some kp =>
          obtain ⟨k', hk', he⟩ := hvm.2.2 _ _ hk
          obtain ⟨kp', hkp', hep⟩ := hvm.2.2 _ _ hkp
          have e1 : k'.super = k.super := by rw [he]
          have e2 : k'.kind = k.kind := by rw [he]
          have e3 : kp'.kind = kp.kind := by rw [hep]
          have e4 : k'.isInterface = k.isInterface := by rw [he]; rfl
          simp only [hk, hkp, Option.bind_some, Option.map_some] at h
          simp only [hk', hkp', Option.bind_some, Option.map_some, e1, e2, e3, e4]
          exact h
/-- what stays: the tables, and every cell that was there at the entry -/
def sx_X (s U : State) : Prop := s.WarmedH U.vm ∧ s.heap.size ≤ U.heap.size ∧ ∀ q, q < s.heap.size → U.heap[q]? = s.heap[q]?
def sx_A (s : State) (q : Nat) : Prop := s.heap.size ≤ q
def sx_kN (w : Cond) : Bool := match w with
  | .methodLinkNest .. => true
  | .arrayOver (.object _) => true
  | .arrayOver (.array _) => true
  | .castable .. => true
  | .laysStatic .. => true
  | .declares _ => true
  | .superclass .. => true
  | _ => false
set_option maxRecDepth 100000 in
theorem sx_kinds : (lw_tbl.filter nm_isN).all sx_kN = true := by decide +kernel
def sx_tN : List Cond := [.isRef (.static Bundle.tN "UNASSIGNED_STACK" Bundle.steD), .isRef (.static Bundle.tN "SUPPRESSED_SENTINEL" Bundle.listD)]
theorem sx_XX {s : State} {a0 : Array Value} (hts : ∀ w ∈ lw_tbl, w.before a0 s = true) (h2 : ∀ w ∈ sx_tN, w.before a0 s = true) : am_XX (sx_A s) nm_Tn (sx_X s) := by
  refine ⟨fun U g mk a h => h, fun U V h hW hF => ⟨State.WarmedH.trans h.1 hW, Nat.le_trans h.2.1 hF.1, fun q hq => (hF.2 q (Nat.lt_of_lt_of_le hq h.2.1) (by unfold sx_A; omega)).trans (h.2.2 q hq)⟩, fun U h w hw a => ?_⟩
  obtain ⟨hW, hsz, hh⟩ := h
  have hal := hW.alike
  rcases List.mem_cons.mp hw with rfl | hw
  · obtain ⟨v, hv, hg⟩ := sx_ir (h2 (.isRef (.static Bundle.tN "UNASSIGNED_STACK" Bundle.steD)) (by unfold sx_tN; simp))
    exact hg U a (sx_st hal hh hv)
  rcases List.mem_cons.mp hw with rfl | hw
  · obtain ⟨v, hv, hg⟩ := sx_ir (h2 (.isRef (.static Bundle.tN "SUPPRESSED_SENTINEL" Bundle.listD)) (by unfold sx_tN; simp))
    exact hg U a (sx_st hal hh hv)
  have hk := List.all_eq_true.mp sx_kinds w hw
  have h0 := hts w (List.mem_filter.mp hw).1
  unfold sx_kN at hk
  split at hk
  · exact va_Nw.use rfl (va_Nw.warmM hW (va_Nw.of rfl h0))
  · exact va_AO.use (va_AO.moved hal (va_AO.of h0))
  · exact sx_aoA hal h0
  · exact va_Nw.use rfl (va_Nw.warmC hW (va_Nw.of rfl h0))
  · exact sx_ls hal hh h0
  · exact va_Nw.use rfl (va_Nw.warmD hW (va_Nw.of rfl h0))
  · exact sx_sc hal h0
  · cases hk
def sx_ki (C : String) (w : Cond) : Bool := match w with
  | .instantiable c _ => c == C
  | _ => false
set_option maxRecDepth 100000 in
theorem sx_inst : nd_ct.all (fun q => lw_tbl.any (sx_ki q.1.1)) = true := by decide +kernel
theorem sx_cl {s : State} {a0 : Array Value} (hts : ∀ w ∈ lw_tbl, w.before a0 s = true) : ∃ D : va_G, ∀ (c : Nat) (q : vw_C), nd_cl[c]? = some q → u_Kn s q.1 q.2.1 q.2.2 (D.1 c) (D.2 c) := by
  have h : ∀ c : Nat, ∃ x : ClassId × (Nat → Nat), ∀ q : vw_C, nd_cl[c]? = some q → u_Kn s q.1 q.2.1 q.2.2 x.1 x.2 := by
    intro c
    cases hc : nd_cl[c]? with
    | none => exact ⟨(0, fun _ => 0), fun q hq => by cases hq⟩
    | some q =>
      obtain ⟨r, hr, rfl⟩ := List.mem_map.mp (List.mem_of_getElem? hc)
      obtain ⟨w, hw, hw2⟩ := List.any_eq_true.mp (List.all_eq_true.mp sx_inst r hr)
      unfold sx_ki at hw2
      split at hw2
      · next C n =>
        have e : C = r.1.1 := by simpa using hw2
        subst e
        obtain ⟨cC, iS, hK⟩ := u_known (ws := nm_Ts) (fun w hw => hts w (List.mem_filter.mp hw).1) (nd_cok r hr).1 (hts _ hw)
        exact ⟨(cC, iS), fun q hq => by cases hq; exact hK⟩
      · cases hw2
  exact ⟨(fun c => (Classical.choose (h c)).1, fun c => (Classical.choose (h c)).2), fun c q hq => Classical.choose_spec (h c) q hq⟩
theorem sx_ac {s : State} {a0 : Array Value} {ty : FieldType} (hno : ∀ C, ty ≠ .object C) (h : (Cond.arrayClass ty).before a0 s = true) : ∃ c, ArrOfT s c ty ∧ va_RA s c ty := by
  obtain ⟨c, k, comp, h1, h2, h3⟩ := Cond.arrayClass_spec h
  refine ⟨c, fun N z => ⟨(fun k h => by cases h), k, h2, comp, h3⟩, ?_⟩
  cases ty with
  | object C => exact absurd rfl (hno C)
  | _ => exact h1
def sx_tys (ca : Nat → ClassId) : List (ClassId × FieldType) := [(ca 0, .int), (ca 1, .boolean), (ca 2, .long), (ca 3, .object "PaperParcels$Paper"), (ca 4, .array .int)]
def sx_ca (c0 c1 c2 c3 c4 : ClassId) (k : Nat) : ClassId := match k with
  | 0 => c0
  | 1 => c1
  | 2 => c2
  | 3 => c3
  | _ => c4
theorem sx_ty {s : State} {a0 : Array Value} (hts : ∀ w ∈ lw_tbl, w.before a0 s = true) : ∃ ca : Nat → ClassId, ∀ (k : Nat) (q : ClassId × FieldType), (sx_tys ca)[k]? = some q → ArrOfT s q.1 q.2 ∧ va_RA s q.1 q.2 := by
  have hT : ∀ w ∈ nm_Ts, w.before a0 s = true := fun w hw => hts w (List.mem_filter.mp hw).1
  obtain ⟨c0, p0⟩ := sx_ac (fun C h => by cases h) (hT _ nd_wa0)
  obtain ⟨c1, p1⟩ := sx_ac (fun C h => by cases h) (hT _ nd_wa1)
  obtain ⟨c2, p2⟩ := sx_ac (fun C h => by cases h) (hT _ nd_wa2)
  obtain ⟨m3, c3, k3, a1, a2, a3, a4, a5⟩ := Cond.arrayOver_spec (hts _ (List.mem_of_getElem? (i := 177) (by decide +kernel : lw_tbl[177]? = some (Cond.arrayOver (.object "PaperParcels$Paper")))))
  obtain ⟨m4, c4, k4, b1, b2, b3, b4, b5⟩ := arrayOverA_spec (hts _ (List.mem_of_getElem? (i := 436) (by decide +kernel : lw_tbl[436]? = some (Cond.arrayOver (.array .int)))))
  refine ⟨sx_ca c0 c1 c2 c3 c4, fun k q hq => ?_⟩
  match k, hq with
  | 0, hq => cases hq; exact p0
  | 1, hq => cases hq; exact p1
  | 2, hq => cases hq; exact p2
  | 3, hq => cases hq; exact ⟨fun N z => ⟨(fun k h => by cases h), k3, a3, m3, a4⟩, k3, m3, a3, a4, a1, a5⟩
  | 4, hq => cases hq; exact ⟨fun N z => ⟨(fun k h => by cases h), k4, b3, m4, b4⟩, b5⟩
  | k + 5, hq => simp [sx_tys] at hq
/-- the addresses of places: what is made from the entry on; place 1000000 is the script -/
def sx_ad (s : State) (b : Nat) (k : Nat) : Nat := if k < 1000000 then s.heap.size + k else b
theorem sx_D {s : State} {b : Nat} {ca : Nat → ClassId} (h : List va_E) (hl : h.length ≤ 1000000) : va_D (sx_A s) (am_ws (sx_ad s b) ca h) := by
  have h1 : ∀ (i : Nat) (p : Nat × va_E), (am_ws (sx_ad s b) ca h)[i]? = some p → p.1 = s.heap.size + i := by
    intro i p hp
    unfold am_ws at hp
    rw [List.getElem?_mapIdx] at hp
    cases hi : h[i]? with
    | none => rw [hi] at hp; cases hp
    | some x =>
      rw [hi] at hp
      simp only [Option.map_some, Option.some.injEq] at hp
      have := (List.getElem?_eq_some_iff.mp hi).1
      rw [← hp]
      show sx_ad s b i = _
      unfold sx_ad
      rw [if_pos (by omega)]
  refine ⟨fun i j p q hp hq e => ?_, fun k q hq => ?_⟩
  · have e1 := h1 i p hp
    have e2 := h1 j q hq
    omega
  · have e1 := h1 k q hq
    unfold sx_A
    omega
theorem sx_world {l : Launch} {s : State} {a0 : Array Value} {b : Nat} (hl : l.stackTraces = false) (hts : ∀ w ∈ lw_tbl, w.before a0 s = true) (h2 : ∀ w ∈ sx_tN, w.before a0 s = true) : ∃ (D : va_G) (ca : Nat → ClassId), cx_ok l D (sx_ad s b) ca (sx_A s) (sx_tys ca) (sx_X s) s.heap.size ∧ va_K D nd_cl (sx_tys ca) s ∧ sx_X s s := by
  obtain ⟨D, hD⟩ := sx_cl hts
  obtain ⟨ca, hca⟩ := sx_ty hts
  refine ⟨D, ca, ⟨rfl, rfl, rfl, rfl, rfl, sx_XX hts h2, fun k hk => by unfold sx_ad; rw [if_pos hk], fun h hh => sx_D h hh, hl⟩, ⟨hD, hca⟩, State.WarmedH.refl s, Nat.le_refl _, fun _ _ => rfl⟩
theorem sx_at {p : Program} {s : State} {m : MethodId} {meth : Method} {c : Code} {b L : Nat} {xs : Nat → Int32} (C0 : lw_At p s m meth c b L xs) : ∀ w ∈ sx_tN, w.before #[Value.ref b] s = true := by
  obtain ⟨-, -, -, -, -, -, -, -, -, hg⟩ := C0
  have hs := flat_of_before _ hg
  intro w hw
  unfold sx_tN at hw
  rcases List.mem_cons.mp hw with rfl | hw
  · exact hs _ (by decide +kernel)
  rcases List.mem_cons.mp hw with rfl | hw
  · exact hs _ (by decide +kernel)
  · cases hw
end
section
/-! The law's own instructions and tables (printed by wip/gen/law.py). -/
def lx_iA : List (Nat × Instr × Nat) := [(0, .new 8, 3), (3, .dup, 1), (4, .invokespecial 55, 3), (7, .astore_n 1, 1), (8, .new 56, 3), (11, .dup, 1), (12, .invokespecial 58, 3), (15, .astore_n 2, 1), (16, .iconst 1, 1), (17, .newarray .long, 2), (19, .astore_n 3, 1), (20, .iconst 0, 1), (21, .istore 4, 2)]
theorem lx_iA_ok : am_ic code lx_iA = true := by decide +kernel
def lx_iH : List (Nat × Instr × Nat) := [(23, .iload 4, 2), (25, .aload_n 0, 1), (26, .arraylength, 1), (27, .iconst 4, 1), (28, .isub, 1), (29, .if_icmp .gt 959, 3), (32, .aload_n 0, 1), (33, .iload 4, 2), (35, .iaload, 1), (36, .bipush 31, 2), (38, .iand, 1), (39, .tableswitch 943 0 16 #[81, 138, 151, 164, 189, 245, 258, 314, 382, 450, 530, 598, 678, 722, 735, 819, 875], 81), (982, .iinc 4 4, 3), (985, .goto (-962), 3), (988, .iconst 1, 1), (989, .ireturn, 1)]
theorem lx_iH_ok : am_ic code lx_iH = true := by decide +kernel
def lx_i0 : List (Nat × Instr × Nat) := [(120, .aload_n 1, 1), (121, .aload_n 0, 1), (122, .iload 4, 2), (124, .iconst 1, 1), (125, .iadd, 1), (126, .iaload, 1), (127, .i2l, 1), (128, .bipush 32, 2), (130, .lshl, 1), (131, .aload_n 0, 1), (132, .iload 4, 2), (134, .iconst 2, 1), (135, .iadd, 1), (136, .iaload, 1), (137, .i2l, 1), (138, .ldc2_w 59, 3), (141, .land, 1), (142, .lor, 1), (143, .invokevirtual 61, 3), (146, .aload_n 2, 1), (147, .aload_n 0, 1), (148, .iload 4, 2), (150, .iconst 1, 1), (151, .iadd, 1), (152, .iaload, 1), (153, .i2l, 1), (154, .bipush 32, 2), (156, .lshl, 1), (157, .aload_n 0, 1), (158, .iload 4, 2), (160, .iconst 2, 1), (161, .iadd, 1), (162, .iaload, 1), (163, .i2l, 1), (164, .ldc2_w 59, 3), (167, .land, 1), (168, .lor, 1), (169, .invokevirtual 65, 3), (172, .if_icmp .eq 810, 3), (175, .iconst 0, 1), (176, .ireturn, 1)]
theorem lx_i0_ok : am_ic code lx_i0 = true := by decide +kernel
def lx_i1 : List (Nat × Instr × Nat) := [(177, .aload_n 1, 1), (178, .invokevirtual 66, 3), (181, .aload_n 2, 1), (182, .invokevirtual 69, 3), (185, .if_icmp .eq 797, 3), (188, .iconst 0, 1), (189, .ireturn, 1)]
theorem lx_i1_ok : am_ic code lx_i1 = true := by decide +kernel
def lx_i2 : List (Nat × Instr × Nat) := [(190, .aload_n 1, 1), (191, .invokevirtual 70, 3), (194, .aload_n 2, 1), (195, .invokevirtual 73, 3), (198, .if_icmp .eq 784, 3), (201, .iconst 0, 1), (202, .ireturn, 1)]
theorem lx_i2_ok : am_ic code lx_i2 = true := by decide +kernel
def lx_i3 : List (Nat × Instr × Nat) := [(203, .aload_n 1, 1), (204, .aload_n 0, 1), (205, .iload 4, 2), (207, .iconst 1, 1), (208, .iadd, 1), (209, .iaload, 1), (210, .invokevirtual 74, 3), (213, .aload_n 2, 1), (214, .aload_n 0, 1), (215, .iload 4, 2), (217, .iconst 1, 1), (218, .iadd, 1), (219, .iaload, 1), (220, .invokevirtual 77, 3), (223, .if_icmp .eq 759, 3), (226, .iconst 0, 1), (227, .ireturn, 1)]
theorem lx_i3_ok : am_ic code lx_i3 = true := by decide +kernel
def lx_i4 : List (Nat × Instr × Nat) := [(228, .aload_n 1, 1), (229, .aload_n 0, 1), (230, .iload 4, 2), (232, .iconst 1, 1), (233, .iadd, 1), (234, .iaload, 1), (235, .aload_n 3, 1), (236, .invokestatic 78, 3), (239, .istore 5, 2), (241, .aload_n 2, 1), (242, .aload_n 0, 1), (243, .iload 4, 2), (245, .iconst 1, 1), (246, .iadd, 1), (247, .iaload, 1), (248, .invokevirtual 83, 3), (251, .istore 6, 2), (253, .aload_n 2, 1), (254, .invokevirtual 84, 3), (257, .iload 5, 2), (259, .if_icmp .eq 5, 3), (262, .iconst 0, 1), (263, .ireturn, 1), (264, .iload 5, 2), (266, .ifCond .ne 15, 3), (269, .aload_n 3, 1), (270, .iconst 0, 1), (271, .laload, 1), (272, .iload 6, 2), (274, .i2l, 1), (275, .lcmp, 1), (276, .ifCond .eq 5, 3), (279, .iconst 0, 1), (280, .ireturn, 1), (281, .goto 701, 3)]
theorem lx_i4_ok : am_ic code lx_i4 = true := by decide +kernel
def lx_i5 : List (Nat × Instr × Nat) := [(284, .aload_n 1, 1), (285, .invokevirtual 87, 3), (288, .aload_n 2, 1), (289, .invokevirtual 90, 3), (292, .if_icmp .eq 690, 3), (295, .iconst 0, 1), (296, .ireturn, 1)]
theorem lx_i5_ok : am_ic code lx_i5 = true := by decide +kernel
def lx_i6 : List (Nat × Instr × Nat) := [(297, .aload_n 1, 1), (298, .aload_n 0, 1), (299, .iload 4, 2), (301, .iconst 1, 1), (302, .iadd, 1), (303, .iaload, 1), (304, .aload_n 3, 1), (305, .invokestatic 91, 3), (308, .istore 5, 2), (310, .aload_n 2, 1), (311, .aload_n 0, 1), (312, .iload 4, 2), (314, .iconst 1, 1), (315, .iadd, 1), (316, .iaload, 1), (317, .invokevirtual 93, 3), (320, .istore 6, 2), (322, .aload_n 2, 1), (323, .invokevirtual 84, 3), (326, .iload 5, 2), (328, .if_icmp .eq 5, 3), (331, .iconst 0, 1), (332, .ireturn, 1), (333, .iload 5, 2), (335, .ifCond .ne 15, 3), (338, .aload_n 3, 1), (339, .iconst 0, 1), (340, .laload, 1), (341, .iload 6, 2), (343, .i2l, 1), (344, .lcmp, 1), (345, .ifCond .eq 5, 3), (348, .iconst 0, 1), (349, .ireturn, 1), (350, .goto 632, 3)]
theorem lx_i6_ok : am_ic code lx_i6 = true := by decide +kernel
def lx_i7 : List (Nat × Instr × Nat) := [(353, .aload_n 1, 1), (354, .aload_n 0, 1), (355, .iload 4, 2), (357, .iconst 1, 1), (358, .iadd, 1), (359, .iaload, 1), (360, .aload_n 0, 1), (361, .iload 4, 2), (363, .iconst 2, 1), (364, .iadd, 1), (365, .iaload, 1), (366, .aload_n 3, 1), (367, .invokestatic 94, 3), (370, .istore 5, 2), (372, .aload_n 2, 1), (373, .aload_n 0, 1), (374, .iload 4, 2), (376, .iconst 1, 1), (377, .iadd, 1), (378, .iaload, 1), (379, .aload_n 0, 1), (380, .iload 4, 2), (382, .iconst 2, 1), (383, .iadd, 1), (384, .iaload, 1), (385, .invokevirtual 97, 3), (388, .istore 6, 2), (390, .aload_n 2, 1), (391, .invokevirtual 84, 3), (394, .iload 5, 2), (396, .if_icmp .eq 5, 3), (399, .iconst 0, 1), (400, .ireturn, 1), (401, .iload 5, 2), (403, .ifCond .ne 15, 3), (406, .aload_n 3, 1), (407, .iconst 0, 1), (408, .laload, 1), (409, .iload 6, 2), (411, .i2l, 1), (412, .lcmp, 1), (413, .ifCond .eq 5, 3), (416, .iconst 0, 1), (417, .ireturn, 1), (418, .goto 564, 3)]
theorem lx_i7_ok : am_ic code lx_i7 = true := by decide +kernel
def lx_i8 : List (Nat × Instr × Nat) := [(421, .aload_n 1, 1), (422, .aload_n 0, 1), (423, .iload 4, 2), (425, .iconst 1, 1), (426, .iadd, 1), (427, .iaload, 1), (428, .aload_n 0, 1), (429, .iload 4, 2), (431, .iconst 2, 1), (432, .iadd, 1), (433, .iaload, 1), (434, .aload_n 3, 1), (435, .invokestatic 98, 3), (438, .istore 5, 2), (440, .aload_n 2, 1), (441, .aload_n 0, 1), (442, .iload 4, 2), (444, .iconst 1, 1), (445, .iadd, 1), (446, .iaload, 1), (447, .aload_n 0, 1), (448, .iload 4, 2), (450, .iconst 2, 1), (451, .iadd, 1), (452, .iaload, 1), (453, .invokevirtual 100, 3), (456, .istore 6, 2), (458, .aload_n 2, 1), (459, .invokevirtual 84, 3), (462, .iload 5, 2), (464, .if_icmp .eq 5, 3), (467, .iconst 0, 1), (468, .ireturn, 1), (469, .iload 5, 2), (471, .ifCond .ne 15, 3), (474, .aload_n 3, 1), (475, .iconst 0, 1), (476, .laload, 1), (477, .iload 6, 2), (479, .i2l, 1), (480, .lcmp, 1), (481, .ifCond .eq 5, 3), (484, .iconst 0, 1), (485, .ireturn, 1), (486, .goto 496, 3)]
theorem lx_i8_ok : am_ic code lx_i8 = true := by decide +kernel
def lx_i9 : List (Nat × Instr × Nat) := [(489, .aload_n 1, 1), (490, .aload_n 0, 1), (491, .iload 4, 2), (493, .iconst 1, 1), (494, .iadd, 1), (495, .iaload, 1), (496, .aload_n 0, 1), (497, .iload 4, 2), (499, .iconst 2, 1), (500, .iadd, 1), (501, .iaload, 1), (502, .aload_n 0, 1), (503, .iload 4, 2), (505, .iconst 3, 1), (506, .iadd, 1), (507, .iaload, 1), (508, .aload_n 3, 1), (509, .invokestatic 101, 3), (512, .istore 5, 2), (514, .aload_n 2, 1), (515, .aload_n 0, 1), (516, .iload 4, 2), (518, .iconst 1, 1), (519, .iadd, 1), (520, .iaload, 1), (521, .aload_n 0, 1), (522, .iload 4, 2), (524, .iconst 2, 1), (525, .iadd, 1), (526, .iaload, 1), (527, .aload_n 0, 1), (528, .iload 4, 2), (530, .iconst 3, 1), (531, .iadd, 1), (532, .iaload, 1), (533, .invokevirtual 104, 3), (536, .istore 6, 2), (538, .aload_n 2, 1), (539, .invokevirtual 84, 3), (542, .iload 5, 2), (544, .if_icmp .eq 5, 3), (547, .iconst 0, 1), (548, .ireturn, 1), (549, .iload 5, 2), (551, .ifCond .ne 15, 3), (554, .aload_n 3, 1), (555, .iconst 0, 1), (556, .laload, 1), (557, .iload 6, 2), (559, .i2l, 1), (560, .lcmp, 1), (561, .ifCond .eq 5, 3), (564, .iconst 0, 1), (565, .ireturn, 1), (566, .goto 416, 3)]
theorem lx_i9_ok : am_ic code lx_i9 = true := by decide +kernel
def lx_i10 : List (Nat × Instr × Nat) := [(569, .aload_n 1, 1), (570, .aload_n 0, 1), (571, .iload 4, 2), (573, .iconst 1, 1), (574, .iadd, 1), (575, .iaload, 1), (576, .aload_n 0, 1), (577, .iload 4, 2), (579, .iconst 2, 1), (580, .iadd, 1), (581, .iaload, 1), (582, .aload_n 3, 1), (583, .invokestatic 105, 3), (586, .istore 5, 2), (588, .aload_n 2, 1), (589, .aload_n 0, 1), (590, .iload 4, 2), (592, .iconst 1, 1), (593, .iadd, 1), (594, .iaload, 1), (595, .aload_n 0, 1), (596, .iload 4, 2), (598, .iconst 2, 1), (599, .iadd, 1), (600, .iaload, 1), (601, .invokevirtual 107, 3), (604, .istore 6, 2), (606, .aload_n 2, 1), (607, .invokevirtual 84, 3), (610, .iload 5, 2), (612, .if_icmp .eq 5, 3), (615, .iconst 0, 1), (616, .ireturn, 1), (617, .iload 5, 2), (619, .ifCond .ne 15, 3), (622, .aload_n 3, 1), (623, .iconst 0, 1), (624, .laload, 1), (625, .iload 6, 2), (627, .i2l, 1), (628, .lcmp, 1), (629, .ifCond .eq 5, 3), (632, .iconst 0, 1), (633, .ireturn, 1), (634, .goto 348, 3)]
theorem lx_i10_ok : am_ic code lx_i10 = true := by decide +kernel
def lx_i11 : List (Nat × Instr × Nat) := [(637, .aload_n 1, 1), (638, .aload_n 0, 1), (639, .iload 4, 2), (641, .iconst 1, 1), (642, .iadd, 1), (643, .iaload, 1), (644, .aload_n 0, 1), (645, .iload 4, 2), (647, .iconst 2, 1), (648, .iadd, 1), (649, .iaload, 1), (650, .aload_n 0, 1), (651, .iload 4, 2), (653, .iconst 3, 1), (654, .iadd, 1), (655, .iaload, 1), (656, .aload_n 3, 1), (657, .invokestatic 108, 3), (660, .istore 5, 2), (662, .aload_n 2, 1), (663, .aload_n 0, 1), (664, .iload 4, 2), (666, .iconst 1, 1), (667, .iadd, 1), (668, .iaload, 1), (669, .aload_n 0, 1), (670, .iload 4, 2), (672, .iconst 2, 1), (673, .iadd, 1), (674, .iaload, 1), (675, .aload_n 0, 1), (676, .iload 4, 2), (678, .iconst 3, 1), (679, .iadd, 1), (680, .iaload, 1), (681, .invokevirtual 110, 3), (684, .istore 6, 2), (686, .aload_n 2, 1), (687, .invokevirtual 84, 3), (690, .iload 5, 2), (692, .if_icmp .eq 5, 3), (695, .iconst 0, 1), (696, .ireturn, 1), (697, .iload 5, 2), (699, .ifCond .ne 15, 3), (702, .aload_n 3, 1), (703, .iconst 0, 1), (704, .laload, 1), (705, .iload 6, 2), (707, .i2l, 1), (708, .lcmp, 1), (709, .ifCond .eq 5, 3), (712, .iconst 0, 1), (713, .ireturn, 1), (714, .goto 268, 3)]
theorem lx_i11_ok : am_ic code lx_i11 = true := by decide +kernel
def lx_i12 : List (Nat × Instr × Nat) := [(717, .aload_n 1, 1), (718, .aload_n 3, 1), (719, .invokestatic 111, 3), (722, .istore 5, 2), (724, .aload_n 2, 1), (725, .invokevirtual 114, 3), (728, .istore 6, 2), (730, .aload_n 2, 1), (731, .invokevirtual 84, 3), (734, .iload 5, 2), (736, .if_icmp .eq 5, 3), (739, .iconst 0, 1), (740, .ireturn, 1), (741, .iload 5, 2), (743, .ifCond .ne 15, 3), (746, .aload_n 3, 1), (747, .iconst 0, 1), (748, .laload, 1), (749, .iload 6, 2), (751, .i2l, 1), (752, .lcmp, 1), (753, .ifCond .eq 5, 3), (756, .iconst 0, 1), (757, .ireturn, 1), (758, .goto 224, 3)]
theorem lx_i12_ok : am_ic code lx_i12 = true := by decide +kernel
def lx_i13 : List (Nat × Instr × Nat) := [(761, .aload_n 1, 1), (762, .invokevirtual 115, 3), (765, .aload_n 2, 1), (766, .invokevirtual 118, 3), (769, .if_icmp .eq 213, 3), (772, .iconst 0, 1), (773, .ireturn, 1)]
theorem lx_i13_ok : am_ic code lx_i13 = true := by decide +kernel
def lx_i14 : List (Nat × Instr × Nat) := [(774, .aload_n 1, 1), (775, .aload_n 0, 1), (776, .iload 4, 2), (778, .iconst 1, 1), (779, .iadd, 1), (780, .iaload, 1), (781, .aload_n 0, 1), (782, .iload 4, 2), (784, .iconst 2, 1), (785, .iadd, 1), (786, .iaload, 1), (787, .ifCond .eq 7, 3), (790, .iconst 1, 1), (791, .goto 4, 3), (794, .iconst 0, 1), (795, .aload_n 3, 1), (796, .invokestatic 119, 3), (799, .istore 5, 2), (801, .aload_n 2, 1), (802, .aload_n 0, 1), (803, .iload 4, 2), (805, .iconst 1, 1), (806, .iadd, 1), (807, .iaload, 1), (808, .aload_n 0, 1), (809, .iload 4, 2), (811, .iconst 2, 1), (812, .iadd, 1), (813, .iaload, 1), (814, .ifCond .eq 7, 3), (817, .iconst 1, 1), (818, .goto 4, 3), (821, .iconst 0, 1), (822, .invokevirtual 122, 3), (825, .istore 6, 2), (827, .aload_n 2, 1), (828, .invokevirtual 84, 3), (831, .iload 5, 2), (833, .if_icmp .eq 5, 3), (836, .iconst 0, 1), (837, .ireturn, 1), (838, .iload 5, 2), (840, .ifCond .ne 15, 3), (843, .aload_n 3, 1), (844, .iconst 0, 1), (845, .laload, 1), (846, .iload 6, 2), (848, .i2l, 1), (849, .lcmp, 1), (850, .ifCond .eq 5, 3), (853, .iconst 0, 1), (854, .ireturn, 1), (855, .goto 127, 3)]
theorem lx_i14_ok : am_ic code lx_i14 = true := by decide +kernel
def lx_i15 : List (Nat × Instr × Nat) := [(858, .aload_n 1, 1), (859, .aload_n 0, 1), (860, .iload 4, 2), (862, .iconst 1, 1), (863, .iadd, 1), (864, .iaload, 1), (865, .aload_n 3, 1), (866, .invokestatic 123, 3), (869, .istore 5, 2), (871, .aload_n 2, 1), (872, .aload_n 0, 1), (873, .iload 4, 2), (875, .iconst 1, 1), (876, .iadd, 1), (877, .iaload, 1), (878, .invokevirtual 125, 3), (881, .istore 6, 2), (883, .aload_n 2, 1), (884, .invokevirtual 84, 3), (887, .iload 5, 2), (889, .if_icmp .eq 5, 3), (892, .iconst 0, 1), (893, .ireturn, 1), (894, .iload 5, 2), (896, .ifCond .ne 15, 3), (899, .aload_n 3, 1), (900, .iconst 0, 1), (901, .laload, 1), (902, .iload 6, 2), (904, .i2l, 1), (905, .lcmp, 1), (906, .ifCond .eq 5, 3), (909, .iconst 0, 1), (910, .ireturn, 1), (911, .goto 71, 3)]
theorem lx_i15_ok : am_ic code lx_i15 = true := by decide +kernel
def lx_i16 : List (Nat × Instr × Nat) := [(914, .aload_n 1, 1), (915, .aload_n 0, 1), (916, .iload 4, 2), (918, .iconst 1, 1), (919, .iadd, 1), (920, .iaload, 1), (921, .aload_n 0, 1), (922, .iload 4, 2), (924, .iconst 2, 1), (925, .iadd, 1), (926, .iaload, 1), (927, .aload_n 3, 1), (928, .invokestatic 126, 3), (931, .istore 5, 2), (933, .aload_n 2, 1), (934, .aload_n 0, 1), (935, .iload 4, 2), (937, .iconst 1, 1), (938, .iadd, 1), (939, .iaload, 1), (940, .aload_n 0, 1), (941, .iload 4, 2), (943, .iconst 2, 1), (944, .iadd, 1), (945, .iaload, 1), (946, .invokevirtual 128, 3), (949, .istore 6, 2), (951, .aload_n 2, 1), (952, .invokevirtual 84, 3), (955, .iload 5, 2), (957, .if_icmp .eq 5, 3), (960, .iconst 0, 1), (961, .ireturn, 1), (962, .iload 5, 2), (964, .ifCond .ne 15, 3), (967, .aload_n 3, 1), (968, .iconst 0, 1), (969, .laload, 1), (970, .iload 6, 2), (972, .i2l, 1), (973, .lcmp, 1), (974, .ifCond .eq 5, 3), (977, .iconst 0, 1), (978, .ireturn, 1), (979, .goto 3, 3)]
theorem lx_i16_ok : am_ic code lx_i16 = true := by decide +kernel
end
section
/-! The law's own calls and things made (printed by wip/gen/law.py). -/
def lx_s0 : List nm_S := [(55, 0, false, 144), (58, 146, false, 1219), (61, 12, false, 528), (65, 148, false, 1400)]
theorem lx_s0_ok : lx_s0.all (nm_schk nd_ct nd_ml "PaperParcelsLaw") = true := by decide +kernel
def lx_s1 : List nm_S := [(66, 14, false, 536), (69, 149, false, 1405), (70, 16, false, 544), (73, 150, false, 1409)]
theorem lx_s1_ok : lx_s1.all (nm_schk nd_ct nd_ml "PaperParcelsLaw") = true := by decide +kernel
def lx_s2 : List nm_S := [(74, 17, false, 548), (77, 151, false, 1413), (83, 152, false, 1417), (84, 147, false, 1396)]
theorem lx_s2_ok : lx_s2.all (nm_schk nd_ct nd_ml "PaperParcelsLaw") = true := by decide +kernel
def lx_s3 : List nm_S := [(87, 19, false, 556), (90, 200, false, 1605), (93, 201, false, 1609), (97, 203, false, 1616)]
theorem lx_s3_ok : lx_s3.all (nm_schk nd_ct nd_ml "PaperParcelsLaw") = true := by decide +kernel
def lx_s4 : List nm_S := [(100, 205, false, 1624), (104, 206, false, 1628), (107, 208, false, 1636), (110, 209, false, 1640)]
theorem lx_s4_ok : lx_s4.all (nm_schk nd_ct nd_ml "PaperParcelsLaw") = true := by decide +kernel
def lx_s5 : List nm_S := [(114, 210, false, 1644), (115, 20, false, 560), (118, 220, false, 1685), (122, 221, false, 1689)]
theorem lx_s5_ok : lx_s5.all (nm_schk nd_ct nd_ml "PaperParcelsLaw") = true := by decide +kernel
def lx_s6 : List nm_S := [(125, 222, false, 1693), (128, 227, false, 1713)]
theorem lx_s6_ok : lx_s6.all (nm_schk nd_ct nd_ml "PaperParcelsLaw") = true := by decide +kernel
def lx_s : List nm_S := [(55, 0, false, 144), (58, 146, false, 1219), (61, 12, false, 528), (65, 148, false, 1400), (66, 14, false, 536), (69, 149, false, 1405), (70, 16, false, 544), (73, 150, false, 1409), (74, 17, false, 548), (77, 151, false, 1413), (83, 152, false, 1417), (84, 147, false, 1396), (87, 19, false, 556), (90, 200, false, 1605), (93, 201, false, 1609), (97, 203, false, 1616), (100, 205, false, 1624), (104, 206, false, 1628), (107, 208, false, 1636), (110, 209, false, 1640), (114, 210, false, 1644), (115, 20, false, 560), (118, 220, false, 1685), (122, 221, false, 1689), (125, 222, false, 1693), (128, 227, false, 1713)]
theorem lx_s_ok : lx_s.all (nm_schk nd_ct nd_ml "PaperParcelsLaw") = true := by
  have e : lx_s = lx_s0 ++ (lx_s1 ++ (lx_s2 ++ (lx_s3 ++ (lx_s4 ++ (lx_s5 ++ (lx_s6)))))) := rfl
  rw [e]
  simp only [List.all_append, lx_s0_ok, lx_s1_ok, lx_s2_ok, lx_s3_ok, lx_s4_ok, lx_s5_ok, lx_s6_ok, Bool.and_self]
theorem lx_s_rm : lx_s.all (fun z => decide (nd_fr z.2.1 + 1 ≤ 14 ∧ 8 + ((nd_mt z.2.1).2.2.1 + 11) + nd_lo z.2.1 ≤ 534)) = true := by decide +kernel
def lx_n : List nm_N := [(8, 0, [.null, .null, .null, .null, .null], 142, 143, 116), (56, 11, [.int 0, .null, .int 0, .int 0, .null, .null, .null, .null, .null, .null, .null, .null, .null, .null, .null, .int 0, .int 0, .int 0, .int 0, .null, .null, .null, .null, .null, .null, .null, .null, .null, .null, .null, .null, .int 0, .int 0, .null, .null, .null, .null, .null, .null, .null, .null, .int 0, .int 0, .null, .null, .null, .null, .null, .null, .null, .null, .null, .null, .null, .null, .null, .int 0], 1217, 1218, 127)]
theorem lx_n_ok : lx_n.all (nm_nchk nd_ct "PaperParcelsLaw") = true := by decide +kernel
def lx_k : List (Nat × Value × Nat) := [(59, .long 4294967295, 1783)]
theorem lx_k_ok : lx_k.all (nm_kchk "PaperParcelsLaw") = true := by decide +kernel
end
section
/-! The law's beginning: class, model and the place for answers are made. -/
def hp_n0 : List va_E := [.inr (0, [.null, .null, .null, .null, .null])]
def hp_n1 : List va_E := hp_c ++ [.inr (11, [.int 0, .null, .int 0, .int 0, .null, .null, .null, .null, .null, .null, .null, .null, .null, .null, .null, .int 0, .int 0, .int 0, .int 0, .null, .null, .null, .null, .null, .null, .null, .null, .null, .null, .null, .null, .int 0, .int 0, .null, .null, .null, .null, .null, .null, .null, .null, .int 0, .int 0, .null, .null, .null, .null, .null, .null, .null, .null, .null, .null, .null, .null, .null, .int 0])]
def hp_0 : List va_E := (hp_c ++ hp_m) ++ [.inl (2, 1, .inr (.inl (fun _ => 0)))]
def lx_L (i : Int32) (k b : Option Value) : List (Option Value) := [some (.ref 1000000), some (.ref 0), some (.ref 179), some (.ref 225), some (.int i), k, b]
def lx_fin (S : am_S) : Option (Option Value) := if S.1 = 23 ∧ S.2.1 = lx_L 0 none none ∧ S.2.2.1 = [] then some none else none
section LXA
variable {ins : Nat → Option (Instr × Nat)} {fld : Nat → Option (Nat × Nat × Nat)} {cst : Nat → Option Value} {knw : Nat → Option (Nat × List Value)} {anw mnw obj : Nat → Bool} {site : Nat → Option (Nat × Nat × Nat × Nat)} {fin : am_S → Option (Option Value)} {Cr : Nat → List Value → List va_E → Option Value → List va_E → Prop} {n : Nat} {S : am_S} {v : Option Value} {h' : List va_E}
theorem lx_sn (S' : am_S) (hs : am_nA ins fld cst knw anw mnw obj S = some S') (h : am_EA ins fld cst knw anw mnw obj site fin Cr n S' v h') : am_EA ins fld cst knw anw mnw obj site fin Cr (n + 1) S v h' := Or.inl ⟨S', hs, h⟩
theorem lx_sc (y k : Nat) (h1 : List va_E) {ix kd ci : Nat} (hs : am_site ins site S = some (ix, kd, y, k, ci)) (hk : k ≤ S.2.2.1.length) (hw : ((S.2.2.1.drop k).map fun v => v.category).sum ≤ 8) (hc : Cr y (S.2.2.1.take k).reverse S.2.2.2 none h1) (h : am_EA ins fld cst knw anw mnw obj site fin Cr n (S.1 + 3, S.2.1, S.2.2.1.drop k, h1) v h') : am_EA ins fld cst knw anw mnw obj site fin Cr (n + 1) S v h' := Or.inr (Or.inl ⟨ix, kd, y, k, ci, none, h1, hs, hk, hw, hc, h⟩)
end LXA
def lx_Cr (y : Nat) (As : List Value) (h : List va_E) (w : Option Value) (h1 : List va_E) : Prop := nd_rA 5 y As h = some (w, h1)
set_option maxRecDepth 100000 in
theorem hp_c_len : hp_c.length = 179 := rfl
set_option maxRecDepth 100000 in
theorem hp_cm_len : (hp_c ++ hp_m).length = 225 := rfl
def lx_E (n : Nat) (S : am_S) : Prop := am_EA (am_in lx_iA) (am_fl []) (am_ct []) (am_nl lx_n) (am_pl []) (am_pl []) (am_pl []) (am_sl nd_ml lx_s) lx_fin lx_Cr n S none hp_0
theorem lx_e3 : lx_E 7 (15, [some (.ref 1000000), some (.ref 0), none, none, none, none, none], [.ref 179], hp_c ++ hp_m) := by
  generalize hg : hp_c ++ hp_m = g
  have hl : g.length = 225 := by rw [← hg]; exact hp_cm_len
  have h0 : hp_0 = g ++ [.inl (2, 1, .inr (.inl (fun _ => 0)))] := by rw [← hg]; rfl
  unfold lx_E
  rw [h0]
  refine lx_sn (16, [some (.ref 1000000), some (.ref 0), some (.ref 179), none, none, none, none], [], g) rfl ?_
  refine lx_sn (17, [some (.ref 1000000), some (.ref 0), some (.ref 179), none, none, none, none], [.int 1], g) rfl ?_
  refine lx_sn (19, [some (.ref 1000000), some (.ref 0), some (.ref 179), none, none, none, none], [.ref g.length], g ++ [.inl (2, 1, .inr (.inl (fun _ => 0)))]) rfl ?_
  rw [hl]
  refine lx_sn (20, [some (.ref 1000000), some (.ref 0), some (.ref 179), some (.ref 225), none, none, none], [], g ++ [.inl (2, 1, .inr (.inl (fun _ => 0)))]) rfl ?_
  refine lx_sn (21, [some (.ref 1000000), some (.ref 0), some (.ref 179), some (.ref 225), none, none, none], [.int 0], g ++ [.inl (2, 1, .inr (.inl (fun _ => 0)))]) rfl ?_
  refine lx_sn (23, lx_L 0 none none, [], g ++ [.inl (2, 1, .inr (.inl (fun _ => 0)))]) rfl ?_
  exact Or.inr (Or.inr ⟨rfl, rfl⟩)
theorem lx_new {g : List va_E} (L : List (Option Value)) : am_nA (am_in lx_iA) (am_fl []) (am_ct []) (am_nl lx_n) (am_pl []) (am_pl []) (am_pl []) (8, L, [], g) = some (11, L, [.ref g.length], g ++ [.inr (11, [.int 0, .null, .int 0, .int 0, .null, .null, .null, .null, .null, .null, .null, .null, .null, .null, .null, .int 0, .int 0, .int 0, .int 0, .null, .null, .null, .null, .null, .null, .null, .null, .null, .null, .null, .null, .int 0, .int 0, .null, .null, .null, .null, .null, .null, .null, .null, .int 0, .int 0, .null, .null, .null, .null, .null, .null, .null, .null, .null, .null, .null, .null, .null, .int 0])]) := rfl
theorem lx_e2 : lx_E 11 (7, [some (.ref 1000000), none, none, none, none, none, none], [.ref 0], hp_c) := by
  have e1 := hp_m_ok
  have e3 := lx_e3
  unfold lx_E at e3 ⊢
  refine lx_sn (8, [some (.ref 1000000), some (.ref 0), none, none, none, none, none], [], hp_c) rfl ?_
  refine lx_sn (11, [some (.ref 1000000), some (.ref 0), none, none, none, none, none], [.ref 179], hp_n1) ?_ ?_
  · rw [← hp_c_len]
    exact lx_new _
  refine lx_sn (12, [some (.ref 1000000), some (.ref 0), none, none, none, none, none], [.ref 179, .ref 179], hp_n1) rfl ?_
  refine lx_sc 146 1 (hp_c ++ hp_m) rfl (Nat.le_of_ble_eq_true rfl) (Nat.le_of_ble_eq_true rfl) e1 ?_
  exact e3
theorem lx_e1 : lx_E 14 (0, am_entry [.ref 1000000] 7, [], []) := by
  have e1 := hp_c_ok
  have e2 := lx_e2
  unfold lx_E at e2 ⊢
  refine lx_sn (3, [some (.ref 1000000), none, none, none, none, none, none], [.ref 0], hp_n0) rfl ?_
  refine lx_sn (4, [some (.ref 1000000), none, none, none, none, none, none], [.ref 0, .ref 0], hp_n0) rfl ?_
  refine lx_sc 0 1 hp_c rfl (Nat.le_of_ble_eq_true rfl) (Nat.le_of_ble_eq_true rfl) e1 ?_
  exact e2
set_option maxRecDepth 100000 in
theorem hp_0_len : hp_0.length = 226 := rfl
def hp_sz : Nat := am_sz hp_0
set_option maxRecDepth 100000 in
theorem hp_sz_le : Nat.ble hp_sz 200000 = true := by decide +kernel
end
section
/-! The law's walk: where it stands, its beginning, its steps. -/
/-- all that the walk stands on -/
def lx_C (p : Program) (l : Launch) (s : State) (m : MethodId) (meth : Method) (c : Code) (b L : Nat) (xs : Nat → Int32) (D : va_G) (ca : Nat → ClassId) : Prop :=
  lw_At p s m meth c b L xs ∧ cx_ok l D (sx_ad s b) ca (sx_A s) (sx_tys ca) (sx_X s) s.heap.size ∧ va_K D nd_cl (sx_tys ca) s ∧ sx_X s s
/-- at S, g cells thrown away so far: the law comes to its end with true -/
def lx_W (p : Program) (l : Launch) (e : Env) (s : State) (m : MethodId) (below : List Frame) (meth : Method) (c : Code) (b : Nat) (D : va_G) (ca : Nat → ClassId) (S : am_S) (g : Nat) : Prop :=
  ∀ ls H locs, am_at (sx_ad s b) ca D nd_cl (sx_A s) s.heap 7 S ls H locs → W p l e room_1 s m #[Value.ref b] below meth c H locs (226 + g) (hp_sz + 6 * g) (lw_Z below #[Value.ref b] s) (F0 m S.1 ls (S.2.2.1.map (am_v (sx_ad s b))))
section LWB
variable {p : Program} {l : Launch} {e : Env} {s : State} {m : MethodId} {below : List Frame} {meth : Method} {c : Code} {b L : Nat} {xs : Nat → Int32} {D : va_G} {ca : Nat → ClassId}
theorem lx_rm {ix kd y k ci : Nat} (hs : am_sl nd_ml lx_s ix = some (kd, y, k, ci)) : nd_fr y + 1 ≤ room_1.frames ∧ 8 + ((nd_mt y).2.2.1 + 11) + nd_lo y ≤ room_1.locals := by
  unfold am_sl at hs
  split at hs
  · cases hs
  · next y' b pos hf =>
    have h1 := List.all_eq_true.mp lx_s_rm _ (nm_find hf)
    split at hs
    · cases hs
    · simp only [Option.some.injEq, Prod.mk.injEq] at hs
      obtain ⟨-, rfl, -, -⟩ := hs
      exact of_decide_eq_true h1
theorem lx_Fw {meth : Method} : am_Fw meth R_law nm_Ts nd_cl (am_fl []) := nm_fok (ini := false) (L := []) nd_cok rfl (fun e => by cases e)
theorem lx_Sw : am_Sw R_law nm_Ts nm_Tn nd_cl nd_mt (am_sl nd_ml lx_s) := nm_sok lx_s_ok
theorem sx_ad_b : sx_ad s b 1000000 = b := by unfold sx_ad; rw [if_neg (by omega)]
theorem hp_sz_room : am_sz hp_0 ≤ room_1.slots + 0 := by
  have h := Nat.le_of_ble_eq_true hp_sz_le
  unfold hp_sz at h
  have e : room_1.slots = 7293034 := rfl
  omega
set_option maxHeartbeats 4000000 in
theorem lx_begin (hC : lx_C p l s m meth c b L xs D ca) (k : lx_W p l e s m below meth c b D ca (23, lx_L 0 none none, [], hp_0) 0) : W p l e room_1 s m #[Value.ref b] below meth c s.heap [] 0 0 (lw_Z below #[Value.ref b] s) (entryFrame m ([Value.ref b] : List Value).toArray 7) := by
  obtain ⟨⟨hx, hb, hr, hml, hown, hts0, hX, hbl, hlk, hgv⟩, hcx, hK, hXs⟩ := hC
  have hrA := nd_rA_ok hcx
  have t3 := cx_t3 hcx
  obtain ⟨t0, t1, t2, t33, t44, ⟨x1, x2, x3⟩, had, hD9, -⟩ := hcx
  have hts : ∀ w ∈ nm_Ts, w.before #[Value.ref b] s = true := fun w hw => hts0 w (List.mem_filter.mp hw).1
  have htn : ∀ w ∈ nm_Tn, w.before #[Value.ref b] s = true := fun w hw => x3 s hXs w hw _
  have hA : ([Value.ref 1000000].map (am_v (sx_ad s b))) = [Value.ref b] := by simp [am_v, sx_ad_b]
  have hl := lv_entry ([Value.ref 1000000].map (am_v (sx_ad s b))) (n := 7) (by rw [am_ent_len]; exact Nat.le_of_ble_eq_true rfl)
  rw [hA] at hl
  rw [lg_entry_eq]
  generalize (lg_sl ([Value.ref b]) ++ List.replicate (7 - (lg_sl ([Value.ref b])).length) Slot.unset).toArray = ls at hl ⊢
  rw [← hA] at hl
  have hL := am_has_entry (nL := 7) (Nat.le_of_ble_eq_true rfl) hl
  have hI := am_in_ok lx_iA_ok
  have hE := lx_e1
  unfold lx_E at hE
  have hoA := nd_okA (own := R_law) (F := 14) (G := 534) (LN := lx_n) (LA := []) (LM := []) (LO := []) lx_n_ok rfl rfl rfl (Nat.le_of_ble_eq_true rfl) (Nat.le_of_ble_eq_true rfl)
  obtain ⟨b1, b2, b3, b4, b44, b5, b6, b66, b7, b8, b9⟩ := hoA
  refine am_EA_ok (len0 := 0) (sz0 := 0) (v := none) (h' := hp_0) (fr := nd_fr) (lo := nd_lo) (own := R_law) (cl := nd_cl) (T3 := nd_T2) (N3 := 7) (Ts := nm_Ts) (Tn := nm_Tn) (XX := sx_X s) (mt := nd_mt) (b0 := s.heap.size) hx hb hml hown hts nm_good htn lx_Fw hK t0 t1 t2 t3 t33 t44 rfl b1 b2 b3 (htn _ b4) (htn _ b44) hI (nm_kok (L := []) rfl).1 (nm_kok (L := []) rfl).2 lx_Sw b5 b6 b66 b7 (Nat.le_of_ble_eq_true rfl) (Nat.le_of_ble_eq_true rfl) had rfl hD9 x1 (fun U hW hF => x2 s U hXs hW hF) (Cr := lx_Cr) (fun y As h w h1 hc => hrA 5 y As h w h1 hc) (fun ix kd y k ci hs => lx_rm hs) (by rw [hp_0_len]; exact Nat.le_of_ble_eq_true rfl) (by rw [hp_0_len]; exact Nat.le_of_ble_eq_true rfl) hp_sz_room ?_ 14 (0, am_entry [.ref 1000000] 7, [], []) hE ls s.heap [] 0 0 ⟨hL, (fun k q hq => by cases hq), hD9 [] (Nat.zero_le _), va_S.rf⟩ rfl rfl
  intro S ls H locs cells slots hv hh c1 c2 hat
  obtain ⟨pc, Lc, st, h⟩ := S
  unfold lx_fin at hv
  split at hv
  · next hq =>
    obtain ⟨e1, e2, e3⟩ := hq
    simp only at e1 e2 e3 hh
    subst e1 e2 e3 hh
    have e4 : cells = 226 + 0 := by rw [hp_0_len] at c1; omega
    have e5 : slots = hp_sz + 6 * 0 := by unfold hp_sz; omega
    rw [e4, e5]
    exact k ls H locs hat
  · cases hv
/-- a step that is no call -/
theorem lx_n1 {LI : List (Nat × Instr × Nat)} (hC : lx_C p l s m meth c b L xs D ca) (hI : am_ic code LI = true) {S S' : am_S} {g : Nat} (hn : am_n (am_in LI) (am_fl []) (am_ct lx_k) S = some S') (k : lx_W p l e s m below meth c b D ca S' g) : lx_W p l e s m below meth c b D ca S g := by
  obtain ⟨⟨hx, hb, hr, hml, hown, hts0, hX, hbl, hlk, hgv⟩, hcx, hK, hXs⟩ := hC
  have t3 := cx_t3 hcx
  obtain ⟨t0, t1, t2, t33, t44, ⟨x1, x2, x3⟩, had, hD9, -⟩ := hcx
  have hts : ∀ w ∈ nm_Ts, w.before #[Value.ref b] s = true := fun w hw => hts0 w (List.mem_filter.mp hw).1
  intro ls H locs hat
  exact am_n_ok (own := R_law) hx hb hown hts lx_Fw hK t0 t1 t2 t3 (am_in_ok hI) (nm_kok lx_k_ok).1 (nm_kok lx_k_ok).2 hat hn (fun ls' H1 locs1 h1 => k ls' H1 locs1 h1)
/-- so many steps that touch no cell -/
def am_ps (ins : Nat → Option (Instr × Nat)) : Nat → am_cfg → Option am_cfg
  | 0, c => some c
  | k + 1, c => match ins c.1 with
    | none => none
    | some (i, n) => match am_p i n c.1 c.2.1 c.2.2 with
      | none => none
      | some c' => am_ps ins k c'
theorem lx_p {LI : List (Nat × Instr × Nat)} (hC : lx_C p l s m meth c b L xs D ca) (hI : am_ic code LI = true) (n : Nat) {pc g : Nat} {Lc : List (Option Value)} {st : List Value} {h : List va_E} {c' : am_cfg} (hp : am_ps (am_in LI) n (pc, Lc, st) = some c') (k : lx_W p l e s m below meth c b D ca (c'.1, c'.2.1, c'.2.2, h) g) : lx_W p l e s m below meth c b D ca (pc, Lc, st, h) g := by
  induction n generalizing pc Lc st with
  | zero => cases hp; exact k
  | succ n ih =>
    unfold am_ps at hp
    split at hp
    · cases hp
    · next i w hi =>
      split at hp
      · cases hp
      · next c1 h1 =>
        refine lx_n1 (S' := (c1.1, c1.2.1, c1.2.2, h)) hC hI ?_ (ih hp)
        have hi' : am_in LI pc = some (i, w) := hi
        have h1' : am_p i w pc Lc st = some c1 := h1
        unfold am_n
        simp only [hi', h1']
/-- a branch -/
theorem lx_b {LI : List (Nat × Instr × Nat)} (hC : lx_C p l s m meth c b L xs D ca) (hI : am_ic code LI = true) {q : Prop} [Decidable q] {pc n g : Nat} {Lc : List (Option Value)} {st : List Value} {h : List va_E} {c1 c2 : am_cfg} {i : Instr} (hi : am_in LI pc = some (i, n)) (hp : am_p i n pc Lc st = if q then some c1 else some c2)
    (k1 : q → lx_W p l e s m below meth c b D ca (c1.1, c1.2.1, c1.2.2, h) g) (k2 : ¬ q → lx_W p l e s m below meth c b D ca (c2.1, c2.2.1, c2.2.2, h) g) : lx_W p l e s m below meth c b D ca (pc, Lc, st, h) g := by
  by_cases hq : q
  · rw [if_pos hq] at hp
    refine lx_n1 hC hI ?_ (k1 hq)
    unfold am_n
    simp only [hi, hp]
  · rw [if_neg hq] at hp
    refine lx_n1 hC hI ?_ (k2 hq)
    unfold am_n
    simp only [hi, hp]
/-- an int of the script -/
theorem lx_ld {LI : List (Nat × Instr × Nat)} (hC : lx_C p l s m meth c b L xs D ca) (hI : am_ic code LI = true) {pc g : Nat} {Lc : List (Option Value)} {st : List Value} {h : List va_E} {i : Int32} (hi : am_in LI pc = some (.iaload, 1)) (hin : vp_in i L) (k : lx_W p l e s m below meth c b D ca (pc + 1, Lc, .int (xs i.toNatClampNeg) :: st, h) g) : lx_W p l e s m below meth c b D ca (pc, Lc, .int i :: .ref 1000000 :: st, h) g := by
  obtain ⟨⟨hx, hb, hr, hml, hown, hts0, hX, hbl, hlk, hgv⟩, hcx, hK, hXs⟩ := hC
  intro ls H locs hat
  have h1 := k ls H locs hat
  have e : (Value.int i :: .ref 1000000 :: st).map (am_v (sx_ad s b)) = .int i :: .ref b :: st.map (am_v (sx_ad s b)) := by simp [am_v, sx_ad_b]
  show W _ _ _ _ _ _ _ _ _ _ _ _ _ _ _ (F0 m pc ls ((Value.int i :: .ref 1000000 :: st).map (am_v (sx_ad s b))))
  rw [e]
  exact va_sld hx hb hX hbl (by unfold sx_A; omega) hat.2.2.2 hin (am_in_ok hI _ _ _ hi) h1
/-- the script's length -/
theorem lx_len {LI : List (Nat × Instr × Nat)} (hC : lx_C p l s m meth c b L xs D ca) (hI : am_ic code LI = true) {pc g : Nat} {Lc : List (Option Value)} {st : List Value} {h : List va_E} (hi : am_in LI pc = some (.arraylength, 1)) (k : lx_W p l e s m below meth c b D ca (pc + 1, Lc, .int (Int32.ofNat L) :: st, h) g) : lx_W p l e s m below meth c b D ca (pc, Lc, .ref 1000000 :: st, h) g := by
  obtain ⟨⟨hx, hb, hr, hml, hown, hts0, hX, hbl, hlk, hgv⟩, hcx, hK, hXs⟩ := hC
  intro ls H locs hat
  have h1 := k ls H locs hat
  have e : (Value.ref 1000000 :: st).map (am_v (sx_ad s b)) = .ref b :: st.map (am_v (sx_ad s b)) := by simp [am_v, sx_ad_b]
  show W _ _ _ _ _ _ _ _ _ _ _ _ _ _ _ (F0 m pc ls ((Value.ref 1000000 :: st).map (am_v (sx_ad s b))))
  rw [e]
  exact va_slen hx hb hX hbl (by unfold sx_A; omega) hat.2.2.2 (am_in_ok hI _ _ _ hi) h1
/-- fewer locals known -/
theorem lx_w {pc g : Nat} {Lc Lc' : List (Option Value)} {st : List Value} {h : List va_E} (hl : am_le Lc' Lc) (k : lx_W p l e s m below meth c b D ca (pc, Lc', st, h) g) : lx_W p l e s m below meth c b D ca (pc, Lc, st, h) g := by
  intro ls H locs hat
  obtain ⟨a1, a2, a3, a4⟩ := hat
  exact k ls H locs ⟨am_has_le a1 hl, a2, a3, a4⟩
/-- the end -/
theorem lx_end (hC : lx_C p l s m meth c b L xs D ca) {Lc : List (Option Value)} {h : List va_E} {g : Nat} (hg : g ≤ 600000) : lx_W p l e s m below meth c b D ca (989, Lc, [.int 1], h) g := by
  obtain ⟨⟨hx, hb, hr, hml, hown, hts0, hX, hbl, hlk, hgv⟩, hcx, hK, hXs⟩ := hC
  intro ls H locs hat
  refine va_forget (fun q hq => hat.2.2.2.2.2 q hq) (W.widen (k := 601024) (n := 7293034) (by omega) ?_ ?_)
  · have := Nat.le_of_ble_eq_true hp_sz_le
    omega
  · exact lw_ret hx hb hr hlk (am_in_ok lx_iH_ok 989 .ireturn 1 rfl)
end LWB
end
section
/-! The law's calls. K: launch, where the places lie, arrays' classes, classes, what may be written, tables, what is carried, the first new cell. -/
abbrev cx_K : Type := Launch × (Nat → Nat) × (Nat → ClassId) × va_G × (Nat → Prop) × List (ClassId × FieldType) × (State → Prop) × Nat
def Kok (K : cx_K) : Prop := cx_ok K.1 K.2.2.2.1 K.2.1 K.2.2.1 K.2.2.2.2.1 K.2.2.2.2.2.1 K.2.2.2.2.2.2.1 K.2.2.2.2.2.2.2
/-- the method y, called with As over the cells h, ends with o over the cells h', g cells thrown away -/
def Ct (K : cx_K) (y : Nat) (As : List Value) (h : List va_E) (o : am_O) (h' : List va_E) (g : Nat) : Prop :=
  ax_Met K.1 (nd_mt y).1 (am_wy nm_Ts nd_mt y) (am_rm nd_fr nd_lo y g) (am_Pc K.2.2.2.1 nd_cl K.2.2.2.2.2.1 K.2.1 K.2.2.1 K.2.2.2.2.1 K.2.2.2.2.2.2.1 As h) (am_Qx K.2.2.2.1 nd_cl K.2.1 K.2.2.1 K.2.2.2.2.1 o h') g (6 * g) K.2.2.2.2.1 ∧ va_D K.2.2.2.2.1 (am_ws K.2.1 K.2.2.1 h')
/-- the law's helper y (its bytes, locals, handlers), called with As over the cells h, answers k over the cells h', g cells thrown away -/
def Hc (K : cx_K) (y : MethodName) (bytes : ByteArray) (maxL : Nat) (hh : List (Nat × Nat × Nat × Nat)) (As : List Value) (h : List va_E) (k : Int32) (h' : List va_E) (g : Nat) : Prop :=
  ax_Met K.1 y (Cond.codeWith y bytes maxL (some .int) hh :: nm_Ts) { frames := 13, cells := g, slots := 6 * g, locals := 515 - maxL } (am_Pc K.2.2.2.1 nd_cl K.2.2.2.2.2.1 K.2.1 K.2.2.1 K.2.2.2.2.1 K.2.2.2.2.2.2.1 As h) (am_Qx K.2.2.2.1 nd_cl K.2.1 K.2.2.1 K.2.2.2.2.1 (.inl (some (.int k))) h') g (6 * g) K.2.2.2.2.1 ∧ va_D K.2.2.2.2.1 (am_ws K.2.1 K.2.2.1 h')
abbrev lx_K (l : Launch) (s : State) (b : Nat) (D : va_G) (ca : Nat → ClassId) : cx_K := (l, sx_ad s b, ca, D, sx_A s, sx_tys ca, sx_X s, s.heap.size)
section LWC
variable {p : Program} {l : Launch} {e : Env} {s : State} {m : MethodId} {below : List Frame} {meth : Method} {c : Code} {b L : Nat} {xs : Nat → Int32} {D : va_G} {ca : Nat → ClassId}
theorem lx_sl {g : Nat} (hg : g ≤ 600000) : 226 + g ≤ room_1.cells ∧ hp_sz + 6 * g ≤ room_1.slots := by
  have h := Nat.le_of_ble_eq_true hp_sz_le
  have e1 : room_1.slots = 7293034 := rfl
  have e2 : room_1.cells = 601024 := rfl
  omega
/-- a call of a method of the class or the model -/
theorem lx_call {LI : List (Nat × Instr × Nat)} (hC : lx_C p l s m meth c b L xs D ca) (hI : am_ic code LI = true) {pc g g1 ix kd y k ci : Nat} {Lc : List (Option Value)} {st : List Value} {h h1 : List va_E} {v : Option Value} (hs : am_site (am_in LI) (am_sl nd_ml lx_s) (pc, Lc, st, h) = some (ix, kd, y, k, ci)) (hk : k ≤ st.length) (hw : ((st.drop k).map fun v => v.category).sum ≤ 8) (hg : g + g1 ≤ 600000)
    (hc : Ct (lx_K l s b D ca) y (st.take k).reverse h (.inl v) h1 g1) (kk : lx_W p l e s m below meth c b D ca (pc + 3, Lc, v.toList ++ st.drop k, h1) (g + g1)) : lx_W p l e s m below meth c b D ca (pc, Lc, st, h) g := by
  obtain ⟨⟨hx, hb, hr, hml, hown, hts0, hX, hbl, hlk, hgv⟩, hcx, hK, hXs⟩ := hC
  obtain ⟨t0, t1, t2, t33, t44, ⟨x1, x2, x3⟩, had, hD9, -⟩ := hcx
  have hts : ∀ w ∈ nm_Ts, w.before #[Value.ref b] s = true := fun w hw => hts0 w (List.mem_filter.mp hw).1
  have hsi : am_sl nd_ml lx_s ix = some (kd, y, k, ci) := by
    unfold am_site at hs
    split at hs
    · split at hs
      · next q => cases hs; exact q
      · next q => cases hs; exact q
      · cases hs
    · split at hs
      · next q =>
        split at hs
        · cases hs; exact q
        · cases hs
      · cases hs
    · split at hs
      · next q =>
        split at hs
        · cases hs; exact q
        · cases hs
      · cases hs
    · cases hs
  intro ls H locs hat
  obtain ⟨r1, r2⟩ := lx_sl hg
  obtain ⟨r3, r4⟩ := lx_rm hsi
  refine am_call_ok (own := R_law) (nL := 7) (Ts := nm_Ts) (Tn := nm_Tn) (XX := sx_X s) (mt := nd_mt) (rm := am_rm nd_fr nd_lo y g1) hx hb hml hown hts nm_good (fun w hw => x3 s hXs w hw _) hK (am_in_ok hI) lx_Sw x1 (fun U _ hW hF => x2 s U hXs hW hF) hat hs hk hw hc.1 rfl rfl r3 r4 (by omega) (by omega) hc.2 ?_ ?_
  · intro v1 hv1 H1 locs1 h2
    cases hv1
    have := kk ls H1 locs1 h2
    rw [show 226 + g + g1 = 226 + (g + g1) by omega, show hp_sz + 6 * g + 6 * g1 = hp_sz + 6 * (g + g1) by omega]
    exact this
  · intro E hE
    cases hE
/-- a call of a helper of the law -/
theorem lx_help {LI : List (Nat × Instr × Nat)} (hC : lx_C p l s m meth c b L xs D ca) (hI : am_ic code LI = true) {pc g g1 ix n maxL : Nat} {y : MethodName} {bytes : ByteArray} {hh : List (Nat × Nat × Nat × Nat)} {Lc : List (Option Value)} {st : List Value} {h h1 : List va_E} {k : Int32} (hi : am_in LI pc = some (.invokestatic ix, 3)) (hcw : Cond.codeWith y bytes maxL (some .int) hh ∈ lw_tbl) (hin : Cond.initialized y.cls ∈ lw_tbl) (hln : Cond.methodLink R_law ix y ∈ lw_tbl) (hsta : Cond.static y ∈ lw_tbl) (hy : y.cls ≠ "java/lang/invoke/MethodHandle" ∧ y.cls ≠ "java/lang/invoke/VarHandle") (hnn : (parseMethodDescriptor y.desc).map (fun d => d.parameters.length) = some n) (hm : maxL ≤ 100) (hk : st.length = n) (hg : g + g1 ≤ 600000)
    (hc : Hc (lx_K l s b D ca) y bytes maxL hh st.reverse h k h1 g1) (kk : lx_W p l e s m below meth c b D ca (pc + 3, Lc, [.int k], h1) (g + g1)) : lx_W p l e s m below meth c b D ca (pc, Lc, st, h) g := by
  obtain ⟨⟨hx, hb, hr, hml, hown, hts0, hX, hbl, hlk, hgv⟩, hcx, hK, hXs⟩ := hC
  obtain ⟨t0, t1, t2, t33, t44, ⟨x1, x2, x3⟩, had, hD9, -⟩ := hcx
  intro ls H locs hat
  obtain ⟨hL, hP, hD, hS⟩ := hat
  obtain ⟨r1, r2⟩ := lx_sl hg
  have e0 : (F0 m pc ls (st.map (am_v (sx_ad s b)))) = F0 m pc ls ((st.reverse.map (am_v (sx_ad s b))).reverse ++ []) := by simp
  show W _ _ _ _ _ _ _ _ _ _ _ _ _ _ _ (F0 m pc ls (st.map (am_v (sx_ad s b))))
  rw [e0]
  refine ax_SW (own := R_law) (y := y) (bytes := bytes) (maxL := maxL) (ret := some .int) (hh := hh) (n := n) (index := ix) hx hb hown (hL.1.trans hml.symm) hc.1 ?_ (hts0 _ hcw) (hts0 _ hin) hy ?_ (Nat.le_refl _) ?_ rfl rfl (hts0 _ hln) (hts0 _ hsta) (by omega) (by omega) (by simp [hk]) (Nat.zero_le _) (am_Pc_blind x1) ?_ (am_in_ok hI _ _ _ hi) ?_
  · intro w hw a' U hW
    rcases List.mem_cons.mp hw with rfl | hw
    · exact word_at hW (Or.inl rfl) (hts0 _ hcw)
    · exact word_at hW (good_of_word (nm_good w hw)) (hts0 w (List.mem_filter.mp hw).1)
  · intro sig hsg
    rw [hsg] at hnn
    exact (Option.some.inj hnn).symm
  · show 8 + (maxL + 11) + (515 - maxL) ≤ 534
    omega
  · intro U hU hW
    exact ⟨rfl, by rw [hU]; exact hP, hD, va_K.moved hW.alike hK, x2 s U hXs hW (hS.F hU)⟩
  · refine ⟨fun v st1 t H1 L1 e1 hW0 hq e2 hL1 => ?_, fun q st1 t H1 L1 e1 hW0 hq e2 hL1 => ?_⟩
    · obtain ⟨q1, q2, q3⟩ := hq
      cases q1
      have := kk ls H1 (locs ++ L1) ⟨hL, by rw [← e2]; exact q2, hc.2, ?_⟩
      · rw [show 226 + g + g1 = 226 + (g + g1) by omega, show hp_sz + 6 * g + 6 * g1 = hp_sz + 6 * (g + g1) by omega]
        exact this
      · obtain ⟨f1, f2⟩ := q3
        rw [e1, e2] at f1 f2
        refine ⟨Nat.le_trans hS.1 f1, fun q g1 g2 => (f2 q (Nat.lt_of_lt_of_le g1 hS.1) g2).trans (hS.2.1 q g1 g2), fun q hq => ?_⟩
        rcases List.mem_append.mp hq with h | h
        · exact hS.2.2 q h
        · exact hL1 q h
    · obtain ⟨q1, q2, q3⟩ := hq
      cases q1
end LWC
end
section
/-! The law's helpers: the class's method is called; its answer is laid down, or its exception turned into a number. -/
/-- C is no T -/
def sx_na (C T : String) (U : State) : Prop := ∃ c t, U.vm.findClass C = some c ∧ U.vm.findClass T = some t ∧ U.vm.assignable c t = false
theorem sx_na_of {C T : String} {s : State} {a : Array Value} (h : (Cond.not (.castable C T)).before a s = true) : sx_na C T s := by
  simp only [Cond.before, Cond.holds, Cond.value] at h
  cases hc : s.vm.findClass C with
  | none => simp [hc] at h
  | some c =>
    cases ht : s.vm.findClass T with
    | none => simp [hc, ht] at h
    | some t =>
      simp [hc, ht] at h
      exact ⟨c, t, hc, ht, h⟩
theorem sx_na_mv {C T : String} {s U : State} (hvm : s.vm.Alike U.vm) (h : sx_na C T s) : sx_na C T U := by
  obtain ⟨c, t, h1, h2, h3⟩ := h
  exact ⟨c, t, (hvm.findClass C none).trans h1, (hvm.findClass T none).trans h2, by rw [hvm.assignable]; exact h3⟩
def hx_E (k : Nat) : String := match k with
  | 0 => "java/lang/IllegalArgumentException"
  | 1 => "java/lang/IndexOutOfBoundsException"
  | 2 => "java/lang/IllegalStateException"
  | _ => "java/lang/UnsupportedOperationException"
/-- of the four exceptions none is another's kind, as far as the helpers ask -/
def hx_pairs : List (String × String) := [(hx_E 1, hx_E 0), (hx_E 0, hx_E 2), (hx_E 2, hx_E 0), (hx_E 3, hx_E 0), (hx_E 3, hx_E 2)]
def hx_no (K : cx_K) : Prop := ∀ U, K.2.2.2.2.2.2.1 U → ∀ q ∈ hx_pairs, sx_na q.1 q.2 U
/-- which handler takes the exception E thrown at pc: the rows with the names of their classes -/
def hx_rows (E : String) (pc : Nat) : List ((Nat × Nat × Nat × Nat) × String) → Nat → Prop
  | [], _ => False
  | (x, T) :: r, to => x.1 ≤ pc ∧ pc < x.2.1 ∧ x.2.2.2 ≠ 0 ∧ Cond.classLink R_law x.2.2.2 T ∈ nm_Ts ∧ ((E = T ∧ Cond.castable E E ∈ nm_Tn ∧ to = x.2.2.1) ∨ ((E, T) ∈ hx_pairs ∧ hx_rows E pc r to))
theorem hx_rows_ok {l : Launch} {e : Env} {s : State} {a : Array Value} {d cE : ClassId} {E : String} {pc to : Nat} (he : l.admits e) (hd : s.vm.findClass R_law = some d) (hE : s.vm.findClass E = some cE) (hts : ∀ w ∈ nm_Ts, w.before a s = true) (htn : ∀ w ∈ nm_Tn, w.before a s = true) (hno : ∀ q ∈ hx_pairs, sx_na q.1 q.2 s) :
    ∀ (tb : List ExceptionTableEntry) (rs : List ((Nat × Nat × Nat × Nat) × String)), tb.map (fun h => (h.startPc, h.endPc, h.handlerPc, h.catchType)) = rs.map (fun q => q.1) → hx_rows E pc rs to → ax_rows e.platform s d pc cE tb to := by
  have hpl : e.platform.magicAccessors = ({} : Platform).magicAccessors := by rw [he.platform]
  intro tb
  induction tb with
  | nil =>
    intro rs h1 h2
    cases rs with
    | nil => exact h2
    | cons x r => cases h1
  | cons x t ih =>
    intro rs h1 h2
    cases rs with
    | nil => cases h1
    | cons y r =>
      obtain ⟨y, T⟩ := y
      simp only [List.map_cons, List.cons.injEq] at h1
      obtain ⟨rfl, h1⟩ := h1
      obtain ⟨g1, g2, g3, g4, g5⟩ := h2
      obtain ⟨k, hk, hl⟩ := Cond.classLink_spec hd (hts _ g4) e.platform hpl
      refine ⟨by simp only [covers, Bool.and_eq_true, decide_eq_true_eq]; exact ⟨g1, g2⟩, g3, k, hl, ?_⟩
      rcases g5 with ⟨rfl, g6, g7⟩ | ⟨g6, g7⟩
      · obtain ⟨c1, t1, f1, f2, f3⟩ := Cond.castable_spec (htn _ g6)
        rw [hE] at f1
        rw [hk] at f2
        cases f1
        cases f2
        exact Or.inl ⟨f3, g7⟩
      · obtain ⟨c1, t1, f1, f2, f3⟩ := hno _ g6
        simp only at f1 f2
        rw [hE] at f1
        rw [hk] at f2
        cases f1
        cases f2
        exact Or.inr ⟨f3, ih r h1 g7⟩
section HX
variable {K : cx_K} {y : MethodName} {bytes : ByteArray} {maxL : Nat} {hh : List (Nat × Nat × Nat × Nat)} {LI : List (Nat × Instr × Nat)} {LS : List nm_S} {As : List Value} {h h1 : List va_E}
/-- the way to the call, and the call -/
theorem hx_go (hK : Kok K) (hyc : y.cls = R_law) (hI : am_ic bytes LI = true) (hS : LS.all (nm_schk nd_ct nd_ml R_law) = true) (hn : (am_ent As).length ≤ maxL) {n0 : Nat} {c1 : am_cfg} (h0 : am_ps (am_in LI) n0 (0, am_entry As maxL, []) = some c1) {ix kd yM k ci g : Nat} {o : am_O} (hs : am_site (am_in LI) (am_sl nd_ml LS) (c1.1, c1.2.1, c1.2.2, h) = some (ix, kd, yM, k, ci)) (hsl : am_sl nd_ml LS ix = some (kd, yM, k, ci)) (hk : k ≤ c1.2.2.length) (hw8 : ((c1.2.2.drop k).map fun v => v.category).sum ≤ 8) (hrm : nd_fr yM + 1 ≤ 13 ∧ 8 + ((nd_mt yM).2.2.1 + 11) + nd_lo yM ≤ 515 - maxL) (hc : Ct K yM (c1.2.2.take k).reverse h o h1 g) {rk : Int32} {h' : List va_E} (hD' : va_D K.2.2.2.2.1 (am_ws K.2.1 K.2.2.1 h'))
    (kr : ∀ (p : Program) (e : Env) (s : State) (m : MethodId) (args : Array Value) (below : List Frame) (meth : Method) (c : Code), p.tables.exec = Jvm.exec → c.code = bytes → meth.sig.returnType = some .int → meth.locks = false → s.vm.findClass R_law = some m.cls → (∀ w ∈ nm_Ts, w.before args s = true) → va_K K.2.2.2.1 nd_cl K.2.2.2.2.2.1 s → K.2.2.2.2.2.2.1 s → c.exceptionTable.toList.map (fun h => (h.startPc, h.endPc, h.handlerPc, h.catchType)) = hh →
      (∀ v, o = .inl v → ∀ ls H locs, am_at K.2.1 K.2.2.1 K.2.2.2.1 nd_cl K.2.2.2.2.1 s.heap maxL (c1.1 + 3, c1.2.1, v.toList ++ c1.2.2.drop k, h1) ls H locs → W p K.1 e { frames := 13, cells := g, slots := 6 * g, locals := 515 - maxL } s m args below meth c H locs g (6 * g) (ax_E below (am_Qx K.2.2.2.1 nd_cl K.2.1 K.2.2.1 K.2.2.2.2.1 (.inl (some (.int rk))) h') args s g (6 * g) K.2.2.2.2.1) (F0 m (c1.1 + 3) ls ((v.toList ++ c1.2.2.drop k).map (am_v K.2.1)))) ∧
      (∀ E, o = .inr E → ∀ (q : Addr) (ce : Cell) ls H locs, am_has K.2.1 ls maxL c1.2.1 → va_P K.2.2.2.1 nd_cl (am_ws K.2.1 K.2.2.1 h1) H → va_S K.2.2.2.2.1 s.heap H locs → H[q]? = some ce → ce.vm = .none → s.vm.findClass E = some ce.cls → ax_T p K.1 e { frames := 13, cells := g, slots := 6 * g, locals := 515 - maxL } s m args below meth c H locs g (6 * g) (ax_E below (am_Qx K.2.2.2.1 nd_cl K.2.1 K.2.2.1 K.2.2.2.2.1 (.inl (some (.int rk))) h') args s g (6 * g) K.2.2.2.2.1) (F0 m c1.1 ls ((c1.2.2.drop k).map (am_v K.2.1))) q)) :
    Hc K y bytes maxL hh As h rk h' g := by
  have t3 := cx_t3 hK
  obtain ⟨t0, t1, t2, t33, t44, ⟨x1, x2, x3⟩, had, hD9, -⟩ := hK
  refine ⟨?_, hD'⟩
  refine ax_ofWH (cc := bytes) (maxL := maxL) (ret := some .int) (hh := hh) (by rw [hyc]; decide +kernel) rfl ?_
  intro p e s m args below meth c s₁ B hml hht hv
  obtain ⟨rfl, hP, hD, hKs, hXs⟩ := hv
  have hts0 := atoms_spec (ws := Cond.codeWith y bytes maxL (some .int) hh :: nm_Ts) B.pre
  have hts : ∀ w ∈ nm_Ts, w.before ((As.map (am_v K.2.1)).toArray) s = true := fun w hw => hts0 w (List.mem_cons_of_mem _ hw)
  have hown : s.vm.findClass R_law = some m.cls := by rw [← hyc]; exact findClass_of_methodNamed B.named
  have hl := lv_entry (As.map (am_v K.2.1)) (n := maxL) (by rw [am_ent_len]; exact hn)
  rw [lg_entry_eq]
  generalize (lg_sl (As.map (am_v K.2.1)) ++ List.replicate (maxL - (lg_sl (As.map (am_v K.2.1))).length) Slot.unset).toArray = ls at hl ⊢
  have hL := am_has_entry hn hl
  have hins := am_in_ok hI
  obtain ⟨kr1, kr2⟩ := kr p e s m _ below meth c B.exec B.bytes B.returns B.notSynchronized hown hts hKs hXs hht
  have hgo : ∀ (n : Nat) (c0 : am_cfg) (ls : Array Slot), am_ps (am_in LI) n c0 = some c1 → am_has K.2.1 ls maxL c0.2.1 → W p K.1 e { frames := 13, cells := g, slots := 6 * g, locals := 515 - maxL } s m (As.map (am_v K.2.1)).toArray below meth c s.heap [] 0 0 (ax_E below (am_Qx K.2.2.2.1 nd_cl K.2.1 K.2.2.1 K.2.2.2.2.1 (.inl (some (.int rk))) h') (As.map (am_v K.2.1)).toArray s g (6 * g) K.2.2.2.2.1) (F0 m c0.1 ls (c0.2.2.map (am_v K.2.1))) := by
    intro n
    induction n with
    | zero =>
      intro c0 ls hp hL0
      cases hp
      refine am_call_ok (S := (c1.1, c1.2.1, c1.2.2, h)) (own := R_law) (nL := maxL) (Ts := nm_Ts) (Tn := nm_Tn) (XX := K.2.2.2.2.2.2.1) (mt := nd_mt) (rm := am_rm nd_fr nd_lo yM g) (mc := g) (ms := 6 * g) B.exec B.bytes hml hown hts nm_good (fun w hw => x3 s hXs w hw _) hKs hins (nm_sok hS) x1 (fun U _ hW hF => x2 s U hXs hW hF) ⟨hL0, hP, hD, va_S.rf⟩ hs hk hw8 hc.1 rfl rfl hrm.1 hrm.2 (by show 0 + g ≤ g; omega) (by show 0 + 6 * g ≤ 6 * g; omega) hc.2 ?_ ?_
      · intro v hv H1 locs1 h2
        rw [Nat.zero_add, Nat.zero_add]
        exact kr1 v hv ls H1 locs1 h2
      · intro E hE q ce H1 locs1 a1 a2 a3 a4 a5
        rw [Nat.zero_add, Nat.zero_add]
        exact kr2 E hE q ce ls H1 locs1 hL0 a1 a2 a3 a4 a5
    | succ n ih =>
      intro c0 ls hp hL0
      unfold am_ps at hp
      split at hp
      · cases hp
      · next i w hi =>
        split at hp
        · cases hp
        · next c2 h2 => exact am_p_ok B.exec B.bytes hL0 (hins _ _ _ hi) h2 (fun ls' hL' => ih c2 ls' hp hL')
  exact hgo n0 (0, am_entry As maxL, []) ls h0 hL
end HX
end
section
/-! The two ends of a helper. -/
section HQ
variable {p : Program} {l : Launch} {e : Env} {R : Room} {s : State} {m : MethodId} {args : Array Value} {below : List Frame} {meth : Method} {c : Code} {H : Heap} {locs : List Loc} {cells slots : Nat} {Q : State → Prop}
theorem am_ps_ok {cc : ByteArray} {ad : Nat → Nat} {nL : Nat} {ins : Nat → Option (Instr × Nat)} (hx : p.tables.exec = Jvm.exec) (hb : c.code = cc) (hins : ∀ pc i n, ins pc = some (i, n) → decode cc pc = .ok (i, n)) {c1 : am_cfg} (kk : ∀ ls', am_has ad ls' nL c1.2.1 → W p l e R s m args below meth c H locs cells slots Q (F0 m c1.1 ls' (c1.2.2.map (am_v ad)))) :
    ∀ (n : Nat) (c0 : am_cfg) (ls : Array Slot), am_ps ins n c0 = some c1 → am_has ad ls nL c0.2.1 → W p l e R s m args below meth c H locs cells slots Q (F0 m c0.1 ls (c0.2.2.map (am_v ad))) := by
  intro n
  induction n with
  | zero => intro c0 ls hp hL; cases hp; exact kk ls hL
  | succ n ih =>
    intro c0 ls hp hL
    unfold am_ps at hp
    split at hp
    · cases hp
    · next i w hi =>
      split at hp
      · cases hp
      · next c2 h2 => exact am_p_ok hx hb hL (hins _ _ _ hi) h2 (fun ls' hL' => ih c2 ls' hp hL')
end HQ
theorem am_n_i2l {ins : Nat → Option (Instr × Nat)} {fld : Nat → Option (Nat × Nat × Nat)} {cst : Nat → Option Value} {pc : Nat} {L : List (Option Value)} {r : Int32} {st : List Value} {h : List va_E} (hi : ins pc = some (.i2l, 1)) : am_n ins fld cst (pc, L, .int r :: st, h) = some (pc + 1, L, .long r.toInt64 :: st, h) := by
  unfold am_n
  simp only [hi]
  rfl
theorem am_n_last {ins : Nat → Option (Instr × Nat)} {fld : Nat → Option (Nat × Nat × Nat)} {cst : Nat → Option Value} {pc k n : Nat} {L : List (Option Value)} {x : Int64} {j : Int32} {st : List Value} {h : List va_E} {f : Nat → Int64} (hi : ins pc = some (.lastore, 1)) (hh : h[k]? = some (.inl (2, n, .inr (.inl f)))) (hin : ¬ (j < 0 ∨ n ≤ j.toNatClampNeg)) : am_n ins fld cst (pc, L, .long x :: .int j :: .ref k :: st, h) = some (pc + 1, L, st, h.set k (.inl (2, n, .inr (.inl (vp_updL f j.toNatClampNeg x))))) := by
  unfold am_n
  simp only [hi]
  have e1 : am_p .lastore 1 pc L (.long x :: .int j :: .ref k :: st) = none := rfl
  have e2 : am_hA fld .lastore 1 pc L (.long x :: .int j :: .ref k :: st) h = none := rfl
  simp only [e1, e2, am_hB, hh, hin, not_false_eq_true, if_true]
section HX2
variable {K : cx_K} {y : MethodName} {bytes : ByteArray} {maxL : Nat} {hh : List (Nat × Nat × Nat × Nat)} {LI : List (Nat × Instr × Nat)} {LS : List nm_S} {As : List Value} {h h1 : List va_E}
/-- it answers -/
theorem hx_good (hK : Kok K) (hyc : y.cls = R_law) (hI : am_ic bytes LI = true) (hS : LS.all (nm_schk nd_ct nd_ml R_law) = true) (hn : (am_ent As).length ≤ maxL) {n0 : Nat} {c1 c3 : am_cfg} (h0 : am_ps (am_in LI) n0 (0, am_entry As maxL, []) = some c1) {ix kd yM k ci g : Nat} (hs : am_site (am_in LI) (am_sl nd_ml LS) (c1.1, c1.2.1, c1.2.2, h) = some (ix, kd, yM, k, ci)) (hsl : am_sl nd_ml LS ix = some (kd, yM, k, ci)) (hk : k ≤ c1.2.2.length) (hdr : c1.2.2.drop k = [.int 0, .ref 225]) (hrm : nd_fr yM + 1 ≤ 13 ∧ 8 + ((nd_mt yM).2.2.1 + 11) + nd_lo yM ≤ 515 - maxL)
    (i1 : am_in LI (c1.1 + 3) = some (.i2l, 1)) (i2 : am_in LI (c1.1 + 3 + 1) = some (.lastore, 1)) (hp : am_ps (am_in LI) 2 (c1.1 + 3 + 1 + 1, c1.2.1, []) = some c3) (hst : c3.2.2 = [.int 0]) (i3 : am_in LI c3.1 = some (.ireturn, 1)) {r : Int32} (hc : Ct K yM (c1.2.2.take k).reverse h (.inl (some (.int r))) h1 g) {f : Nat → Int64} (hf : h1[225]? = some (.inl (2, 1, .inr (.inl f)))) (hl : h1.length ≤ 1000000) :
    Hc K y bytes maxL hh As h 0 (h1.set 225 (.inl (2, 1, .inr (.inl (vp_updL f 0 r.toInt64))))) g := by
  have hK0 := hK
  have t3 := cx_t3 hK
  obtain ⟨t0, t1, t2, t33, t44, ⟨x1, x2, x3⟩, had, hD9, -⟩ := hK
  refine hx_go hK0 hyc hI hS hn h0 hs hsl hk (by rw [hdr]; decide) hrm hc (hD9 _ (by simpa using hl)) ?_
  intro p e s m args below meth c e1 e2 e3 e4 hown hts hKs hXs hht
  refine ⟨fun v hv ls H locs hat => ?_, fun E hE => by cases hE⟩
  cases hv
  rw [hdr] at hat ⊢
  have hins := am_in_ok hI
  refine am_n_ok (S := (c1.1 + 3, c1.2.1, [.int r, .int 0, .ref 225], h1)) (cst := am_ct []) (own := R_law) (fld := am_fl []) (cl := nd_cl) (Ts := nm_Ts) e1 e2 hown hts lx_Fw hKs t0 t1 t2 t3 hins (nm_kok (L := []) rfl).1 (nm_kok (L := []) rfl).2 hat (am_n_i2l i1) (fun ls H locs hat => ?_)
  refine am_n_ok (S := (c1.1 + 3 + 1, c1.2.1, [.long r.toInt64, .int 0, .ref 225], h1)) (cst := am_ct []) (own := R_law) (fld := am_fl []) (cl := nd_cl) (Ts := nm_Ts) e1 e2 hown hts lx_Fw hKs t0 t1 t2 t3 hins (nm_kok (L := []) rfl).1 (nm_kok (L := []) rfl).2 hat (am_n_last i2 hf (by decide)) (fun ls H locs hat => ?_)
  obtain ⟨a1, a2, a3, a4⟩ := hat
  refine am_ps_ok (c1 := c3) e1 e2 hins (fun ls' hL' => ?_) 2 (c1.1 + 3 + 1 + 1, c1.2.1, []) ls hp a1
  rw [hst]
  exact am_ret_ok (S := (c3.1, c3.2.1, [.int 0], h1.set 225 (.inl (2, 1, .inr (.inl (vp_updL f 0 r.toInt64)))))) (rt := some .int) e1 e2 e3 e4 hins ⟨hL', a2, a3, a4⟩ (fun _ q => q) (by unfold am_ret; simp only [i3])
/-- it throws -/
theorem hx_bad (hK : Kok K) (hno : hx_no K) (hyc : y.cls = R_law) (hI : am_ic bytes LI = true) (hS : LS.all (nm_schk nd_ct nd_ml R_law) = true) (hn : (am_ent As).length ≤ maxL) {n0 : Nat} {c1 c3 : am_cfg} (h0 : am_ps (am_in LI) n0 (0, am_entry As maxL, []) = some c1) {ix kd yM k ci g : Nat} (hs : am_site (am_in LI) (am_sl nd_ml LS) (c1.1, c1.2.1, c1.2.2, h) = some (ix, kd, yM, k, ci)) (hsl : am_sl nd_ml LS ix = some (kd, yM, k, ci)) (hk : k ≤ c1.2.2.length) (hw8 : ((c1.2.2.drop k).map fun v => v.category).sum ≤ 8) (hrm : nd_fr yM + 1 ≤ 13 ∧ 8 + ((nd_mt yM).2.2.1 + 11) + nd_lo yM ≤ 515 - maxL)
    {rs : List ((Nat × Nat × Nat × Nat) × String)} (hrs : rs.map (fun q => q.1) = hh) {E : String} {to : Nat} (hrow : hx_rows E c1.1 rs to) {rk : Int32} (hp : am_ps (am_in LI) 2 (to, List.replicate maxL none, [.ref 0]) = some c3) (hst : c3.2.2 = [.int rk]) (i3 : am_in LI c3.1 = some (.ireturn, 1)) (hc : Ct K yM (c1.2.2.take k).reverse h (.inr E) h1 g) :
    Hc K y bytes maxL hh As h rk h1 g := by
  have hK0 := hK
  obtain ⟨t0, t1, t2, t33, t44, ⟨x1, x2, x3⟩, had, hD9, -⟩ := hK
  refine hx_go hK0 hyc hI hS hn h0 hs hsl hk hw8 hrm hc hc.2 ?_
  intro p e s m args below meth c e1 e2 e3 e4 hown hts hKs hXs hht
  refine ⟨(fun v hv => by cases hv), fun E hE q ce ls H locs hL hP hS1 a1 a2 a3 => ?_⟩
  cases hE
  have hins := am_in_ok hI
  refine ax_catch a1 a2 a3 (fun e he => hx_rows_ok he hown a3 hts (fun w hw => x3 s hXs w hw _) (hno s hXs) c.exceptionTable.toList rs (hht.trans hrs.symm) hrow) ?_
  have hL0 : am_has (fun _ => q) ls maxL (List.replicate maxL none) := by
    obtain ⟨g1, g2, g3, g4⟩ := hL
    refine ⟨g1, g2, by simp, fun i w hw => ?_⟩
    rw [List.getElem?_replicate] at hw
    split at hw <;> cases hw
  refine am_ps_ok (c1 := c3) (ad := fun _ => q) (nL := maxL) e1 e2 hins (fun ls' hL' => ?_) 2 (to, List.replicate maxL none, [.ref 0]) ls hp hL0
  rw [hst]
  exact ax_ret (W.zret (ty := .int) e1 e2 e3 rfl (fun t ht _ => ⟨rfl, by rw [ht]; exact hP, hS1.F ht⟩) (fun z hz => hS1.2.2 z hz) (hins _ _ _ i3))
end HX2
end
section
/-! The law's helpers, one by one (printed by wip/gen/help.py). -/
theorem am_site_v {ins : Nat → Option (Instr × Nat)} {site : Nat → Option (Nat × Nat × Nat × Nat)} {pc ix y k ci : Nat} {L : List (Option Value)} {st : List Value} {h : List va_E} (hi : ins pc = some (.invokevirtual ix, 3)) (hs : site ix = some (1, y, k, ci)) (hr : am_rcv st h k ci = true) : am_site ins site (pc, L, st, h) = some (ix, 1, y, k, ci) := by
  unfold am_site
  simp only [hi, hs, hr, if_true]
theorem am_rcv_v {st : List Value} {h : List va_E} {j ci b : Nat} {fs : List Value} (h1 : st[j]? = some (.ref b)) (h2 : h[b]? = some (.inr (ci, fs))) : am_rcv st h (j + 1) ci = true := by
  unfold am_rcv
  simp only [h1, h2, beq_self_eq_true]
theorem hx_cl13 : Cond.classLink R_law 13 (hx_E 0) ∈ nm_Ts := nm_in (i := 567) (by decide +kernel) rfl
theorem hx_cl22 : Cond.classLink R_law 22 (hx_E 1) ∈ nm_Ts := nm_in (i := 880) (by decide +kernel) rfl
theorem hx_cl41 : Cond.classLink R_law 41 (hx_E 2) ∈ nm_Ts := nm_in (i := 939) (by decide +kernel) rfl
theorem hx_cl53 : Cond.classLink R_law 53 (hx_E 3) ∈ nm_Ts := nm_in (i := 1058) (by decide +kernel) rfl
theorem hx_ca0 : Cond.castable (hx_E 0) (hx_E 0) ∈ nm_Tn := nm_inN (i := 574) (by decide +kernel) rfl
theorem hx_ca1 : Cond.castable (hx_E 1) (hx_E 1) ∈ nm_Tn := nm_inN (i := 890) (by decide +kernel) rfl
theorem hx_ca2 : Cond.castable (hx_E 2) (hx_E 2) ∈ nm_Tn := nm_inN (i := 946) (by decide +kernel) rfl
theorem hx_ca3 : Cond.castable (hx_E 3) (hx_E 3) ∈ nm_Tn := nm_inN (i := 1202) (by decide +kernel) rfl
theorem hx_pr10 : (hx_E 1, hx_E 0) ∈ hx_pairs := List.mem_of_getElem? (i := 0) rfl
theorem hx_pr02 : (hx_E 0, hx_E 2) ∈ hx_pairs := List.mem_of_getElem? (i := 1) rfl
theorem hx_pr20 : (hx_E 2, hx_E 0) ∈ hx_pairs := List.mem_of_getElem? (i := 2) rfl
theorem hx_pr30 : (hx_E 3, hx_E 0) ∈ hx_pairs := List.mem_of_getElem? (i := 3) rfl
theorem hx_pr32 : (hx_E 3, hx_E 2) ∈ hx_pairs := List.mem_of_getElem? (i := 4) rfl
def hl_i_read : List (Nat × Instr × Nat) := [(0, .aload_n 2, 1), (1, .iconst 0, 1), (2, .aload_n 0, 1), (3, .iload_n 1, 1), (4, .invokevirtual 7, 3), (7, .i2l, 1), (8, .lastore, 1), (9, .goto 6, 3), (12, .astore_n 3, 1), (13, .iconst 1, 1), (14, .ireturn, 1), (15, .iconst 0, 1), (16, .ireturn, 1)]
theorem hl_i_read_ok : am_ic method_3_code hl_i_read = true := by decide +kernel
def hl_s_read : List nm_S := [(7, 21, false, 568)]
theorem hl_s_read_ok : hl_s_read.all (nm_schk nd_ct nd_ml R_law) = true := by decide +kernel
theorem hg_read {K : cx_K} (hK : Kok K) {a0 : Int32} {h h1 : List va_E} {fs : List Value} {g : Nat} {r : Int32} {f : Nat → Int64} (hx : h[0]? = some (.inr (0, fs))) (hc : Ct K 21 [.ref 0, .int a0] h (.inl (some (.int r))) h1 g) (hf : h1[225]? = some (.inl (2, 1, .inr (.inl f)))) (hl : h1.length ≤ 1000000) : Hc K ⟨"PaperParcelsLaw", "read", "(LPaperParcels;I[J)I"⟩ method_3_code 4 [(0, 9, 12, 13)] [.ref 0, .int a0, .ref 225] h 0 (h1.set 225 (.inl (2, 1, .inr (.inl (vp_updL f 0 r.toInt64))))) g :=
  hx_good (LI := hl_i_read) (LS := hl_s_read) hK rfl hl_i_read_ok hl_s_read_ok (Nat.le_of_ble_eq_true rfl) (n0 := 4) (c1 := (4, [some (.ref 0), some (.int a0), some (.ref 225), none], [.int a0, .ref 0, .int 0, .ref 225])) (c3 := (16, [some (.ref 0), some (.int a0), some (.ref 225), none], [.int 0])) rfl (am_site_v (y := 21) (k := 2) (ci := 0) rfl rfl (am_rcv_v rfl hx)) rfl (Nat.le_of_ble_eq_true rfl) rfl ⟨Nat.le_of_ble_eq_true rfl, Nat.le_of_ble_eq_true rfl⟩ rfl rfl rfl rfl rfl hc hf hl
theorem hb_read_1 {K : cx_K} (hK : Kok K) (hno : hx_no K) {a0 : Int32} {h h1 : List va_E} {fs : List Value} {g : Nat} (hx : h[0]? = some (.inr (0, fs))) (hc : Ct K 21 [.ref 0, .int a0] h (.inr (hx_E 0)) h1 g) : Hc K ⟨"PaperParcelsLaw", "read", "(LPaperParcels;I[J)I"⟩ method_3_code 4 [(0, 9, 12, 13)] [.ref 0, .int a0, .ref 225] h 1 h1 g :=
  hx_bad (LI := hl_i_read) (LS := hl_s_read) hK hno rfl hl_i_read_ok hl_s_read_ok (Nat.le_of_ble_eq_true rfl) (n0 := 4) (c1 := (4, [some (.ref 0), some (.int a0), some (.ref 225), none], [.int a0, .ref 0, .int 0, .ref 225])) (c3 := (14, [none, none, none, some (.ref 0)], [.int 1])) rfl (am_site_v (y := 21) (k := 2) (ci := 0) rfl rfl (am_rcv_v rfl hx)) rfl (Nat.le_of_ble_eq_true rfl) (Nat.le_of_ble_eq_true rfl) ⟨Nat.le_of_ble_eq_true rfl, Nat.le_of_ble_eq_true rfl⟩ (rs := [((0, 9, 12, 13), hx_E 0)]) rfl (to := 12) ⟨Nat.le_of_ble_eq_true rfl, Nat.le_of_ble_eq_true rfl, by decide, hx_cl13, Or.inl ⟨rfl, hx_ca0, rfl⟩⟩ (rk := 1) rfl rfl rfl hc
def hl_i_nodes : List (Nat × Instr × Nat) := [(0, .aload_n 2, 1), (1, .iconst 0, 1), (2, .aload_n 0, 1), (3, .iload_n 1, 1), (4, .invokevirtual 15, 3), (7, .i2l, 1), (8, .lastore, 1), (9, .goto 6, 3), (12, .astore_n 3, 1), (13, .iconst 1, 1), (14, .ireturn, 1), (15, .iconst 0, 1), (16, .ireturn, 1)]
theorem hl_i_nodes_ok : am_ic method_4_code hl_i_nodes = true := by decide +kernel
def hl_s_nodes : List nm_S := [(15, 82, false, 869)]
theorem hl_s_nodes_ok : hl_s_nodes.all (nm_schk nd_ct nd_ml R_law) = true := by decide +kernel
theorem hg_nodes {K : cx_K} (hK : Kok K) {a0 : Int32} {h h1 : List va_E} {fs : List Value} {g : Nat} {r : Int32} {f : Nat → Int64} (hx : h[0]? = some (.inr (0, fs))) (hc : Ct K 82 [.ref 0, .int a0] h (.inl (some (.int r))) h1 g) (hf : h1[225]? = some (.inl (2, 1, .inr (.inl f)))) (hl : h1.length ≤ 1000000) : Hc K ⟨"PaperParcelsLaw", "nodes", "(LPaperParcels;I[J)I"⟩ method_4_code 4 [(0, 9, 12, 13)] [.ref 0, .int a0, .ref 225] h 0 (h1.set 225 (.inl (2, 1, .inr (.inl (vp_updL f 0 r.toInt64))))) g :=
  hx_good (LI := hl_i_nodes) (LS := hl_s_nodes) hK rfl hl_i_nodes_ok hl_s_nodes_ok (Nat.le_of_ble_eq_true rfl) (n0 := 4) (c1 := (4, [some (.ref 0), some (.int a0), some (.ref 225), none], [.int a0, .ref 0, .int 0, .ref 225])) (c3 := (16, [some (.ref 0), some (.int a0), some (.ref 225), none], [.int 0])) rfl (am_site_v (y := 82) (k := 2) (ci := 0) rfl rfl (am_rcv_v rfl hx)) rfl (Nat.le_of_ble_eq_true rfl) rfl ⟨Nat.le_of_ble_eq_true rfl, Nat.le_of_ble_eq_true rfl⟩ rfl rfl rfl rfl rfl hc hf hl
theorem hb_nodes_1 {K : cx_K} (hK : Kok K) (hno : hx_no K) {a0 : Int32} {h h1 : List va_E} {fs : List Value} {g : Nat} (hx : h[0]? = some (.inr (0, fs))) (hc : Ct K 82 [.ref 0, .int a0] h (.inr (hx_E 0)) h1 g) : Hc K ⟨"PaperParcelsLaw", "nodes", "(LPaperParcels;I[J)I"⟩ method_4_code 4 [(0, 9, 12, 13)] [.ref 0, .int a0, .ref 225] h 1 h1 g :=
  hx_bad (LI := hl_i_nodes) (LS := hl_s_nodes) hK hno rfl hl_i_nodes_ok hl_s_nodes_ok (Nat.le_of_ble_eq_true rfl) (n0 := 4) (c1 := (4, [some (.ref 0), some (.int a0), some (.ref 225), none], [.int a0, .ref 0, .int 0, .ref 225])) (c3 := (14, [none, none, none, some (.ref 0)], [.int 1])) rfl (am_site_v (y := 82) (k := 2) (ci := 0) rfl rfl (am_rcv_v rfl hx)) rfl (Nat.le_of_ble_eq_true rfl) (Nat.le_of_ble_eq_true rfl) ⟨Nat.le_of_ble_eq_true rfl, Nat.le_of_ble_eq_true rfl⟩ (rs := [((0, 9, 12, 13), hx_E 0)]) rfl (to := 12) ⟨Nat.le_of_ble_eq_true rfl, Nat.le_of_ble_eq_true rfl, by decide, hx_cl13, Or.inl ⟨rfl, hx_ca0, rfl⟩⟩ (rk := 1) rfl rfl rfl hc
def hl_i_kind : List (Nat × Instr × Nat) := [(0, .aload_n 3, 1), (1, .iconst 0, 1), (2, .aload_n 0, 1), (3, .iload_n 1, 1), (4, .iload_n 2, 1), (5, .invokevirtual 18, 3), (8, .i2l, 1), (9, .lastore, 1), (10, .goto 11, 3), (13, .astore 4, 2), (15, .iconst 1, 1), (16, .ireturn, 1), (17, .astore 4, 2), (19, .iconst 2, 1), (20, .ireturn, 1), (21, .iconst 0, 1), (22, .ireturn, 1)]
theorem hl_i_kind_ok : am_ic method_5_code hl_i_kind = true := by decide +kernel
def hl_s_kind : List nm_S := [(18, 84, false, 881)]
theorem hl_s_kind_ok : hl_s_kind.all (nm_schk nd_ct nd_ml R_law) = true := by decide +kernel
theorem hg_kind {K : cx_K} (hK : Kok K) {a0 a1 : Int32} {h h1 : List va_E} {fs : List Value} {g : Nat} {r : Int32} {f : Nat → Int64} (hx : h[0]? = some (.inr (0, fs))) (hc : Ct K 84 [.ref 0, .int a0, .int a1] h (.inl (some (.int r))) h1 g) (hf : h1[225]? = some (.inl (2, 1, .inr (.inl f)))) (hl : h1.length ≤ 1000000) : Hc K ⟨"PaperParcelsLaw", "kind", "(LPaperParcels;II[J)I"⟩ method_5_code 5 [(0, 10, 13, 13), (0, 10, 17, 22)] [.ref 0, .int a0, .int a1, .ref 225] h 0 (h1.set 225 (.inl (2, 1, .inr (.inl (vp_updL f 0 r.toInt64))))) g :=
  hx_good (LI := hl_i_kind) (LS := hl_s_kind) hK rfl hl_i_kind_ok hl_s_kind_ok (Nat.le_of_ble_eq_true rfl) (n0 := 5) (c1 := (5, [some (.ref 0), some (.int a0), some (.int a1), some (.ref 225), none], [.int a1, .int a0, .ref 0, .int 0, .ref 225])) (c3 := (22, [some (.ref 0), some (.int a0), some (.int a1), some (.ref 225), none], [.int 0])) rfl (am_site_v (y := 84) (k := 3) (ci := 0) rfl rfl (am_rcv_v rfl hx)) rfl (Nat.le_of_ble_eq_true rfl) rfl ⟨Nat.le_of_ble_eq_true rfl, Nat.le_of_ble_eq_true rfl⟩ rfl rfl rfl rfl rfl hc hf hl
theorem hb_kind_1 {K : cx_K} (hK : Kok K) (hno : hx_no K) {a0 a1 : Int32} {h h1 : List va_E} {fs : List Value} {g : Nat} (hx : h[0]? = some (.inr (0, fs))) (hc : Ct K 84 [.ref 0, .int a0, .int a1] h (.inr (hx_E 0)) h1 g) : Hc K ⟨"PaperParcelsLaw", "kind", "(LPaperParcels;II[J)I"⟩ method_5_code 5 [(0, 10, 13, 13), (0, 10, 17, 22)] [.ref 0, .int a0, .int a1, .ref 225] h 1 h1 g :=
  hx_bad (LI := hl_i_kind) (LS := hl_s_kind) hK hno rfl hl_i_kind_ok hl_s_kind_ok (Nat.le_of_ble_eq_true rfl) (n0 := 5) (c1 := (5, [some (.ref 0), some (.int a0), some (.int a1), some (.ref 225), none], [.int a1, .int a0, .ref 0, .int 0, .ref 225])) (c3 := (16, [none, none, none, none, some (.ref 0)], [.int 1])) rfl (am_site_v (y := 84) (k := 3) (ci := 0) rfl rfl (am_rcv_v rfl hx)) rfl (Nat.le_of_ble_eq_true rfl) (Nat.le_of_ble_eq_true rfl) ⟨Nat.le_of_ble_eq_true rfl, Nat.le_of_ble_eq_true rfl⟩ (rs := [((0, 10, 13, 13), hx_E 0), ((0, 10, 17, 22), hx_E 1)]) rfl (to := 13) ⟨Nat.le_of_ble_eq_true rfl, Nat.le_of_ble_eq_true rfl, by decide, hx_cl13, Or.inl ⟨rfl, hx_ca0, rfl⟩⟩ (rk := 1) rfl rfl rfl hc
theorem hb_kind_2 {K : cx_K} (hK : Kok K) (hno : hx_no K) {a0 a1 : Int32} {h h1 : List va_E} {fs : List Value} {g : Nat} (hx : h[0]? = some (.inr (0, fs))) (hc : Ct K 84 [.ref 0, .int a0, .int a1] h (.inr (hx_E 1)) h1 g) : Hc K ⟨"PaperParcelsLaw", "kind", "(LPaperParcels;II[J)I"⟩ method_5_code 5 [(0, 10, 13, 13), (0, 10, 17, 22)] [.ref 0, .int a0, .int a1, .ref 225] h 2 h1 g :=
  hx_bad (LI := hl_i_kind) (LS := hl_s_kind) hK hno rfl hl_i_kind_ok hl_s_kind_ok (Nat.le_of_ble_eq_true rfl) (n0 := 5) (c1 := (5, [some (.ref 0), some (.int a0), some (.int a1), some (.ref 225), none], [.int a1, .int a0, .ref 0, .int 0, .ref 225])) (c3 := (20, [none, none, none, none, some (.ref 0)], [.int 2])) rfl (am_site_v (y := 84) (k := 3) (ci := 0) rfl rfl (am_rcv_v rfl hx)) rfl (Nat.le_of_ble_eq_true rfl) (Nat.le_of_ble_eq_true rfl) ⟨Nat.le_of_ble_eq_true rfl, Nat.le_of_ble_eq_true rfl⟩ (rs := [((0, 10, 13, 13), hx_E 0), ((0, 10, 17, 22), hx_E 1)]) rfl (to := 17) ⟨Nat.le_of_ble_eq_true rfl, Nat.le_of_ble_eq_true rfl, by decide, hx_cl13, Or.inr ⟨hx_pr10, ⟨Nat.le_of_ble_eq_true rfl, Nat.le_of_ble_eq_true rfl, by decide, hx_cl22, Or.inl ⟨rfl, hx_ca1, rfl⟩⟩⟩⟩ (rk := 2) rfl rfl rfl hc
def hl_i_above : List (Nat × Instr × Nat) := [(0, .aload_n 3, 1), (1, .iconst 0, 1), (2, .aload_n 0, 1), (3, .iload_n 1, 1), (4, .iload_n 2, 1), (5, .invokevirtual 24, 3), (8, .i2l, 1), (9, .lastore, 1), (10, .goto 11, 3), (13, .astore 4, 2), (15, .iconst 1, 1), (16, .ireturn, 1), (17, .astore 4, 2), (19, .iconst 2, 1), (20, .ireturn, 1), (21, .iconst 0, 1), (22, .ireturn, 1)]
theorem hl_i_above_ok : am_ic method_6_code hl_i_above = true := by decide +kernel
def hl_s_above : List nm_S := [(24, 87, false, 906)]
theorem hl_s_above_ok : hl_s_above.all (nm_schk nd_ct nd_ml R_law) = true := by decide +kernel
theorem hg_above {K : cx_K} (hK : Kok K) {a0 a1 : Int32} {h h1 : List va_E} {fs : List Value} {g : Nat} {r : Int32} {f : Nat → Int64} (hx : h[0]? = some (.inr (0, fs))) (hc : Ct K 87 [.ref 0, .int a0, .int a1] h (.inl (some (.int r))) h1 g) (hf : h1[225]? = some (.inl (2, 1, .inr (.inl f)))) (hl : h1.length ≤ 1000000) : Hc K ⟨"PaperParcelsLaw", "above", "(LPaperParcels;II[J)I"⟩ method_6_code 5 [(0, 10, 13, 13), (0, 10, 17, 22)] [.ref 0, .int a0, .int a1, .ref 225] h 0 (h1.set 225 (.inl (2, 1, .inr (.inl (vp_updL f 0 r.toInt64))))) g :=
  hx_good (LI := hl_i_above) (LS := hl_s_above) hK rfl hl_i_above_ok hl_s_above_ok (Nat.le_of_ble_eq_true rfl) (n0 := 5) (c1 := (5, [some (.ref 0), some (.int a0), some (.int a1), some (.ref 225), none], [.int a1, .int a0, .ref 0, .int 0, .ref 225])) (c3 := (22, [some (.ref 0), some (.int a0), some (.int a1), some (.ref 225), none], [.int 0])) rfl (am_site_v (y := 87) (k := 3) (ci := 0) rfl rfl (am_rcv_v rfl hx)) rfl (Nat.le_of_ble_eq_true rfl) rfl ⟨Nat.le_of_ble_eq_true rfl, Nat.le_of_ble_eq_true rfl⟩ rfl rfl rfl rfl rfl hc hf hl
theorem hb_above_1 {K : cx_K} (hK : Kok K) (hno : hx_no K) {a0 a1 : Int32} {h h1 : List va_E} {fs : List Value} {g : Nat} (hx : h[0]? = some (.inr (0, fs))) (hc : Ct K 87 [.ref 0, .int a0, .int a1] h (.inr (hx_E 0)) h1 g) : Hc K ⟨"PaperParcelsLaw", "above", "(LPaperParcels;II[J)I"⟩ method_6_code 5 [(0, 10, 13, 13), (0, 10, 17, 22)] [.ref 0, .int a0, .int a1, .ref 225] h 1 h1 g :=
  hx_bad (LI := hl_i_above) (LS := hl_s_above) hK hno rfl hl_i_above_ok hl_s_above_ok (Nat.le_of_ble_eq_true rfl) (n0 := 5) (c1 := (5, [some (.ref 0), some (.int a0), some (.int a1), some (.ref 225), none], [.int a1, .int a0, .ref 0, .int 0, .ref 225])) (c3 := (16, [none, none, none, none, some (.ref 0)], [.int 1])) rfl (am_site_v (y := 87) (k := 3) (ci := 0) rfl rfl (am_rcv_v rfl hx)) rfl (Nat.le_of_ble_eq_true rfl) (Nat.le_of_ble_eq_true rfl) ⟨Nat.le_of_ble_eq_true rfl, Nat.le_of_ble_eq_true rfl⟩ (rs := [((0, 10, 13, 13), hx_E 0), ((0, 10, 17, 22), hx_E 1)]) rfl (to := 13) ⟨Nat.le_of_ble_eq_true rfl, Nat.le_of_ble_eq_true rfl, by decide, hx_cl13, Or.inl ⟨rfl, hx_ca0, rfl⟩⟩ (rk := 1) rfl rfl rfl hc
theorem hb_above_2 {K : cx_K} (hK : Kok K) (hno : hx_no K) {a0 a1 : Int32} {h h1 : List va_E} {fs : List Value} {g : Nat} (hx : h[0]? = some (.inr (0, fs))) (hc : Ct K 87 [.ref 0, .int a0, .int a1] h (.inr (hx_E 1)) h1 g) : Hc K ⟨"PaperParcelsLaw", "above", "(LPaperParcels;II[J)I"⟩ method_6_code 5 [(0, 10, 13, 13), (0, 10, 17, 22)] [.ref 0, .int a0, .int a1, .ref 225] h 2 h1 g :=
  hx_bad (LI := hl_i_above) (LS := hl_s_above) hK hno rfl hl_i_above_ok hl_s_above_ok (Nat.le_of_ble_eq_true rfl) (n0 := 5) (c1 := (5, [some (.ref 0), some (.int a0), some (.int a1), some (.ref 225), none], [.int a1, .int a0, .ref 0, .int 0, .ref 225])) (c3 := (20, [none, none, none, none, some (.ref 0)], [.int 2])) rfl (am_site_v (y := 87) (k := 3) (ci := 0) rfl rfl (am_rcv_v rfl hx)) rfl (Nat.le_of_ble_eq_true rfl) (Nat.le_of_ble_eq_true rfl) ⟨Nat.le_of_ble_eq_true rfl, Nat.le_of_ble_eq_true rfl⟩ (rs := [((0, 10, 13, 13), hx_E 0), ((0, 10, 17, 22), hx_E 1)]) rfl (to := 17) ⟨Nat.le_of_ble_eq_true rfl, Nat.le_of_ble_eq_true rfl, by decide, hx_cl13, Or.inr ⟨hx_pr10, ⟨Nat.le_of_ble_eq_true rfl, Nat.le_of_ble_eq_true rfl, by decide, hx_cl22, Or.inl ⟨rfl, hx_ca1, rfl⟩⟩⟩⟩ (rk := 2) rfl rfl rfl hc
def hl_i_look : List (Nat × Instr × Nat) := [(0, .aload 4, 2), (2, .iconst 0, 1), (3, .aload_n 0, 1), (4, .iload_n 1, 1), (5, .iload_n 2, 1), (6, .iload_n 3, 1), (7, .invokevirtual 27, 3), (10, .i2l, 1), (11, .lastore, 1), (12, .goto 11, 3), (15, .astore 5, 2), (17, .iconst 1, 1), (18, .ireturn, 1), (19, .astore 5, 2), (21, .iconst 2, 1), (22, .ireturn, 1), (23, .iconst 0, 1), (24, .ireturn, 1)]
theorem hl_i_look_ok : am_ic method_7_code hl_i_look = true := by decide +kernel
def hl_s_look : List nm_S := [(27, 88, false, 913)]
theorem hl_s_look_ok : hl_s_look.all (nm_schk nd_ct nd_ml R_law) = true := by decide +kernel
theorem hg_look {K : cx_K} (hK : Kok K) {a0 a1 a2 : Int32} {h h1 : List va_E} {fs : List Value} {g : Nat} {r : Int32} {f : Nat → Int64} (hx : h[0]? = some (.inr (0, fs))) (hc : Ct K 88 [.ref 0, .int a0, .int a1, .int a2] h (.inl (some (.int r))) h1 g) (hf : h1[225]? = some (.inl (2, 1, .inr (.inl f)))) (hl : h1.length ≤ 1000000) : Hc K ⟨"PaperParcelsLaw", "look", "(LPaperParcels;III[J)I"⟩ method_7_code 6 [(0, 12, 15, 13), (0, 12, 19, 22)] [.ref 0, .int a0, .int a1, .int a2, .ref 225] h 0 (h1.set 225 (.inl (2, 1, .inr (.inl (vp_updL f 0 r.toInt64))))) g :=
  hx_good (LI := hl_i_look) (LS := hl_s_look) hK rfl hl_i_look_ok hl_s_look_ok (Nat.le_of_ble_eq_true rfl) (n0 := 6) (c1 := (7, [some (.ref 0), some (.int a0), some (.int a1), some (.int a2), some (.ref 225), none], [.int a2, .int a1, .int a0, .ref 0, .int 0, .ref 225])) (c3 := (24, [some (.ref 0), some (.int a0), some (.int a1), some (.int a2), some (.ref 225), none], [.int 0])) rfl (am_site_v (y := 88) (k := 4) (ci := 0) rfl rfl (am_rcv_v rfl hx)) rfl (Nat.le_of_ble_eq_true rfl) rfl ⟨Nat.le_of_ble_eq_true rfl, Nat.le_of_ble_eq_true rfl⟩ rfl rfl rfl rfl rfl hc hf hl
theorem hb_look_1 {K : cx_K} (hK : Kok K) (hno : hx_no K) {a0 a1 a2 : Int32} {h h1 : List va_E} {fs : List Value} {g : Nat} (hx : h[0]? = some (.inr (0, fs))) (hc : Ct K 88 [.ref 0, .int a0, .int a1, .int a2] h (.inr (hx_E 0)) h1 g) : Hc K ⟨"PaperParcelsLaw", "look", "(LPaperParcels;III[J)I"⟩ method_7_code 6 [(0, 12, 15, 13), (0, 12, 19, 22)] [.ref 0, .int a0, .int a1, .int a2, .ref 225] h 1 h1 g :=
  hx_bad (LI := hl_i_look) (LS := hl_s_look) hK hno rfl hl_i_look_ok hl_s_look_ok (Nat.le_of_ble_eq_true rfl) (n0 := 6) (c1 := (7, [some (.ref 0), some (.int a0), some (.int a1), some (.int a2), some (.ref 225), none], [.int a2, .int a1, .int a0, .ref 0, .int 0, .ref 225])) (c3 := (18, [none, none, none, none, none, some (.ref 0)], [.int 1])) rfl (am_site_v (y := 88) (k := 4) (ci := 0) rfl rfl (am_rcv_v rfl hx)) rfl (Nat.le_of_ble_eq_true rfl) (Nat.le_of_ble_eq_true rfl) ⟨Nat.le_of_ble_eq_true rfl, Nat.le_of_ble_eq_true rfl⟩ (rs := [((0, 12, 15, 13), hx_E 0), ((0, 12, 19, 22), hx_E 1)]) rfl (to := 15) ⟨Nat.le_of_ble_eq_true rfl, Nat.le_of_ble_eq_true rfl, by decide, hx_cl13, Or.inl ⟨rfl, hx_ca0, rfl⟩⟩ (rk := 1) rfl rfl rfl hc
theorem hb_look_2 {K : cx_K} (hK : Kok K) (hno : hx_no K) {a0 a1 a2 : Int32} {h h1 : List va_E} {fs : List Value} {g : Nat} (hx : h[0]? = some (.inr (0, fs))) (hc : Ct K 88 [.ref 0, .int a0, .int a1, .int a2] h (.inr (hx_E 1)) h1 g) : Hc K ⟨"PaperParcelsLaw", "look", "(LPaperParcels;III[J)I"⟩ method_7_code 6 [(0, 12, 15, 13), (0, 12, 19, 22)] [.ref 0, .int a0, .int a1, .int a2, .ref 225] h 2 h1 g :=
  hx_bad (LI := hl_i_look) (LS := hl_s_look) hK hno rfl hl_i_look_ok hl_s_look_ok (Nat.le_of_ble_eq_true rfl) (n0 := 6) (c1 := (7, [some (.ref 0), some (.int a0), some (.int a1), some (.int a2), some (.ref 225), none], [.int a2, .int a1, .int a0, .ref 0, .int 0, .ref 225])) (c3 := (22, [none, none, none, none, none, some (.ref 0)], [.int 2])) rfl (am_site_v (y := 88) (k := 4) (ci := 0) rfl rfl (am_rcv_v rfl hx)) rfl (Nat.le_of_ble_eq_true rfl) (Nat.le_of_ble_eq_true rfl) ⟨Nat.le_of_ble_eq_true rfl, Nat.le_of_ble_eq_true rfl⟩ (rs := [((0, 12, 15, 13), hx_E 0), ((0, 12, 19, 22), hx_E 1)]) rfl (to := 19) ⟨Nat.le_of_ble_eq_true rfl, Nat.le_of_ble_eq_true rfl, by decide, hx_cl13, Or.inr ⟨hx_pr10, ⟨Nat.le_of_ble_eq_true rfl, Nat.le_of_ble_eq_true rfl, by decide, hx_cl22, Or.inl ⟨rfl, hx_ca1, rfl⟩⟩⟩⟩ (rk := 2) rfl rfl rfl hc
def hl_i_letters : List (Nat × Instr × Nat) := [(0, .aload_n 3, 1), (1, .iconst 0, 1), (2, .aload_n 0, 1), (3, .iload_n 1, 1), (4, .iload_n 2, 1), (5, .invokevirtual 31, 3), (8, .i2l, 1), (9, .lastore, 1), (10, .goto 11, 3), (13, .astore 4, 2), (15, .iconst 1, 1), (16, .ireturn, 1), (17, .astore 4, 2), (19, .iconst 2, 1), (20, .ireturn, 1), (21, .iconst 0, 1), (22, .ireturn, 1)]
theorem hl_i_letters_ok : am_ic method_8_code hl_i_letters = true := by decide +kernel
def hl_s_letters : List nm_S := [(31, 89, false, 921)]
theorem hl_s_letters_ok : hl_s_letters.all (nm_schk nd_ct nd_ml R_law) = true := by decide +kernel
theorem hg_letters {K : cx_K} (hK : Kok K) {a0 a1 : Int32} {h h1 : List va_E} {fs : List Value} {g : Nat} {r : Int32} {f : Nat → Int64} (hx : h[0]? = some (.inr (0, fs))) (hc : Ct K 89 [.ref 0, .int a0, .int a1] h (.inl (some (.int r))) h1 g) (hf : h1[225]? = some (.inl (2, 1, .inr (.inl f)))) (hl : h1.length ≤ 1000000) : Hc K ⟨"PaperParcelsLaw", "letters", "(LPaperParcels;II[J)I"⟩ method_8_code 5 [(0, 10, 13, 13), (0, 10, 17, 22)] [.ref 0, .int a0, .int a1, .ref 225] h 0 (h1.set 225 (.inl (2, 1, .inr (.inl (vp_updL f 0 r.toInt64))))) g :=
  hx_good (LI := hl_i_letters) (LS := hl_s_letters) hK rfl hl_i_letters_ok hl_s_letters_ok (Nat.le_of_ble_eq_true rfl) (n0 := 5) (c1 := (5, [some (.ref 0), some (.int a0), some (.int a1), some (.ref 225), none], [.int a1, .int a0, .ref 0, .int 0, .ref 225])) (c3 := (22, [some (.ref 0), some (.int a0), some (.int a1), some (.ref 225), none], [.int 0])) rfl (am_site_v (y := 89) (k := 3) (ci := 0) rfl rfl (am_rcv_v rfl hx)) rfl (Nat.le_of_ble_eq_true rfl) rfl ⟨Nat.le_of_ble_eq_true rfl, Nat.le_of_ble_eq_true rfl⟩ rfl rfl rfl rfl rfl hc hf hl
theorem hb_letters_1 {K : cx_K} (hK : Kok K) (hno : hx_no K) {a0 a1 : Int32} {h h1 : List va_E} {fs : List Value} {g : Nat} (hx : h[0]? = some (.inr (0, fs))) (hc : Ct K 89 [.ref 0, .int a0, .int a1] h (.inr (hx_E 0)) h1 g) : Hc K ⟨"PaperParcelsLaw", "letters", "(LPaperParcels;II[J)I"⟩ method_8_code 5 [(0, 10, 13, 13), (0, 10, 17, 22)] [.ref 0, .int a0, .int a1, .ref 225] h 1 h1 g :=
  hx_bad (LI := hl_i_letters) (LS := hl_s_letters) hK hno rfl hl_i_letters_ok hl_s_letters_ok (Nat.le_of_ble_eq_true rfl) (n0 := 5) (c1 := (5, [some (.ref 0), some (.int a0), some (.int a1), some (.ref 225), none], [.int a1, .int a0, .ref 0, .int 0, .ref 225])) (c3 := (16, [none, none, none, none, some (.ref 0)], [.int 1])) rfl (am_site_v (y := 89) (k := 3) (ci := 0) rfl rfl (am_rcv_v rfl hx)) rfl (Nat.le_of_ble_eq_true rfl) (Nat.le_of_ble_eq_true rfl) ⟨Nat.le_of_ble_eq_true rfl, Nat.le_of_ble_eq_true rfl⟩ (rs := [((0, 10, 13, 13), hx_E 0), ((0, 10, 17, 22), hx_E 1)]) rfl (to := 13) ⟨Nat.le_of_ble_eq_true rfl, Nat.le_of_ble_eq_true rfl, by decide, hx_cl13, Or.inl ⟨rfl, hx_ca0, rfl⟩⟩ (rk := 1) rfl rfl rfl hc
theorem hb_letters_2 {K : cx_K} (hK : Kok K) (hno : hx_no K) {a0 a1 : Int32} {h h1 : List va_E} {fs : List Value} {g : Nat} (hx : h[0]? = some (.inr (0, fs))) (hc : Ct K 89 [.ref 0, .int a0, .int a1] h (.inr (hx_E 1)) h1 g) : Hc K ⟨"PaperParcelsLaw", "letters", "(LPaperParcels;II[J)I"⟩ method_8_code 5 [(0, 10, 13, 13), (0, 10, 17, 22)] [.ref 0, .int a0, .int a1, .ref 225] h 2 h1 g :=
  hx_bad (LI := hl_i_letters) (LS := hl_s_letters) hK hno rfl hl_i_letters_ok hl_s_letters_ok (Nat.le_of_ble_eq_true rfl) (n0 := 5) (c1 := (5, [some (.ref 0), some (.int a0), some (.int a1), some (.ref 225), none], [.int a1, .int a0, .ref 0, .int 0, .ref 225])) (c3 := (20, [none, none, none, none, some (.ref 0)], [.int 2])) rfl (am_site_v (y := 89) (k := 3) (ci := 0) rfl rfl (am_rcv_v rfl hx)) rfl (Nat.le_of_ble_eq_true rfl) (Nat.le_of_ble_eq_true rfl) ⟨Nat.le_of_ble_eq_true rfl, Nat.le_of_ble_eq_true rfl⟩ (rs := [((0, 10, 13, 13), hx_E 0), ((0, 10, 17, 22), hx_E 1)]) rfl (to := 17) ⟨Nat.le_of_ble_eq_true rfl, Nat.le_of_ble_eq_true rfl, by decide, hx_cl13, Or.inr ⟨hx_pr10, ⟨Nat.le_of_ble_eq_true rfl, Nat.le_of_ble_eq_true rfl, by decide, hx_cl22, Or.inl ⟨rfl, hx_ca1, rfl⟩⟩⟩⟩ (rk := 2) rfl rfl rfl hc
def hl_i_letter : List (Nat × Instr × Nat) := [(0, .aload 4, 2), (2, .iconst 0, 1), (3, .aload_n 0, 1), (4, .iload_n 1, 1), (5, .iload_n 2, 1), (6, .iload_n 3, 1), (7, .invokevirtual 34, 3), (10, .i2l, 1), (11, .lastore, 1), (12, .goto 11, 3), (15, .astore 5, 2), (17, .iconst 1, 1), (18, .ireturn, 1), (19, .astore 5, 2), (21, .iconst 2, 1), (22, .ireturn, 1), (23, .iconst 0, 1), (24, .ireturn, 1)]
theorem hl_i_letter_ok : am_ic method_9_code hl_i_letter = true := by decide +kernel
def hl_s_letter : List nm_S := [(34, 90, false, 928)]
theorem hl_s_letter_ok : hl_s_letter.all (nm_schk nd_ct nd_ml R_law) = true := by decide +kernel
theorem hg_letter {K : cx_K} (hK : Kok K) {a0 a1 a2 : Int32} {h h1 : List va_E} {fs : List Value} {g : Nat} {r : Int32} {f : Nat → Int64} (hx : h[0]? = some (.inr (0, fs))) (hc : Ct K 90 [.ref 0, .int a0, .int a1, .int a2] h (.inl (some (.int r))) h1 g) (hf : h1[225]? = some (.inl (2, 1, .inr (.inl f)))) (hl : h1.length ≤ 1000000) : Hc K ⟨"PaperParcelsLaw", "letter", "(LPaperParcels;III[J)I"⟩ method_9_code 6 [(0, 12, 15, 13), (0, 12, 19, 22)] [.ref 0, .int a0, .int a1, .int a2, .ref 225] h 0 (h1.set 225 (.inl (2, 1, .inr (.inl (vp_updL f 0 r.toInt64))))) g :=
  hx_good (LI := hl_i_letter) (LS := hl_s_letter) hK rfl hl_i_letter_ok hl_s_letter_ok (Nat.le_of_ble_eq_true rfl) (n0 := 6) (c1 := (7, [some (.ref 0), some (.int a0), some (.int a1), some (.int a2), some (.ref 225), none], [.int a2, .int a1, .int a0, .ref 0, .int 0, .ref 225])) (c3 := (24, [some (.ref 0), some (.int a0), some (.int a1), some (.int a2), some (.ref 225), none], [.int 0])) rfl (am_site_v (y := 90) (k := 4) (ci := 0) rfl rfl (am_rcv_v rfl hx)) rfl (Nat.le_of_ble_eq_true rfl) rfl ⟨Nat.le_of_ble_eq_true rfl, Nat.le_of_ble_eq_true rfl⟩ rfl rfl rfl rfl rfl hc hf hl
theorem hb_letter_1 {K : cx_K} (hK : Kok K) (hno : hx_no K) {a0 a1 a2 : Int32} {h h1 : List va_E} {fs : List Value} {g : Nat} (hx : h[0]? = some (.inr (0, fs))) (hc : Ct K 90 [.ref 0, .int a0, .int a1, .int a2] h (.inr (hx_E 0)) h1 g) : Hc K ⟨"PaperParcelsLaw", "letter", "(LPaperParcels;III[J)I"⟩ method_9_code 6 [(0, 12, 15, 13), (0, 12, 19, 22)] [.ref 0, .int a0, .int a1, .int a2, .ref 225] h 1 h1 g :=
  hx_bad (LI := hl_i_letter) (LS := hl_s_letter) hK hno rfl hl_i_letter_ok hl_s_letter_ok (Nat.le_of_ble_eq_true rfl) (n0 := 6) (c1 := (7, [some (.ref 0), some (.int a0), some (.int a1), some (.int a2), some (.ref 225), none], [.int a2, .int a1, .int a0, .ref 0, .int 0, .ref 225])) (c3 := (18, [none, none, none, none, none, some (.ref 0)], [.int 1])) rfl (am_site_v (y := 90) (k := 4) (ci := 0) rfl rfl (am_rcv_v rfl hx)) rfl (Nat.le_of_ble_eq_true rfl) (Nat.le_of_ble_eq_true rfl) ⟨Nat.le_of_ble_eq_true rfl, Nat.le_of_ble_eq_true rfl⟩ (rs := [((0, 12, 15, 13), hx_E 0), ((0, 12, 19, 22), hx_E 1)]) rfl (to := 15) ⟨Nat.le_of_ble_eq_true rfl, Nat.le_of_ble_eq_true rfl, by decide, hx_cl13, Or.inl ⟨rfl, hx_ca0, rfl⟩⟩ (rk := 1) rfl rfl rfl hc
theorem hb_letter_2 {K : cx_K} (hK : Kok K) (hno : hx_no K) {a0 a1 a2 : Int32} {h h1 : List va_E} {fs : List Value} {g : Nat} (hx : h[0]? = some (.inr (0, fs))) (hc : Ct K 90 [.ref 0, .int a0, .int a1, .int a2] h (.inr (hx_E 1)) h1 g) : Hc K ⟨"PaperParcelsLaw", "letter", "(LPaperParcels;III[J)I"⟩ method_9_code 6 [(0, 12, 15, 13), (0, 12, 19, 22)] [.ref 0, .int a0, .int a1, .int a2, .ref 225] h 2 h1 g :=
  hx_bad (LI := hl_i_letter) (LS := hl_s_letter) hK hno rfl hl_i_letter_ok hl_s_letter_ok (Nat.le_of_ble_eq_true rfl) (n0 := 6) (c1 := (7, [some (.ref 0), some (.int a0), some (.int a1), some (.int a2), some (.ref 225), none], [.int a2, .int a1, .int a0, .ref 0, .int 0, .ref 225])) (c3 := (22, [none, none, none, none, none, some (.ref 0)], [.int 2])) rfl (am_site_v (y := 90) (k := 4) (ci := 0) rfl rfl (am_rcv_v rfl hx)) rfl (Nat.le_of_ble_eq_true rfl) (Nat.le_of_ble_eq_true rfl) ⟨Nat.le_of_ble_eq_true rfl, Nat.le_of_ble_eq_true rfl⟩ (rs := [((0, 12, 15, 13), hx_E 0), ((0, 12, 19, 22), hx_E 1)]) rfl (to := 19) ⟨Nat.le_of_ble_eq_true rfl, Nat.le_of_ble_eq_true rfl, by decide, hx_cl13, Or.inr ⟨hx_pr10, ⟨Nat.le_of_ble_eq_true rfl, Nat.le_of_ble_eq_true rfl, by decide, hx_cl22, Or.inl ⟨rfl, hx_ca1, rfl⟩⟩⟩⟩ (rk := 2) rfl rfl rfl hc
def hl_i_compare : List (Nat × Instr × Nat) := [(0, .aload_n 1, 1), (1, .iconst 0, 1), (2, .aload_n 0, 1), (3, .invokevirtual 37, 3), (6, .i2l, 1), (7, .lastore, 1), (8, .goto 6, 3), (11, .astore_n 2, 1), (12, .iconst 1, 1), (13, .ireturn, 1), (14, .iconst 0, 1), (15, .ireturn, 1)]
theorem hl_i_compare_ok : am_ic method_10_code hl_i_compare = true := by decide +kernel
def hl_s_compare : List nm_S := [(37, 92, false, 940)]
theorem hl_s_compare_ok : hl_s_compare.all (nm_schk nd_ct nd_ml R_law) = true := by decide +kernel
theorem hg_compare {K : cx_K} (hK : Kok K) {h h1 : List va_E} {fs : List Value} {g : Nat} {r : Int32} {f : Nat → Int64} (hx : h[0]? = some (.inr (0, fs))) (hc : Ct K 92 [.ref 0] h (.inl (some (.int r))) h1 g) (hf : h1[225]? = some (.inl (2, 1, .inr (.inl f)))) (hl : h1.length ≤ 1000000) : Hc K ⟨"PaperParcelsLaw", "compare", "(LPaperParcels;[J)I"⟩ method_10_code 3 [(0, 8, 11, 41)] [.ref 0, .ref 225] h 0 (h1.set 225 (.inl (2, 1, .inr (.inl (vp_updL f 0 r.toInt64))))) g :=
  hx_good (LI := hl_i_compare) (LS := hl_s_compare) hK rfl hl_i_compare_ok hl_s_compare_ok (Nat.le_of_ble_eq_true rfl) (n0 := 3) (c1 := (3, [some (.ref 0), some (.ref 225), none], [.ref 0, .int 0, .ref 225])) (c3 := (15, [some (.ref 0), some (.ref 225), none], [.int 0])) rfl (am_site_v (y := 92) (k := 1) (ci := 0) rfl rfl (am_rcv_v rfl hx)) rfl (Nat.le_of_ble_eq_true rfl) rfl ⟨Nat.le_of_ble_eq_true rfl, Nat.le_of_ble_eq_true rfl⟩ rfl rfl rfl rfl rfl hc hf hl
theorem hb_compare_1 {K : cx_K} (hK : Kok K) (hno : hx_no K) {h h1 : List va_E} {fs : List Value} {g : Nat} (hx : h[0]? = some (.inr (0, fs))) (hc : Ct K 92 [.ref 0] h (.inr (hx_E 2)) h1 g) : Hc K ⟨"PaperParcelsLaw", "compare", "(LPaperParcels;[J)I"⟩ method_10_code 3 [(0, 8, 11, 41)] [.ref 0, .ref 225] h 1 h1 g :=
  hx_bad (LI := hl_i_compare) (LS := hl_s_compare) hK hno rfl hl_i_compare_ok hl_s_compare_ok (Nat.le_of_ble_eq_true rfl) (n0 := 3) (c1 := (3, [some (.ref 0), some (.ref 225), none], [.ref 0, .int 0, .ref 225])) (c3 := (13, [none, none, some (.ref 0)], [.int 1])) rfl (am_site_v (y := 92) (k := 1) (ci := 0) rfl rfl (am_rcv_v rfl hx)) rfl (Nat.le_of_ble_eq_true rfl) (Nat.le_of_ble_eq_true rfl) ⟨Nat.le_of_ble_eq_true rfl, Nat.le_of_ble_eq_true rfl⟩ (rs := [((0, 8, 11, 41), hx_E 2)]) rfl (to := 11) ⟨Nat.le_of_ble_eq_true rfl, Nat.le_of_ble_eq_true rfl, by decide, hx_cl41, Or.inl ⟨rfl, hx_ca2, rfl⟩⟩ (rk := 1) rfl rfl rfl hc
def hl_i_step : List (Nat × Instr × Nat) := [(0, .aload_n 3, 1), (1, .iconst 0, 1), (2, .aload_n 0, 1), (3, .iload_n 1, 1), (4, .iload_n 2, 1), (5, .invokevirtual 43, 3), (8, .i2l, 1), (9, .lastore, 1), (10, .goto 7, 3), (13, .astore 4, 2), (15, .iconst 1, 1), (16, .ireturn, 1), (17, .iconst 0, 1), (18, .ireturn, 1)]
theorem hl_i_step_ok : am_ic method_11_code hl_i_step = true := by decide +kernel
def hl_s_step : List nm_S := [(43, 107, false, 1017)]
theorem hl_s_step_ok : hl_s_step.all (nm_schk nd_ct nd_ml R_law) = true := by decide +kernel
theorem hg_step {K : cx_K} (hK : Kok K) {a0 a1 : Int32} {h h1 : List va_E} {fs : List Value} {g : Nat} {r : Int32} {f : Nat → Int64} (hx : h[0]? = some (.inr (0, fs))) (hc : Ct K 107 [.ref 0, .int a0, .int a1] h (.inl (some (.int r))) h1 g) (hf : h1[225]? = some (.inl (2, 1, .inr (.inl f)))) (hl : h1.length ≤ 1000000) : Hc K ⟨"PaperParcelsLaw", "step", "(LPaperParcels;IZ[J)I"⟩ method_11_code 5 [(0, 10, 13, 22)] [.ref 0, .int a0, .int a1, .ref 225] h 0 (h1.set 225 (.inl (2, 1, .inr (.inl (vp_updL f 0 r.toInt64))))) g :=
  hx_good (LI := hl_i_step) (LS := hl_s_step) hK rfl hl_i_step_ok hl_s_step_ok (Nat.le_of_ble_eq_true rfl) (n0 := 5) (c1 := (5, [some (.ref 0), some (.int a0), some (.int a1), some (.ref 225), none], [.int a1, .int a0, .ref 0, .int 0, .ref 225])) (c3 := (18, [some (.ref 0), some (.int a0), some (.int a1), some (.ref 225), none], [.int 0])) rfl (am_site_v (y := 107) (k := 3) (ci := 0) rfl rfl (am_rcv_v rfl hx)) rfl (Nat.le_of_ble_eq_true rfl) rfl ⟨Nat.le_of_ble_eq_true rfl, Nat.le_of_ble_eq_true rfl⟩ rfl rfl rfl rfl rfl hc hf hl
theorem hb_step_1 {K : cx_K} (hK : Kok K) (hno : hx_no K) {a0 a1 : Int32} {h h1 : List va_E} {fs : List Value} {g : Nat} (hx : h[0]? = some (.inr (0, fs))) (hc : Ct K 107 [.ref 0, .int a0, .int a1] h (.inr (hx_E 1)) h1 g) : Hc K ⟨"PaperParcelsLaw", "step", "(LPaperParcels;IZ[J)I"⟩ method_11_code 5 [(0, 10, 13, 22)] [.ref 0, .int a0, .int a1, .ref 225] h 1 h1 g :=
  hx_bad (LI := hl_i_step) (LS := hl_s_step) hK hno rfl hl_i_step_ok hl_s_step_ok (Nat.le_of_ble_eq_true rfl) (n0 := 5) (c1 := (5, [some (.ref 0), some (.int a0), some (.int a1), some (.ref 225), none], [.int a1, .int a0, .ref 0, .int 0, .ref 225])) (c3 := (16, [none, none, none, none, some (.ref 0)], [.int 1])) rfl (am_site_v (y := 107) (k := 3) (ci := 0) rfl rfl (am_rcv_v rfl hx)) rfl (Nat.le_of_ble_eq_true rfl) (Nat.le_of_ble_eq_true rfl) ⟨Nat.le_of_ble_eq_true rfl, Nat.le_of_ble_eq_true rfl⟩ (rs := [((0, 10, 13, 22), hx_E 1)]) rfl (to := 13) ⟨Nat.le_of_ble_eq_true rfl, Nat.le_of_ble_eq_true rfl, by decide, hx_cl22, Or.inl ⟨rfl, hx_ca1, rfl⟩⟩ (rk := 1) rfl rfl rfl hc
def hl_i_apply : List (Nat × Instr × Nat) := [(0, .aload_n 2, 1), (1, .iconst 0, 1), (2, .aload_n 0, 1), (3, .iload_n 1, 1), (4, .invokevirtual 47, 3), (7, .i2l, 1), (8, .lastore, 1), (9, .goto 9, 3), (12, .astore_n 3, 1), (13, .iconst 1, 1), (14, .ireturn, 1), (15, .astore_n 3, 1), (16, .iconst 2, 1), (17, .ireturn, 1), (18, .iconst 0, 1), (19, .ireturn, 1)]
theorem hl_i_apply_ok : am_ic method_12_code hl_i_apply = true := by decide +kernel
def hl_s_apply : List nm_S := [(47, 108, false, 1024)]
theorem hl_s_apply_ok : hl_s_apply.all (nm_schk nd_ct nd_ml R_law) = true := by decide +kernel
theorem hg_apply {K : cx_K} (hK : Kok K) {a0 : Int32} {h h1 : List va_E} {fs : List Value} {g : Nat} {r : Int32} {f : Nat → Int64} (hx : h[0]? = some (.inr (0, fs))) (hc : Ct K 108 [.ref 0, .int a0] h (.inl (some (.int r))) h1 g) (hf : h1[225]? = some (.inl (2, 1, .inr (.inl f)))) (hl : h1.length ≤ 1000000) : Hc K ⟨"PaperParcelsLaw", "apply", "(LPaperParcels;I[J)I"⟩ method_12_code 4 [(0, 9, 12, 41), (0, 9, 15, 13)] [.ref 0, .int a0, .ref 225] h 0 (h1.set 225 (.inl (2, 1, .inr (.inl (vp_updL f 0 r.toInt64))))) g :=
  hx_good (LI := hl_i_apply) (LS := hl_s_apply) hK rfl hl_i_apply_ok hl_s_apply_ok (Nat.le_of_ble_eq_true rfl) (n0 := 4) (c1 := (4, [some (.ref 0), some (.int a0), some (.ref 225), none], [.int a0, .ref 0, .int 0, .ref 225])) (c3 := (19, [some (.ref 0), some (.int a0), some (.ref 225), none], [.int 0])) rfl (am_site_v (y := 108) (k := 2) (ci := 0) rfl rfl (am_rcv_v rfl hx)) rfl (Nat.le_of_ble_eq_true rfl) rfl ⟨Nat.le_of_ble_eq_true rfl, Nat.le_of_ble_eq_true rfl⟩ rfl rfl rfl rfl rfl hc hf hl
theorem hb_apply_1 {K : cx_K} (hK : Kok K) (hno : hx_no K) {a0 : Int32} {h h1 : List va_E} {fs : List Value} {g : Nat} (hx : h[0]? = some (.inr (0, fs))) (hc : Ct K 108 [.ref 0, .int a0] h (.inr (hx_E 2)) h1 g) : Hc K ⟨"PaperParcelsLaw", "apply", "(LPaperParcels;I[J)I"⟩ method_12_code 4 [(0, 9, 12, 41), (0, 9, 15, 13)] [.ref 0, .int a0, .ref 225] h 1 h1 g :=
  hx_bad (LI := hl_i_apply) (LS := hl_s_apply) hK hno rfl hl_i_apply_ok hl_s_apply_ok (Nat.le_of_ble_eq_true rfl) (n0 := 4) (c1 := (4, [some (.ref 0), some (.int a0), some (.ref 225), none], [.int a0, .ref 0, .int 0, .ref 225])) (c3 := (14, [none, none, none, some (.ref 0)], [.int 1])) rfl (am_site_v (y := 108) (k := 2) (ci := 0) rfl rfl (am_rcv_v rfl hx)) rfl (Nat.le_of_ble_eq_true rfl) (Nat.le_of_ble_eq_true rfl) ⟨Nat.le_of_ble_eq_true rfl, Nat.le_of_ble_eq_true rfl⟩ (rs := [((0, 9, 12, 41), hx_E 2), ((0, 9, 15, 13), hx_E 0)]) rfl (to := 12) ⟨Nat.le_of_ble_eq_true rfl, Nat.le_of_ble_eq_true rfl, by decide, hx_cl41, Or.inl ⟨rfl, hx_ca2, rfl⟩⟩ (rk := 1) rfl rfl rfl hc
theorem hb_apply_2 {K : cx_K} (hK : Kok K) (hno : hx_no K) {a0 : Int32} {h h1 : List va_E} {fs : List Value} {g : Nat} (hx : h[0]? = some (.inr (0, fs))) (hc : Ct K 108 [.ref 0, .int a0] h (.inr (hx_E 0)) h1 g) : Hc K ⟨"PaperParcelsLaw", "apply", "(LPaperParcels;I[J)I"⟩ method_12_code 4 [(0, 9, 12, 41), (0, 9, 15, 13)] [.ref 0, .int a0, .ref 225] h 2 h1 g :=
  hx_bad (LI := hl_i_apply) (LS := hl_s_apply) hK hno rfl hl_i_apply_ok hl_s_apply_ok (Nat.le_of_ble_eq_true rfl) (n0 := 4) (c1 := (4, [some (.ref 0), some (.int a0), some (.ref 225), none], [.int a0, .ref 0, .int 0, .ref 225])) (c3 := (17, [none, none, none, some (.ref 0)], [.int 2])) rfl (am_site_v (y := 108) (k := 2) (ci := 0) rfl rfl (am_rcv_v rfl hx)) rfl (Nat.le_of_ble_eq_true rfl) (Nat.le_of_ble_eq_true rfl) ⟨Nat.le_of_ble_eq_true rfl, Nat.le_of_ble_eq_true rfl⟩ (rs := [((0, 9, 12, 41), hx_E 2), ((0, 9, 15, 13), hx_E 0)]) rfl (to := 15) ⟨Nat.le_of_ble_eq_true rfl, Nat.le_of_ble_eq_true rfl, by decide, hx_cl41, Or.inr ⟨hx_pr02, ⟨Nat.le_of_ble_eq_true rfl, Nat.le_of_ble_eq_true rfl, by decide, hx_cl13, Or.inl ⟨rfl, hx_ca0, rfl⟩⟩⟩⟩ (rk := 2) rfl rfl rfl hc
def hl_i_emit : List (Nat × Instr × Nat) := [(0, .aload_n 3, 1), (1, .iconst 0, 1), (2, .aload_n 0, 1), (3, .iload_n 1, 1), (4, .iload_n 2, 1), (5, .invokevirtual 50, 3), (8, .i2l, 1), (9, .lastore, 1), (10, .goto 15, 3), (13, .astore 4, 2), (15, .iconst 1, 1), (16, .ireturn, 1), (17, .astore 4, 2), (19, .iconst 2, 1), (20, .ireturn, 1), (21, .astore 4, 2), (23, .iconst 3, 1), (24, .ireturn, 1), (25, .iconst 0, 1), (26, .ireturn, 1)]
theorem hl_i_emit_ok : am_ic method_13_code hl_i_emit = true := by decide +kernel
def hl_s_emit : List nm_S := [(50, 115, false, 1059)]
theorem hl_s_emit_ok : hl_s_emit.all (nm_schk nd_ct nd_ml R_law) = true := by decide +kernel
theorem hg_emit {K : cx_K} (hK : Kok K) {a0 a1 : Int32} {h h1 : List va_E} {fs : List Value} {g : Nat} {r : Int32} {f : Nat → Int64} (hx : h[0]? = some (.inr (0, fs))) (hc : Ct K 115 [.ref 0, .int a0, .int a1] h (.inl (some (.int r))) h1 g) (hf : h1[225]? = some (.inl (2, 1, .inr (.inl f)))) (hl : h1.length ≤ 1000000) : Hc K ⟨"PaperParcelsLaw", "emit", "(LPaperParcels;II[J)I"⟩ method_13_code 5 [(0, 10, 13, 13), (0, 10, 17, 41), (0, 10, 21, 53)] [.ref 0, .int a0, .int a1, .ref 225] h 0 (h1.set 225 (.inl (2, 1, .inr (.inl (vp_updL f 0 r.toInt64))))) g :=
  hx_good (LI := hl_i_emit) (LS := hl_s_emit) hK rfl hl_i_emit_ok hl_s_emit_ok (Nat.le_of_ble_eq_true rfl) (n0 := 5) (c1 := (5, [some (.ref 0), some (.int a0), some (.int a1), some (.ref 225), none], [.int a1, .int a0, .ref 0, .int 0, .ref 225])) (c3 := (26, [some (.ref 0), some (.int a0), some (.int a1), some (.ref 225), none], [.int 0])) rfl (am_site_v (y := 115) (k := 3) (ci := 0) rfl rfl (am_rcv_v rfl hx)) rfl (Nat.le_of_ble_eq_true rfl) rfl ⟨Nat.le_of_ble_eq_true rfl, Nat.le_of_ble_eq_true rfl⟩ rfl rfl rfl rfl rfl hc hf hl
theorem hb_emit_1 {K : cx_K} (hK : Kok K) (hno : hx_no K) {a0 a1 : Int32} {h h1 : List va_E} {fs : List Value} {g : Nat} (hx : h[0]? = some (.inr (0, fs))) (hc : Ct K 115 [.ref 0, .int a0, .int a1] h (.inr (hx_E 0)) h1 g) : Hc K ⟨"PaperParcelsLaw", "emit", "(LPaperParcels;II[J)I"⟩ method_13_code 5 [(0, 10, 13, 13), (0, 10, 17, 41), (0, 10, 21, 53)] [.ref 0, .int a0, .int a1, .ref 225] h 1 h1 g :=
  hx_bad (LI := hl_i_emit) (LS := hl_s_emit) hK hno rfl hl_i_emit_ok hl_s_emit_ok (Nat.le_of_ble_eq_true rfl) (n0 := 5) (c1 := (5, [some (.ref 0), some (.int a0), some (.int a1), some (.ref 225), none], [.int a1, .int a0, .ref 0, .int 0, .ref 225])) (c3 := (16, [none, none, none, none, some (.ref 0)], [.int 1])) rfl (am_site_v (y := 115) (k := 3) (ci := 0) rfl rfl (am_rcv_v rfl hx)) rfl (Nat.le_of_ble_eq_true rfl) (Nat.le_of_ble_eq_true rfl) ⟨Nat.le_of_ble_eq_true rfl, Nat.le_of_ble_eq_true rfl⟩ (rs := [((0, 10, 13, 13), hx_E 0), ((0, 10, 17, 41), hx_E 2), ((0, 10, 21, 53), hx_E 3)]) rfl (to := 13) ⟨Nat.le_of_ble_eq_true rfl, Nat.le_of_ble_eq_true rfl, by decide, hx_cl13, Or.inl ⟨rfl, hx_ca0, rfl⟩⟩ (rk := 1) rfl rfl rfl hc
theorem hb_emit_2 {K : cx_K} (hK : Kok K) (hno : hx_no K) {a0 a1 : Int32} {h h1 : List va_E} {fs : List Value} {g : Nat} (hx : h[0]? = some (.inr (0, fs))) (hc : Ct K 115 [.ref 0, .int a0, .int a1] h (.inr (hx_E 2)) h1 g) : Hc K ⟨"PaperParcelsLaw", "emit", "(LPaperParcels;II[J)I"⟩ method_13_code 5 [(0, 10, 13, 13), (0, 10, 17, 41), (0, 10, 21, 53)] [.ref 0, .int a0, .int a1, .ref 225] h 2 h1 g :=
  hx_bad (LI := hl_i_emit) (LS := hl_s_emit) hK hno rfl hl_i_emit_ok hl_s_emit_ok (Nat.le_of_ble_eq_true rfl) (n0 := 5) (c1 := (5, [some (.ref 0), some (.int a0), some (.int a1), some (.ref 225), none], [.int a1, .int a0, .ref 0, .int 0, .ref 225])) (c3 := (20, [none, none, none, none, some (.ref 0)], [.int 2])) rfl (am_site_v (y := 115) (k := 3) (ci := 0) rfl rfl (am_rcv_v rfl hx)) rfl (Nat.le_of_ble_eq_true rfl) (Nat.le_of_ble_eq_true rfl) ⟨Nat.le_of_ble_eq_true rfl, Nat.le_of_ble_eq_true rfl⟩ (rs := [((0, 10, 13, 13), hx_E 0), ((0, 10, 17, 41), hx_E 2), ((0, 10, 21, 53), hx_E 3)]) rfl (to := 17) ⟨Nat.le_of_ble_eq_true rfl, Nat.le_of_ble_eq_true rfl, by decide, hx_cl13, Or.inr ⟨hx_pr20, ⟨Nat.le_of_ble_eq_true rfl, Nat.le_of_ble_eq_true rfl, by decide, hx_cl41, Or.inl ⟨rfl, hx_ca2, rfl⟩⟩⟩⟩ (rk := 2) rfl rfl rfl hc
theorem hb_emit_3 {K : cx_K} (hK : Kok K) (hno : hx_no K) {a0 a1 : Int32} {h h1 : List va_E} {fs : List Value} {g : Nat} (hx : h[0]? = some (.inr (0, fs))) (hc : Ct K 115 [.ref 0, .int a0, .int a1] h (.inr (hx_E 3)) h1 g) : Hc K ⟨"PaperParcelsLaw", "emit", "(LPaperParcels;II[J)I"⟩ method_13_code 5 [(0, 10, 13, 13), (0, 10, 17, 41), (0, 10, 21, 53)] [.ref 0, .int a0, .int a1, .ref 225] h 3 h1 g :=
  hx_bad (LI := hl_i_emit) (LS := hl_s_emit) hK hno rfl hl_i_emit_ok hl_s_emit_ok (Nat.le_of_ble_eq_true rfl) (n0 := 5) (c1 := (5, [some (.ref 0), some (.int a0), some (.int a1), some (.ref 225), none], [.int a1, .int a0, .ref 0, .int 0, .ref 225])) (c3 := (24, [none, none, none, none, some (.ref 0)], [.int 3])) rfl (am_site_v (y := 115) (k := 3) (ci := 0) rfl rfl (am_rcv_v rfl hx)) rfl (Nat.le_of_ble_eq_true rfl) (Nat.le_of_ble_eq_true rfl) ⟨Nat.le_of_ble_eq_true rfl, Nat.le_of_ble_eq_true rfl⟩ (rs := [((0, 10, 13, 13), hx_E 0), ((0, 10, 17, 41), hx_E 2), ((0, 10, 21, 53), hx_E 3)]) rfl (to := 21) ⟨Nat.le_of_ble_eq_true rfl, Nat.le_of_ble_eq_true rfl, by decide, hx_cl13, Or.inr ⟨hx_pr30, ⟨Nat.le_of_ble_eq_true rfl, Nat.le_of_ble_eq_true rfl, by decide, hx_cl41, Or.inr ⟨hx_pr32, ⟨Nat.le_of_ble_eq_true rfl, Nat.le_of_ble_eq_true rfl, by decide, hx_cl53, Or.inl ⟨rfl, hx_ca3, rfl⟩⟩⟩⟩⟩⟩ (rk := 3) rfl rfl rfl hc
end
section
/-! What the law's blocks ask of class and model. -/
/-- at place 0 the class's object; at 179 the model's; at 225 the place for answers, holding x -/
def lo_c (h : List va_E) : Prop := ∃ fs, h[0]? = some (.inr (0, fs))
def lo_m (h : List va_E) : Prop := ∃ fs, h[179]? = some (.inr (11, fs))
def lo_o (h : List va_E) (x : Int64) : Prop := ∃ f, h[225]? = some (.inl (2, 1, .inr (.inl f))) ∧ f 0 = x
/-- a method of the class and one of the model answer alike -/
def op2 (K : cx_K) (yc ym : Nat) (As : List Value) (h : List va_E) (P : List va_E → Prop) : Prop :=
  lo_c h ∧ ∃ r h1 h2, Ct K yc (.ref 0 :: As) h (.inl (some (.int r))) h1 0 ∧ lo_m h1 ∧ Ct K ym (.ref 179 :: As) h1 (.inl (some (.int r))) h2 0 ∧ P h2
/-- a helper's number is what the model says it throws; where that is none, the answers are alike -/
def opH (K : cx_K) (y : MethodName) (bytes : ByteArray) (maxL : Nat) (hh : List (Nat × Nat × Nat × Nat)) (ym : Nat) (As : List Value) (h : List va_E) (P : List va_E → Prop) : Prop :=
  ∃ k b h1 h2 h3 g1, g1 ≤ 1 ∧ Hc K y bytes maxL hh (.ref 0 :: As ++ [.ref 225]) h k h1 g1 ∧ lo_m h1 ∧ Ct K ym (.ref 179 :: As) h1 (.inl (some (.int b))) h2 0 ∧ lo_m h2 ∧ Ct K 147 [.ref 179] h2 (.inl (some (.int k))) h3 0 ∧ (k = 0 → lo_o h3 b.toInt64) ∧ P h3
theorem am_n_lald {ins : Nat → Option (Instr × Nat)} {fld : Nat → Option (Nat × Nat × Nat)} {cst : Nat → Option Value} {pc k n : Nat} {L : List (Option Value)} {j : Int32} {st : List Value} {h : List va_E} {f : Nat → Int64} (hi : ins pc = some (.laload, 1)) (hh : h[k]? = some (.inl (2, n, .inr (.inl f)))) (hin : ¬ (j < 0 ∨ n ≤ j.toNatClampNeg)) : am_n ins fld cst (pc, L, .int j :: .ref k :: st, h) = some (pc + 1, L, .long (f j.toNatClampNeg) :: st, h) := by
  unfold am_n
  simp only [hi]
  have e1 : am_p .laload 1 pc L (.int j :: .ref k :: st) = none := rfl
  have e2 : am_hA fld .laload 1 pc L (.int j :: .ref k :: st) h = none := rfl
  simp only [e1, e2, am_hB, hh, hin, not_false_eq_true, if_true]
theorem lo_cmp (x : Int64) : lg_cmp x x = 0 := by
  unfold lg_cmp
  simp
theorem lo_w_read : Cond.codeWith ⟨"PaperParcelsLaw", "read", "(LPaperParcels;I[J)I"⟩ method_3_code 4 (some .int) [(0, 9, 12, 13)] ∈ lw_tbl ∧ Cond.methodLink R_law 78 ⟨"PaperParcelsLaw", "read", "(LPaperParcels;I[J)I"⟩ ∈ lw_tbl ∧ Cond.static ⟨"PaperParcelsLaw", "read", "(LPaperParcels;I[J)I"⟩ ∈ lw_tbl := ⟨List.mem_of_getElem? (i := 566) (by decide +kernel), List.mem_of_getElem? (i := 564) (by decide +kernel), List.mem_of_getElem? (i := 565) (by decide +kernel)⟩
theorem lo_w_nodes : Cond.codeWith ⟨"PaperParcelsLaw", "nodes", "(LPaperParcels;I[J)I"⟩ method_4_code 4 (some .int) [(0, 9, 12, 13)] ∈ lw_tbl ∧ Cond.methodLink R_law 91 ⟨"PaperParcelsLaw", "nodes", "(LPaperParcels;I[J)I"⟩ ∈ lw_tbl ∧ Cond.static ⟨"PaperParcelsLaw", "nodes", "(LPaperParcels;I[J)I"⟩ ∈ lw_tbl := ⟨List.mem_of_getElem? (i := 868) (by decide +kernel), List.mem_of_getElem? (i := 866) (by decide +kernel), List.mem_of_getElem? (i := 867) (by decide +kernel)⟩
theorem lo_w_kind : Cond.codeWith ⟨"PaperParcelsLaw", "kind", "(LPaperParcels;II[J)I"⟩ method_5_code 5 (some .int) [(0, 10, 13, 13), (0, 10, 17, 22)] ∈ lw_tbl ∧ Cond.methodLink R_law 94 ⟨"PaperParcelsLaw", "kind", "(LPaperParcels;II[J)I"⟩ ∈ lw_tbl ∧ Cond.static ⟨"PaperParcelsLaw", "kind", "(LPaperParcels;II[J)I"⟩ ∈ lw_tbl := ⟨List.mem_of_getElem? (i := 879) (by decide +kernel), List.mem_of_getElem? (i := 877) (by decide +kernel), List.mem_of_getElem? (i := 878) (by decide +kernel)⟩
theorem lo_w_above : Cond.codeWith ⟨"PaperParcelsLaw", "above", "(LPaperParcels;II[J)I"⟩ method_6_code 5 (some .int) [(0, 10, 13, 13), (0, 10, 17, 22)] ∈ lw_tbl ∧ Cond.methodLink R_law 98 ⟨"PaperParcelsLaw", "above", "(LPaperParcels;II[J)I"⟩ ∈ lw_tbl ∧ Cond.static ⟨"PaperParcelsLaw", "above", "(LPaperParcels;II[J)I"⟩ ∈ lw_tbl := ⟨List.mem_of_getElem? (i := 905) (by decide +kernel), List.mem_of_getElem? (i := 903) (by decide +kernel), List.mem_of_getElem? (i := 904) (by decide +kernel)⟩
theorem lo_w_look : Cond.codeWith ⟨"PaperParcelsLaw", "look", "(LPaperParcels;III[J)I"⟩ method_7_code 6 (some .int) [(0, 12, 15, 13), (0, 12, 19, 22)] ∈ lw_tbl ∧ Cond.methodLink R_law 101 ⟨"PaperParcelsLaw", "look", "(LPaperParcels;III[J)I"⟩ ∈ lw_tbl ∧ Cond.static ⟨"PaperParcelsLaw", "look", "(LPaperParcels;III[J)I"⟩ ∈ lw_tbl := ⟨List.mem_of_getElem? (i := 912) (by decide +kernel), List.mem_of_getElem? (i := 910) (by decide +kernel), List.mem_of_getElem? (i := 911) (by decide +kernel)⟩
theorem lo_w_letters : Cond.codeWith ⟨"PaperParcelsLaw", "letters", "(LPaperParcels;II[J)I"⟩ method_8_code 5 (some .int) [(0, 10, 13, 13), (0, 10, 17, 22)] ∈ lw_tbl ∧ Cond.methodLink R_law 105 ⟨"PaperParcelsLaw", "letters", "(LPaperParcels;II[J)I"⟩ ∈ lw_tbl ∧ Cond.static ⟨"PaperParcelsLaw", "letters", "(LPaperParcels;II[J)I"⟩ ∈ lw_tbl := ⟨List.mem_of_getElem? (i := 920) (by decide +kernel), List.mem_of_getElem? (i := 918) (by decide +kernel), List.mem_of_getElem? (i := 919) (by decide +kernel)⟩
theorem lo_w_letter : Cond.codeWith ⟨"PaperParcelsLaw", "letter", "(LPaperParcels;III[J)I"⟩ method_9_code 6 (some .int) [(0, 12, 15, 13), (0, 12, 19, 22)] ∈ lw_tbl ∧ Cond.methodLink R_law 108 ⟨"PaperParcelsLaw", "letter", "(LPaperParcels;III[J)I"⟩ ∈ lw_tbl ∧ Cond.static ⟨"PaperParcelsLaw", "letter", "(LPaperParcels;III[J)I"⟩ ∈ lw_tbl := ⟨List.mem_of_getElem? (i := 927) (by decide +kernel), List.mem_of_getElem? (i := 925) (by decide +kernel), List.mem_of_getElem? (i := 926) (by decide +kernel)⟩
theorem lo_w_compare : Cond.codeWith ⟨"PaperParcelsLaw", "compare", "(LPaperParcels;[J)I"⟩ method_10_code 3 (some .int) [(0, 8, 11, 41)] ∈ lw_tbl ∧ Cond.methodLink R_law 111 ⟨"PaperParcelsLaw", "compare", "(LPaperParcels;[J)I"⟩ ∈ lw_tbl ∧ Cond.static ⟨"PaperParcelsLaw", "compare", "(LPaperParcels;[J)I"⟩ ∈ lw_tbl := ⟨List.mem_of_getElem? (i := 938) (by decide +kernel), List.mem_of_getElem? (i := 936) (by decide +kernel), List.mem_of_getElem? (i := 937) (by decide +kernel)⟩
theorem lo_w_step : Cond.codeWith ⟨"PaperParcelsLaw", "step", "(LPaperParcels;IZ[J)I"⟩ method_11_code 5 (some .int) [(0, 10, 13, 22)] ∈ lw_tbl ∧ Cond.methodLink R_law 119 ⟨"PaperParcelsLaw", "step", "(LPaperParcels;IZ[J)I"⟩ ∈ lw_tbl ∧ Cond.static ⟨"PaperParcelsLaw", "step", "(LPaperParcels;IZ[J)I"⟩ ∈ lw_tbl := ⟨List.mem_of_getElem? (i := 1016) (by decide +kernel), List.mem_of_getElem? (i := 1014) (by decide +kernel), List.mem_of_getElem? (i := 1015) (by decide +kernel)⟩
theorem lo_w_apply : Cond.codeWith ⟨"PaperParcelsLaw", "apply", "(LPaperParcels;I[J)I"⟩ method_12_code 4 (some .int) [(0, 9, 12, 41), (0, 9, 15, 13)] ∈ lw_tbl ∧ Cond.methodLink R_law 123 ⟨"PaperParcelsLaw", "apply", "(LPaperParcels;I[J)I"⟩ ∈ lw_tbl ∧ Cond.static ⟨"PaperParcelsLaw", "apply", "(LPaperParcels;I[J)I"⟩ ∈ lw_tbl := ⟨List.mem_of_getElem? (i := 1023) (by decide +kernel), List.mem_of_getElem? (i := 1021) (by decide +kernel), List.mem_of_getElem? (i := 1022) (by decide +kernel)⟩
theorem lo_w_emit : Cond.codeWith ⟨"PaperParcelsLaw", "emit", "(LPaperParcels;II[J)I"⟩ method_13_code 5 (some .int) [(0, 10, 13, 13), (0, 10, 17, 41), (0, 10, 21, 53)] ∈ lw_tbl ∧ Cond.methodLink R_law 126 ⟨"PaperParcelsLaw", "emit", "(LPaperParcels;II[J)I"⟩ ∈ lw_tbl ∧ Cond.static ⟨"PaperParcelsLaw", "emit", "(LPaperParcels;II[J)I"⟩ ∈ lw_tbl := ⟨List.mem_of_getElem? (i := 1057) (by decide +kernel), List.mem_of_getElem? (i := 1055) (by decide +kernel), List.mem_of_getElem? (i := 1056) (by decide +kernel)⟩
theorem lo_w_ini : Cond.initialized R_law ∈ lw_tbl := List.mem_of_getElem? (i := 115) (by decide +kernel)
end
section
/-! The law's blocks (printed by wip/gen/ops.py). -/
set_option maxRecDepth 100000
section LO
variable {p : Program} {l : Launch} {e : Env} {s : State} {m : MethodId} {below : List Frame} {meth : Method} {c : Code} {b L : Nat} {xs : Nat → Int32} {D : va_G} {ca : Nat → ClassId}
theorem lo_0 (hC : lx_C p l s m meth c b L xs D ca) {i : Int32} {kv bv : Option Value} {h : List va_E} {g : Nat} {P : List va_E → Prop} (hg : g + 1 ≤ 600000) (v1 : vp_in (i + 1) L) (v2 : vp_in (i + 2) L) (ho : op2 (lx_K l s b D ca) 12 148 [.long ((xs (i + 1).toNatClampNeg).toInt64 <<< ((32 : Int32).toInt64 &&& 63) ||| (xs (i + 2).toNatClampNeg).toInt64 &&& 4294967295)] h P) (kk : ∀ h', P h' → lx_W p l e s m below meth c b D ca (982, [some (.ref 1000000), some (.ref 0), some (.ref 179), some (.ref 225), some (.int i), kv, bv], [], h') g) : lx_W p l e s m below meth c b D ca (120, [some (.ref 1000000), some (.ref 0), some (.ref 179), some (.ref 225), some (.int i), kv, bv], [], h) g := by
  obtain ⟨⟨fs, hcc⟩, r, h1, h2, c1, ⟨fs1, hm1⟩, c2, cp⟩ := ho
  refine lx_p hC lx_i0_ok 5 (c' := (126, [some (.ref 1000000), some (.ref 0), some (.ref 179), some (.ref 225), some (.int i), kv, bv], [.int (i + 1), .ref 1000000, .ref 0])) rfl ?_
  refine lx_ld hC lx_i0_ok rfl v1 ?_
  refine lx_p hC lx_i0_ok 7 (c' := (136, [some (.ref 1000000), some (.ref 0), some (.ref 179), some (.ref 225), some (.int i), kv, bv], [.int (i + 2), .ref 1000000, .long ((xs (i + 1).toNatClampNeg).toInt64 <<< ((32 : Int32).toInt64 &&& 63)), .ref 0])) rfl ?_
  refine lx_ld hC lx_i0_ok rfl v2 ?_
  refine lx_p hC lx_i0_ok 1 (c' := (138, [some (.ref 1000000), some (.ref 0), some (.ref 179), some (.ref 225), some (.int i), kv, bv], [.long (xs (i + 2).toNatClampNeg).toInt64, .long ((xs (i + 1).toNatClampNeg).toInt64 <<< ((32 : Int32).toInt64 &&& 63)), .ref 0])) rfl ?_
  refine lx_n1 hC lx_i0_ok (S' := (141, [some (.ref 1000000), some (.ref 0), some (.ref 179), some (.ref 225), some (.int i), kv, bv], [.long 4294967295, .long (xs (i + 2).toNatClampNeg).toInt64, .long ((xs (i + 1).toNatClampNeg).toInt64 <<< ((32 : Int32).toInt64 &&& 63)), .ref 0], h)) rfl ?_
  refine lx_p hC lx_i0_ok 2 (c' := (143, [some (.ref 1000000), some (.ref 0), some (.ref 179), some (.ref 225), some (.int i), kv, bv], [.long (((xs (i + 1).toNatClampNeg).toInt64 <<< ((32 : Int32).toInt64 &&& 63)) ||| ((xs (i + 2).toNatClampNeg).toInt64 &&& 4294967295)), .ref 0])) rfl ?_
  refine lx_call hC lx_i0_ok (am_site_v (ix := 61) (y := 12) (k := 2) (ci := 0) rfl rfl (am_rcv_v rfl hcc)) (Nat.le_of_ble_eq_true rfl) (Nat.le_of_ble_eq_true rfl) (by omega) c1 ?_
  refine lx_p hC lx_i0_ok 5 (c' := (152, [some (.ref 1000000), some (.ref 0), some (.ref 179), some (.ref 225), some (.int i), kv, bv], [.int (i + 1), .ref 1000000, .ref 179, .int r])) rfl ?_
  refine lx_ld hC lx_i0_ok rfl v1 ?_
  refine lx_p hC lx_i0_ok 7 (c' := (162, [some (.ref 1000000), some (.ref 0), some (.ref 179), some (.ref 225), some (.int i), kv, bv], [.int (i + 2), .ref 1000000, .long ((xs (i + 1).toNatClampNeg).toInt64 <<< ((32 : Int32).toInt64 &&& 63)), .ref 179, .int r])) rfl ?_
  refine lx_ld hC lx_i0_ok rfl v2 ?_
  refine lx_p hC lx_i0_ok 1 (c' := (164, [some (.ref 1000000), some (.ref 0), some (.ref 179), some (.ref 225), some (.int i), kv, bv], [.long (xs (i + 2).toNatClampNeg).toInt64, .long ((xs (i + 1).toNatClampNeg).toInt64 <<< ((32 : Int32).toInt64 &&& 63)), .ref 179, .int r])) rfl ?_
  refine lx_n1 hC lx_i0_ok (S' := (167, [some (.ref 1000000), some (.ref 0), some (.ref 179), some (.ref 225), some (.int i), kv, bv], [.long 4294967295, .long (xs (i + 2).toNatClampNeg).toInt64, .long ((xs (i + 1).toNatClampNeg).toInt64 <<< ((32 : Int32).toInt64 &&& 63)), .ref 179, .int r], h1)) rfl ?_
  refine lx_p hC lx_i0_ok 2 (c' := (169, [some (.ref 1000000), some (.ref 0), some (.ref 179), some (.ref 225), some (.int i), kv, bv], [.long (((xs (i + 1).toNatClampNeg).toInt64 <<< ((32 : Int32).toInt64 &&& 63)) ||| ((xs (i + 2).toNatClampNeg).toInt64 &&& 4294967295)), .ref 179, .int r])) rfl ?_
  refine lx_call hC lx_i0_ok (am_site_v (ix := 65) (y := 148) (k := 2) (ci := 11) rfl rfl (am_rcv_v rfl hm1)) (Nat.le_of_ble_eq_true rfl) (Nat.le_of_ble_eq_true rfl) (by omega) c2 ?_
  refine lx_b hC lx_i0_ok (q := r = r) rfl rfl (fun _ => ?_) (fun hq => absurd rfl hq)
  exact kk _ cp
theorem lo_1 (hC : lx_C p l s m meth c b L xs D ca) {i : Int32} {kv bv : Option Value} {h : List va_E} {g : Nat} {P : List va_E → Prop} (hg : g + 1 ≤ 600000)  (ho : op2 (lx_K l s b D ca) 14 149 [] h P) (kk : ∀ h', P h' → lx_W p l e s m below meth c b D ca (982, [some (.ref 1000000), some (.ref 0), some (.ref 179), some (.ref 225), some (.int i), kv, bv], [], h') g) : lx_W p l e s m below meth c b D ca (177, [some (.ref 1000000), some (.ref 0), some (.ref 179), some (.ref 225), some (.int i), kv, bv], [], h) g := by
  obtain ⟨⟨fs, hcc⟩, r, h1, h2, c1, ⟨fs1, hm1⟩, c2, cp⟩ := ho
  refine lx_p hC lx_i1_ok 1 (c' := (178, [some (.ref 1000000), some (.ref 0), some (.ref 179), some (.ref 225), some (.int i), kv, bv], [.ref 0])) rfl ?_
  refine lx_call hC lx_i1_ok (am_site_v (ix := 66) (y := 14) (k := 1) (ci := 0) rfl rfl (am_rcv_v rfl hcc)) (Nat.le_of_ble_eq_true rfl) (Nat.le_of_ble_eq_true rfl) (by omega) c1 ?_
  refine lx_p hC lx_i1_ok 1 (c' := (182, [some (.ref 1000000), some (.ref 0), some (.ref 179), some (.ref 225), some (.int i), kv, bv], [.ref 179, .int r])) rfl ?_
  refine lx_call hC lx_i1_ok (am_site_v (ix := 69) (y := 149) (k := 1) (ci := 11) rfl rfl (am_rcv_v rfl hm1)) (Nat.le_of_ble_eq_true rfl) (Nat.le_of_ble_eq_true rfl) (by omega) c2 ?_
  refine lx_b hC lx_i1_ok (q := r = r) rfl rfl (fun _ => ?_) (fun hq => absurd rfl hq)
  exact kk _ cp
theorem lo_2 (hC : lx_C p l s m meth c b L xs D ca) {i : Int32} {kv bv : Option Value} {h : List va_E} {g : Nat} {P : List va_E → Prop} (hg : g + 1 ≤ 600000)  (ho : op2 (lx_K l s b D ca) 16 150 [] h P) (kk : ∀ h', P h' → lx_W p l e s m below meth c b D ca (982, [some (.ref 1000000), some (.ref 0), some (.ref 179), some (.ref 225), some (.int i), kv, bv], [], h') g) : lx_W p l e s m below meth c b D ca (190, [some (.ref 1000000), some (.ref 0), some (.ref 179), some (.ref 225), some (.int i), kv, bv], [], h) g := by
  obtain ⟨⟨fs, hcc⟩, r, h1, h2, c1, ⟨fs1, hm1⟩, c2, cp⟩ := ho
  refine lx_p hC lx_i2_ok 1 (c' := (191, [some (.ref 1000000), some (.ref 0), some (.ref 179), some (.ref 225), some (.int i), kv, bv], [.ref 0])) rfl ?_
  refine lx_call hC lx_i2_ok (am_site_v (ix := 70) (y := 16) (k := 1) (ci := 0) rfl rfl (am_rcv_v rfl hcc)) (Nat.le_of_ble_eq_true rfl) (Nat.le_of_ble_eq_true rfl) (by omega) c1 ?_
  refine lx_p hC lx_i2_ok 1 (c' := (195, [some (.ref 1000000), some (.ref 0), some (.ref 179), some (.ref 225), some (.int i), kv, bv], [.ref 179, .int r])) rfl ?_
  refine lx_call hC lx_i2_ok (am_site_v (ix := 73) (y := 150) (k := 1) (ci := 11) rfl rfl (am_rcv_v rfl hm1)) (Nat.le_of_ble_eq_true rfl) (Nat.le_of_ble_eq_true rfl) (by omega) c2 ?_
  refine lx_b hC lx_i2_ok (q := r = r) rfl rfl (fun _ => ?_) (fun hq => absurd rfl hq)
  exact kk _ cp
theorem lo_3 (hC : lx_C p l s m meth c b L xs D ca) {i : Int32} {kv bv : Option Value} {h : List va_E} {g : Nat} {P : List va_E → Prop} (hg : g + 1 ≤ 600000) (v1 : vp_in (i + 1) L) (ho : op2 (lx_K l s b D ca) 17 151 [.int (xs (i + 1).toNatClampNeg)] h P) (kk : ∀ h', P h' → lx_W p l e s m below meth c b D ca (982, [some (.ref 1000000), some (.ref 0), some (.ref 179), some (.ref 225), some (.int i), kv, bv], [], h') g) : lx_W p l e s m below meth c b D ca (203, [some (.ref 1000000), some (.ref 0), some (.ref 179), some (.ref 225), some (.int i), kv, bv], [], h) g := by
  obtain ⟨⟨fs, hcc⟩, r, h1, h2, c1, ⟨fs1, hm1⟩, c2, cp⟩ := ho
  refine lx_p hC lx_i3_ok 5 (c' := (209, [some (.ref 1000000), some (.ref 0), some (.ref 179), some (.ref 225), some (.int i), kv, bv], [.int (i + 1), .ref 1000000, .ref 0])) rfl ?_
  refine lx_ld hC lx_i3_ok rfl v1 ?_
  refine lx_call hC lx_i3_ok (am_site_v (ix := 74) (y := 17) (k := 2) (ci := 0) rfl rfl (am_rcv_v rfl hcc)) (Nat.le_of_ble_eq_true rfl) (Nat.le_of_ble_eq_true rfl) (by omega) c1 ?_
  refine lx_p hC lx_i3_ok 5 (c' := (219, [some (.ref 1000000), some (.ref 0), some (.ref 179), some (.ref 225), some (.int i), kv, bv], [.int (i + 1), .ref 1000000, .ref 179, .int r])) rfl ?_
  refine lx_ld hC lx_i3_ok rfl v1 ?_
  refine lx_call hC lx_i3_ok (am_site_v (ix := 77) (y := 151) (k := 2) (ci := 11) rfl rfl (am_rcv_v rfl hm1)) (Nat.le_of_ble_eq_true rfl) (Nat.le_of_ble_eq_true rfl) (by omega) c2 ?_
  refine lx_b hC lx_i3_ok (q := r = r) rfl rfl (fun _ => ?_) (fun hq => absurd rfl hq)
  exact kk _ cp
theorem lo_4 (hC : lx_C p l s m meth c b L xs D ca) {i : Int32} {kv bv : Option Value} {h : List va_E} {g : Nat} {P : List va_E → Prop} (hg : g + 1 ≤ 600000) (v1 : vp_in (i + 1) L) (ho : opH (lx_K l s b D ca) ⟨"PaperParcelsLaw", "read", "(LPaperParcels;I[J)I"⟩ method_3_code 4 [(0, 9, 12, 13)] 152 [.int (xs (i + 1).toNatClampNeg)] h P) (kk : ∀ h' k' b' g', g' ≤ g + 1 → P h' → lx_W p l e s m below meth c b D ca (982, [some (.ref 1000000), some (.ref 0), some (.ref 179), some (.ref 225), some (.int i), k', b'], [], h') g') : lx_W p l e s m below meth c b D ca (228, [some (.ref 1000000), some (.ref 0), some (.ref 179), some (.ref 225), some (.int i), kv, bv], [], h) g := by
  obtain ⟨k0, b0, h1, h2, h3, g1, hg1, ch, ⟨fs1, hm1⟩, c2, ⟨fs2, hm2⟩, c3, ho, cp⟩ := ho
  refine lx_p hC lx_i4_ok 5 (c' := (234, [some (.ref 1000000), some (.ref 0), some (.ref 179), some (.ref 225), some (.int i), kv, bv], [.int (i + 1), .ref 1000000, .ref 0])) rfl ?_
  refine lx_ld hC lx_i4_ok rfl v1 ?_
  refine lx_p hC lx_i4_ok 1 (c' := (236, [some (.ref 1000000), some (.ref 0), some (.ref 179), some (.ref 225), some (.int i), kv, bv], [.ref 225, .int (xs (i + 1).toNatClampNeg), .ref 0])) rfl ?_
  refine lx_help hC lx_i4_ok (ix := 78) (n := 3) (maxL := 4) (y := ⟨"PaperParcelsLaw", "read", "(LPaperParcels;I[J)I"⟩) (bytes := method_3_code) (hh := [(0, 9, 12, 13)]) rfl lo_w_read.1 lo_w_ini lo_w_read.2.1 lo_w_read.2.2 ⟨by decide +kernel, by decide +kernel⟩ (by decide +kernel) (Nat.le_of_ble_eq_true rfl) rfl (by omega) ch ?_
  refine lx_p hC lx_i4_ok 6 (c' := (247, [some (.ref 1000000), some (.ref 0), some (.ref 179), some (.ref 225), some (.int i), some (.int k0), bv], [.int (i + 1), .ref 1000000, .ref 179])) rfl ?_
  refine lx_ld hC lx_i4_ok rfl v1 ?_
  refine lx_call hC lx_i4_ok (am_site_v (ix := 83) (y := 152) (k := 2) (ci := 11) rfl rfl (am_rcv_v rfl hm1)) (Nat.le_of_ble_eq_true rfl) (Nat.le_of_ble_eq_true rfl) (by omega) c2 ?_
  refine lx_p hC lx_i4_ok 2 (c' := (254, [some (.ref 1000000), some (.ref 0), some (.ref 179), some (.ref 225), some (.int i), some (.int k0), some (.int b0)], [.ref 179])) rfl ?_
  refine lx_call hC lx_i4_ok (am_site_v (ix := 84) (y := 147) (k := 1) (ci := 11) rfl rfl (am_rcv_v rfl hm2)) (Nat.le_of_ble_eq_true rfl) (Nat.le_of_ble_eq_true rfl) (by omega) c3 ?_
  refine lx_p hC lx_i4_ok 1 (c' := (259, [some (.ref 1000000), some (.ref 0), some (.ref 179), some (.ref 225), some (.int i), some (.int k0), some (.int b0)], [.int k0, .int k0])) rfl ?_
  refine lx_b hC lx_i4_ok (q := k0 = k0) rfl rfl (fun _ => ?_) (fun hq => absurd rfl hq)
  refine lx_p hC lx_i4_ok 1 (c' := (266, [some (.ref 1000000), some (.ref 0), some (.ref 179), some (.ref 225), some (.int i), some (.int k0), some (.int b0)], [.int k0])) rfl ?_
  refine lx_b hC lx_i4_ok (q := ¬ k0 = 0) rfl rfl (fun _ => lx_p hC lx_i4_ok 1 (c' := (982, [some (.ref 1000000), some (.ref 0), some (.ref 179), some (.ref 225), some (.int i), some (.int k0), some (.int b0)], [])) rfl (kk _ _ _ _ (by omega) cp)) (fun hq => ?_)
  obtain ⟨f, hf1, hf2⟩ := ho (Decidable.not_not.mp hq)
  refine lx_p hC lx_i4_ok 2 (c' := (271, [some (.ref 1000000), some (.ref 0), some (.ref 179), some (.ref 225), some (.int i), some (.int k0), some (.int b0)], [.int 0, .ref 225])) rfl ?_
  refine lx_n1 hC lx_i4_ok (am_n_lald rfl hf1 (by decide)) ?_
  refine lx_p hC lx_i4_ok 3 (c' := (276, [some (.ref 1000000), some (.ref 0), some (.ref 179), some (.ref 225), some (.int i), some (.int k0), some (.int b0)], [.int (lg_cmp (f 0) b0.toInt64)])) rfl ?_
  refine lx_b hC lx_i4_ok (q := (lg_cmp (f 0) b0.toInt64) = 0) rfl rfl (fun _ => ?_) (fun hq => absurd (by rw [hf2]; exact lo_cmp _) hq)
  refine lx_p hC lx_i4_ok 1 (c' := (982, [some (.ref 1000000), some (.ref 0), some (.ref 179), some (.ref 225), some (.int i), some (.int k0), some (.int b0)], [])) rfl ?_
  exact kk _ _ _ _ (by omega) cp
theorem lo_5 (hC : lx_C p l s m meth c b L xs D ca) {i : Int32} {kv bv : Option Value} {h : List va_E} {g : Nat} {P : List va_E → Prop} (hg : g + 1 ≤ 600000)  (ho : op2 (lx_K l s b D ca) 19 200 [] h P) (kk : ∀ h', P h' → lx_W p l e s m below meth c b D ca (982, [some (.ref 1000000), some (.ref 0), some (.ref 179), some (.ref 225), some (.int i), kv, bv], [], h') g) : lx_W p l e s m below meth c b D ca (284, [some (.ref 1000000), some (.ref 0), some (.ref 179), some (.ref 225), some (.int i), kv, bv], [], h) g := by
  obtain ⟨⟨fs, hcc⟩, r, h1, h2, c1, ⟨fs1, hm1⟩, c2, cp⟩ := ho
  refine lx_p hC lx_i5_ok 1 (c' := (285, [some (.ref 1000000), some (.ref 0), some (.ref 179), some (.ref 225), some (.int i), kv, bv], [.ref 0])) rfl ?_
  refine lx_call hC lx_i5_ok (am_site_v (ix := 87) (y := 19) (k := 1) (ci := 0) rfl rfl (am_rcv_v rfl hcc)) (Nat.le_of_ble_eq_true rfl) (Nat.le_of_ble_eq_true rfl) (by omega) c1 ?_
  refine lx_p hC lx_i5_ok 1 (c' := (289, [some (.ref 1000000), some (.ref 0), some (.ref 179), some (.ref 225), some (.int i), kv, bv], [.ref 179, .int r])) rfl ?_
  refine lx_call hC lx_i5_ok (am_site_v (ix := 90) (y := 200) (k := 1) (ci := 11) rfl rfl (am_rcv_v rfl hm1)) (Nat.le_of_ble_eq_true rfl) (Nat.le_of_ble_eq_true rfl) (by omega) c2 ?_
  refine lx_b hC lx_i5_ok (q := r = r) rfl rfl (fun _ => ?_) (fun hq => absurd rfl hq)
  exact kk _ cp
theorem lo_6 (hC : lx_C p l s m meth c b L xs D ca) {i : Int32} {kv bv : Option Value} {h : List va_E} {g : Nat} {P : List va_E → Prop} (hg : g + 1 ≤ 600000) (v1 : vp_in (i + 1) L) (ho : opH (lx_K l s b D ca) ⟨"PaperParcelsLaw", "nodes", "(LPaperParcels;I[J)I"⟩ method_4_code 4 [(0, 9, 12, 13)] 201 [.int (xs (i + 1).toNatClampNeg)] h P) (kk : ∀ h' k' b' g', g' ≤ g + 1 → P h' → lx_W p l e s m below meth c b D ca (982, [some (.ref 1000000), some (.ref 0), some (.ref 179), some (.ref 225), some (.int i), k', b'], [], h') g') : lx_W p l e s m below meth c b D ca (297, [some (.ref 1000000), some (.ref 0), some (.ref 179), some (.ref 225), some (.int i), kv, bv], [], h) g := by
  obtain ⟨k0, b0, h1, h2, h3, g1, hg1, ch, ⟨fs1, hm1⟩, c2, ⟨fs2, hm2⟩, c3, ho, cp⟩ := ho
  refine lx_p hC lx_i6_ok 5 (c' := (303, [some (.ref 1000000), some (.ref 0), some (.ref 179), some (.ref 225), some (.int i), kv, bv], [.int (i + 1), .ref 1000000, .ref 0])) rfl ?_
  refine lx_ld hC lx_i6_ok rfl v1 ?_
  refine lx_p hC lx_i6_ok 1 (c' := (305, [some (.ref 1000000), some (.ref 0), some (.ref 179), some (.ref 225), some (.int i), kv, bv], [.ref 225, .int (xs (i + 1).toNatClampNeg), .ref 0])) rfl ?_
  refine lx_help hC lx_i6_ok (ix := 91) (n := 3) (maxL := 4) (y := ⟨"PaperParcelsLaw", "nodes", "(LPaperParcels;I[J)I"⟩) (bytes := method_4_code) (hh := [(0, 9, 12, 13)]) rfl lo_w_nodes.1 lo_w_ini lo_w_nodes.2.1 lo_w_nodes.2.2 ⟨by decide +kernel, by decide +kernel⟩ (by decide +kernel) (Nat.le_of_ble_eq_true rfl) rfl (by omega) ch ?_
  refine lx_p hC lx_i6_ok 6 (c' := (316, [some (.ref 1000000), some (.ref 0), some (.ref 179), some (.ref 225), some (.int i), some (.int k0), bv], [.int (i + 1), .ref 1000000, .ref 179])) rfl ?_
  refine lx_ld hC lx_i6_ok rfl v1 ?_
  refine lx_call hC lx_i6_ok (am_site_v (ix := 93) (y := 201) (k := 2) (ci := 11) rfl rfl (am_rcv_v rfl hm1)) (Nat.le_of_ble_eq_true rfl) (Nat.le_of_ble_eq_true rfl) (by omega) c2 ?_
  refine lx_p hC lx_i6_ok 2 (c' := (323, [some (.ref 1000000), some (.ref 0), some (.ref 179), some (.ref 225), some (.int i), some (.int k0), some (.int b0)], [.ref 179])) rfl ?_
  refine lx_call hC lx_i6_ok (am_site_v (ix := 84) (y := 147) (k := 1) (ci := 11) rfl rfl (am_rcv_v rfl hm2)) (Nat.le_of_ble_eq_true rfl) (Nat.le_of_ble_eq_true rfl) (by omega) c3 ?_
  refine lx_p hC lx_i6_ok 1 (c' := (328, [some (.ref 1000000), some (.ref 0), some (.ref 179), some (.ref 225), some (.int i), some (.int k0), some (.int b0)], [.int k0, .int k0])) rfl ?_
  refine lx_b hC lx_i6_ok (q := k0 = k0) rfl rfl (fun _ => ?_) (fun hq => absurd rfl hq)
  refine lx_p hC lx_i6_ok 1 (c' := (335, [some (.ref 1000000), some (.ref 0), some (.ref 179), some (.ref 225), some (.int i), some (.int k0), some (.int b0)], [.int k0])) rfl ?_
  refine lx_b hC lx_i6_ok (q := ¬ k0 = 0) rfl rfl (fun _ => lx_p hC lx_i6_ok 1 (c' := (982, [some (.ref 1000000), some (.ref 0), some (.ref 179), some (.ref 225), some (.int i), some (.int k0), some (.int b0)], [])) rfl (kk _ _ _ _ (by omega) cp)) (fun hq => ?_)
  obtain ⟨f, hf1, hf2⟩ := ho (Decidable.not_not.mp hq)
  refine lx_p hC lx_i6_ok 2 (c' := (340, [some (.ref 1000000), some (.ref 0), some (.ref 179), some (.ref 225), some (.int i), some (.int k0), some (.int b0)], [.int 0, .ref 225])) rfl ?_
  refine lx_n1 hC lx_i6_ok (am_n_lald rfl hf1 (by decide)) ?_
  refine lx_p hC lx_i6_ok 3 (c' := (345, [some (.ref 1000000), some (.ref 0), some (.ref 179), some (.ref 225), some (.int i), some (.int k0), some (.int b0)], [.int (lg_cmp (f 0) b0.toInt64)])) rfl ?_
  refine lx_b hC lx_i6_ok (q := (lg_cmp (f 0) b0.toInt64) = 0) rfl rfl (fun _ => ?_) (fun hq => absurd (by rw [hf2]; exact lo_cmp _) hq)
  refine lx_p hC lx_i6_ok 1 (c' := (982, [some (.ref 1000000), some (.ref 0), some (.ref 179), some (.ref 225), some (.int i), some (.int k0), some (.int b0)], [])) rfl ?_
  exact kk _ _ _ _ (by omega) cp
theorem lo_7 (hC : lx_C p l s m meth c b L xs D ca) {i : Int32} {kv bv : Option Value} {h : List va_E} {g : Nat} {P : List va_E → Prop} (hg : g + 1 ≤ 600000) (v1 : vp_in (i + 1) L) (v2 : vp_in (i + 2) L) (ho : opH (lx_K l s b D ca) ⟨"PaperParcelsLaw", "kind", "(LPaperParcels;II[J)I"⟩ method_5_code 5 [(0, 10, 13, 13), (0, 10, 17, 22)] 203 [.int (xs (i + 1).toNatClampNeg), .int (xs (i + 2).toNatClampNeg)] h P) (kk : ∀ h' k' b' g', g' ≤ g + 1 → P h' → lx_W p l e s m below meth c b D ca (982, [some (.ref 1000000), some (.ref 0), some (.ref 179), some (.ref 225), some (.int i), k', b'], [], h') g') : lx_W p l e s m below meth c b D ca (353, [some (.ref 1000000), some (.ref 0), some (.ref 179), some (.ref 225), some (.int i), kv, bv], [], h) g := by
  obtain ⟨k0, b0, h1, h2, h3, g1, hg1, ch, ⟨fs1, hm1⟩, c2, ⟨fs2, hm2⟩, c3, ho, cp⟩ := ho
  refine lx_p hC lx_i7_ok 5 (c' := (359, [some (.ref 1000000), some (.ref 0), some (.ref 179), some (.ref 225), some (.int i), kv, bv], [.int (i + 1), .ref 1000000, .ref 0])) rfl ?_
  refine lx_ld hC lx_i7_ok rfl v1 ?_
  refine lx_p hC lx_i7_ok 4 (c' := (365, [some (.ref 1000000), some (.ref 0), some (.ref 179), some (.ref 225), some (.int i), kv, bv], [.int (i + 2), .ref 1000000, .int (xs (i + 1).toNatClampNeg), .ref 0])) rfl ?_
  refine lx_ld hC lx_i7_ok rfl v2 ?_
  refine lx_p hC lx_i7_ok 1 (c' := (367, [some (.ref 1000000), some (.ref 0), some (.ref 179), some (.ref 225), some (.int i), kv, bv], [.ref 225, .int (xs (i + 2).toNatClampNeg), .int (xs (i + 1).toNatClampNeg), .ref 0])) rfl ?_
  refine lx_help hC lx_i7_ok (ix := 94) (n := 4) (maxL := 5) (y := ⟨"PaperParcelsLaw", "kind", "(LPaperParcels;II[J)I"⟩) (bytes := method_5_code) (hh := [(0, 10, 13, 13), (0, 10, 17, 22)]) rfl lo_w_kind.1 lo_w_ini lo_w_kind.2.1 lo_w_kind.2.2 ⟨by decide +kernel, by decide +kernel⟩ (by decide +kernel) (Nat.le_of_ble_eq_true rfl) rfl (by omega) ch ?_
  refine lx_p hC lx_i7_ok 6 (c' := (378, [some (.ref 1000000), some (.ref 0), some (.ref 179), some (.ref 225), some (.int i), some (.int k0), bv], [.int (i + 1), .ref 1000000, .ref 179])) rfl ?_
  refine lx_ld hC lx_i7_ok rfl v1 ?_
  refine lx_p hC lx_i7_ok 4 (c' := (384, [some (.ref 1000000), some (.ref 0), some (.ref 179), some (.ref 225), some (.int i), some (.int k0), bv], [.int (i + 2), .ref 1000000, .int (xs (i + 1).toNatClampNeg), .ref 179])) rfl ?_
  refine lx_ld hC lx_i7_ok rfl v2 ?_
  refine lx_call hC lx_i7_ok (am_site_v (ix := 97) (y := 203) (k := 3) (ci := 11) rfl rfl (am_rcv_v rfl hm1)) (Nat.le_of_ble_eq_true rfl) (Nat.le_of_ble_eq_true rfl) (by omega) c2 ?_
  refine lx_p hC lx_i7_ok 2 (c' := (391, [some (.ref 1000000), some (.ref 0), some (.ref 179), some (.ref 225), some (.int i), some (.int k0), some (.int b0)], [.ref 179])) rfl ?_
  refine lx_call hC lx_i7_ok (am_site_v (ix := 84) (y := 147) (k := 1) (ci := 11) rfl rfl (am_rcv_v rfl hm2)) (Nat.le_of_ble_eq_true rfl) (Nat.le_of_ble_eq_true rfl) (by omega) c3 ?_
  refine lx_p hC lx_i7_ok 1 (c' := (396, [some (.ref 1000000), some (.ref 0), some (.ref 179), some (.ref 225), some (.int i), some (.int k0), some (.int b0)], [.int k0, .int k0])) rfl ?_
  refine lx_b hC lx_i7_ok (q := k0 = k0) rfl rfl (fun _ => ?_) (fun hq => absurd rfl hq)
  refine lx_p hC lx_i7_ok 1 (c' := (403, [some (.ref 1000000), some (.ref 0), some (.ref 179), some (.ref 225), some (.int i), some (.int k0), some (.int b0)], [.int k0])) rfl ?_
  refine lx_b hC lx_i7_ok (q := ¬ k0 = 0) rfl rfl (fun _ => lx_p hC lx_i7_ok 1 (c' := (982, [some (.ref 1000000), some (.ref 0), some (.ref 179), some (.ref 225), some (.int i), some (.int k0), some (.int b0)], [])) rfl (kk _ _ _ _ (by omega) cp)) (fun hq => ?_)
  obtain ⟨f, hf1, hf2⟩ := ho (Decidable.not_not.mp hq)
  refine lx_p hC lx_i7_ok 2 (c' := (408, [some (.ref 1000000), some (.ref 0), some (.ref 179), some (.ref 225), some (.int i), some (.int k0), some (.int b0)], [.int 0, .ref 225])) rfl ?_
  refine lx_n1 hC lx_i7_ok (am_n_lald rfl hf1 (by decide)) ?_
  refine lx_p hC lx_i7_ok 3 (c' := (413, [some (.ref 1000000), some (.ref 0), some (.ref 179), some (.ref 225), some (.int i), some (.int k0), some (.int b0)], [.int (lg_cmp (f 0) b0.toInt64)])) rfl ?_
  refine lx_b hC lx_i7_ok (q := (lg_cmp (f 0) b0.toInt64) = 0) rfl rfl (fun _ => ?_) (fun hq => absurd (by rw [hf2]; exact lo_cmp _) hq)
  refine lx_p hC lx_i7_ok 1 (c' := (982, [some (.ref 1000000), some (.ref 0), some (.ref 179), some (.ref 225), some (.int i), some (.int k0), some (.int b0)], [])) rfl ?_
  exact kk _ _ _ _ (by omega) cp
theorem lo_8 (hC : lx_C p l s m meth c b L xs D ca) {i : Int32} {kv bv : Option Value} {h : List va_E} {g : Nat} {P : List va_E → Prop} (hg : g + 1 ≤ 600000) (v1 : vp_in (i + 1) L) (v2 : vp_in (i + 2) L) (ho : opH (lx_K l s b D ca) ⟨"PaperParcelsLaw", "above", "(LPaperParcels;II[J)I"⟩ method_6_code 5 [(0, 10, 13, 13), (0, 10, 17, 22)] 205 [.int (xs (i + 1).toNatClampNeg), .int (xs (i + 2).toNatClampNeg)] h P) (kk : ∀ h' k' b' g', g' ≤ g + 1 → P h' → lx_W p l e s m below meth c b D ca (982, [some (.ref 1000000), some (.ref 0), some (.ref 179), some (.ref 225), some (.int i), k', b'], [], h') g') : lx_W p l e s m below meth c b D ca (421, [some (.ref 1000000), some (.ref 0), some (.ref 179), some (.ref 225), some (.int i), kv, bv], [], h) g := by
  obtain ⟨k0, b0, h1, h2, h3, g1, hg1, ch, ⟨fs1, hm1⟩, c2, ⟨fs2, hm2⟩, c3, ho, cp⟩ := ho
  refine lx_p hC lx_i8_ok 5 (c' := (427, [some (.ref 1000000), some (.ref 0), some (.ref 179), some (.ref 225), some (.int i), kv, bv], [.int (i + 1), .ref 1000000, .ref 0])) rfl ?_
  refine lx_ld hC lx_i8_ok rfl v1 ?_
  refine lx_p hC lx_i8_ok 4 (c' := (433, [some (.ref 1000000), some (.ref 0), some (.ref 179), some (.ref 225), some (.int i), kv, bv], [.int (i + 2), .ref 1000000, .int (xs (i + 1).toNatClampNeg), .ref 0])) rfl ?_
  refine lx_ld hC lx_i8_ok rfl v2 ?_
  refine lx_p hC lx_i8_ok 1 (c' := (435, [some (.ref 1000000), some (.ref 0), some (.ref 179), some (.ref 225), some (.int i), kv, bv], [.ref 225, .int (xs (i + 2).toNatClampNeg), .int (xs (i + 1).toNatClampNeg), .ref 0])) rfl ?_
  refine lx_help hC lx_i8_ok (ix := 98) (n := 4) (maxL := 5) (y := ⟨"PaperParcelsLaw", "above", "(LPaperParcels;II[J)I"⟩) (bytes := method_6_code) (hh := [(0, 10, 13, 13), (0, 10, 17, 22)]) rfl lo_w_above.1 lo_w_ini lo_w_above.2.1 lo_w_above.2.2 ⟨by decide +kernel, by decide +kernel⟩ (by decide +kernel) (Nat.le_of_ble_eq_true rfl) rfl (by omega) ch ?_
  refine lx_p hC lx_i8_ok 6 (c' := (446, [some (.ref 1000000), some (.ref 0), some (.ref 179), some (.ref 225), some (.int i), some (.int k0), bv], [.int (i + 1), .ref 1000000, .ref 179])) rfl ?_
  refine lx_ld hC lx_i8_ok rfl v1 ?_
  refine lx_p hC lx_i8_ok 4 (c' := (452, [some (.ref 1000000), some (.ref 0), some (.ref 179), some (.ref 225), some (.int i), some (.int k0), bv], [.int (i + 2), .ref 1000000, .int (xs (i + 1).toNatClampNeg), .ref 179])) rfl ?_
  refine lx_ld hC lx_i8_ok rfl v2 ?_
  refine lx_call hC lx_i8_ok (am_site_v (ix := 100) (y := 205) (k := 3) (ci := 11) rfl rfl (am_rcv_v rfl hm1)) (Nat.le_of_ble_eq_true rfl) (Nat.le_of_ble_eq_true rfl) (by omega) c2 ?_
  refine lx_p hC lx_i8_ok 2 (c' := (459, [some (.ref 1000000), some (.ref 0), some (.ref 179), some (.ref 225), some (.int i), some (.int k0), some (.int b0)], [.ref 179])) rfl ?_
  refine lx_call hC lx_i8_ok (am_site_v (ix := 84) (y := 147) (k := 1) (ci := 11) rfl rfl (am_rcv_v rfl hm2)) (Nat.le_of_ble_eq_true rfl) (Nat.le_of_ble_eq_true rfl) (by omega) c3 ?_
  refine lx_p hC lx_i8_ok 1 (c' := (464, [some (.ref 1000000), some (.ref 0), some (.ref 179), some (.ref 225), some (.int i), some (.int k0), some (.int b0)], [.int k0, .int k0])) rfl ?_
  refine lx_b hC lx_i8_ok (q := k0 = k0) rfl rfl (fun _ => ?_) (fun hq => absurd rfl hq)
  refine lx_p hC lx_i8_ok 1 (c' := (471, [some (.ref 1000000), some (.ref 0), some (.ref 179), some (.ref 225), some (.int i), some (.int k0), some (.int b0)], [.int k0])) rfl ?_
  refine lx_b hC lx_i8_ok (q := ¬ k0 = 0) rfl rfl (fun _ => lx_p hC lx_i8_ok 1 (c' := (982, [some (.ref 1000000), some (.ref 0), some (.ref 179), some (.ref 225), some (.int i), some (.int k0), some (.int b0)], [])) rfl (kk _ _ _ _ (by omega) cp)) (fun hq => ?_)
  obtain ⟨f, hf1, hf2⟩ := ho (Decidable.not_not.mp hq)
  refine lx_p hC lx_i8_ok 2 (c' := (476, [some (.ref 1000000), some (.ref 0), some (.ref 179), some (.ref 225), some (.int i), some (.int k0), some (.int b0)], [.int 0, .ref 225])) rfl ?_
  refine lx_n1 hC lx_i8_ok (am_n_lald rfl hf1 (by decide)) ?_
  refine lx_p hC lx_i8_ok 3 (c' := (481, [some (.ref 1000000), some (.ref 0), some (.ref 179), some (.ref 225), some (.int i), some (.int k0), some (.int b0)], [.int (lg_cmp (f 0) b0.toInt64)])) rfl ?_
  refine lx_b hC lx_i8_ok (q := (lg_cmp (f 0) b0.toInt64) = 0) rfl rfl (fun _ => ?_) (fun hq => absurd (by rw [hf2]; exact lo_cmp _) hq)
  refine lx_p hC lx_i8_ok 1 (c' := (982, [some (.ref 1000000), some (.ref 0), some (.ref 179), some (.ref 225), some (.int i), some (.int k0), some (.int b0)], [])) rfl ?_
  exact kk _ _ _ _ (by omega) cp
theorem lo_9 (hC : lx_C p l s m meth c b L xs D ca) {i : Int32} {kv bv : Option Value} {h : List va_E} {g : Nat} {P : List va_E → Prop} (hg : g + 1 ≤ 600000) (v1 : vp_in (i + 1) L) (v2 : vp_in (i + 2) L) (v3 : vp_in (i + 3) L) (ho : opH (lx_K l s b D ca) ⟨"PaperParcelsLaw", "look", "(LPaperParcels;III[J)I"⟩ method_7_code 6 [(0, 12, 15, 13), (0, 12, 19, 22)] 206 [.int (xs (i + 1).toNatClampNeg), .int (xs (i + 2).toNatClampNeg), .int (xs (i + 3).toNatClampNeg)] h P) (kk : ∀ h' k' b' g', g' ≤ g + 1 → P h' → lx_W p l e s m below meth c b D ca (982, [some (.ref 1000000), some (.ref 0), some (.ref 179), some (.ref 225), some (.int i), k', b'], [], h') g') : lx_W p l e s m below meth c b D ca (489, [some (.ref 1000000), some (.ref 0), some (.ref 179), some (.ref 225), some (.int i), kv, bv], [], h) g := by
  obtain ⟨k0, b0, h1, h2, h3, g1, hg1, ch, ⟨fs1, hm1⟩, c2, ⟨fs2, hm2⟩, c3, ho, cp⟩ := ho
  refine lx_p hC lx_i9_ok 5 (c' := (495, [some (.ref 1000000), some (.ref 0), some (.ref 179), some (.ref 225), some (.int i), kv, bv], [.int (i + 1), .ref 1000000, .ref 0])) rfl ?_
  refine lx_ld hC lx_i9_ok rfl v1 ?_
  refine lx_p hC lx_i9_ok 4 (c' := (501, [some (.ref 1000000), some (.ref 0), some (.ref 179), some (.ref 225), some (.int i), kv, bv], [.int (i + 2), .ref 1000000, .int (xs (i + 1).toNatClampNeg), .ref 0])) rfl ?_
  refine lx_ld hC lx_i9_ok rfl v2 ?_
  refine lx_p hC lx_i9_ok 4 (c' := (507, [some (.ref 1000000), some (.ref 0), some (.ref 179), some (.ref 225), some (.int i), kv, bv], [.int (i + 3), .ref 1000000, .int (xs (i + 2).toNatClampNeg), .int (xs (i + 1).toNatClampNeg), .ref 0])) rfl ?_
  refine lx_ld hC lx_i9_ok rfl v3 ?_
  refine lx_p hC lx_i9_ok 1 (c' := (509, [some (.ref 1000000), some (.ref 0), some (.ref 179), some (.ref 225), some (.int i), kv, bv], [.ref 225, .int (xs (i + 3).toNatClampNeg), .int (xs (i + 2).toNatClampNeg), .int (xs (i + 1).toNatClampNeg), .ref 0])) rfl ?_
  refine lx_help hC lx_i9_ok (ix := 101) (n := 5) (maxL := 6) (y := ⟨"PaperParcelsLaw", "look", "(LPaperParcels;III[J)I"⟩) (bytes := method_7_code) (hh := [(0, 12, 15, 13), (0, 12, 19, 22)]) rfl lo_w_look.1 lo_w_ini lo_w_look.2.1 lo_w_look.2.2 ⟨by decide +kernel, by decide +kernel⟩ (by decide +kernel) (Nat.le_of_ble_eq_true rfl) rfl (by omega) ch ?_
  refine lx_p hC lx_i9_ok 6 (c' := (520, [some (.ref 1000000), some (.ref 0), some (.ref 179), some (.ref 225), some (.int i), some (.int k0), bv], [.int (i + 1), .ref 1000000, .ref 179])) rfl ?_
  refine lx_ld hC lx_i9_ok rfl v1 ?_
  refine lx_p hC lx_i9_ok 4 (c' := (526, [some (.ref 1000000), some (.ref 0), some (.ref 179), some (.ref 225), some (.int i), some (.int k0), bv], [.int (i + 2), .ref 1000000, .int (xs (i + 1).toNatClampNeg), .ref 179])) rfl ?_
  refine lx_ld hC lx_i9_ok rfl v2 ?_
  refine lx_p hC lx_i9_ok 4 (c' := (532, [some (.ref 1000000), some (.ref 0), some (.ref 179), some (.ref 225), some (.int i), some (.int k0), bv], [.int (i + 3), .ref 1000000, .int (xs (i + 2).toNatClampNeg), .int (xs (i + 1).toNatClampNeg), .ref 179])) rfl ?_
  refine lx_ld hC lx_i9_ok rfl v3 ?_
  refine lx_call hC lx_i9_ok (am_site_v (ix := 104) (y := 206) (k := 4) (ci := 11) rfl rfl (am_rcv_v rfl hm1)) (Nat.le_of_ble_eq_true rfl) (Nat.le_of_ble_eq_true rfl) (by omega) c2 ?_
  refine lx_p hC lx_i9_ok 2 (c' := (539, [some (.ref 1000000), some (.ref 0), some (.ref 179), some (.ref 225), some (.int i), some (.int k0), some (.int b0)], [.ref 179])) rfl ?_
  refine lx_call hC lx_i9_ok (am_site_v (ix := 84) (y := 147) (k := 1) (ci := 11) rfl rfl (am_rcv_v rfl hm2)) (Nat.le_of_ble_eq_true rfl) (Nat.le_of_ble_eq_true rfl) (by omega) c3 ?_
  refine lx_p hC lx_i9_ok 1 (c' := (544, [some (.ref 1000000), some (.ref 0), some (.ref 179), some (.ref 225), some (.int i), some (.int k0), some (.int b0)], [.int k0, .int k0])) rfl ?_
  refine lx_b hC lx_i9_ok (q := k0 = k0) rfl rfl (fun _ => ?_) (fun hq => absurd rfl hq)
  refine lx_p hC lx_i9_ok 1 (c' := (551, [some (.ref 1000000), some (.ref 0), some (.ref 179), some (.ref 225), some (.int i), some (.int k0), some (.int b0)], [.int k0])) rfl ?_
  refine lx_b hC lx_i9_ok (q := ¬ k0 = 0) rfl rfl (fun _ => lx_p hC lx_i9_ok 1 (c' := (982, [some (.ref 1000000), some (.ref 0), some (.ref 179), some (.ref 225), some (.int i), some (.int k0), some (.int b0)], [])) rfl (kk _ _ _ _ (by omega) cp)) (fun hq => ?_)
  obtain ⟨f, hf1, hf2⟩ := ho (Decidable.not_not.mp hq)
  refine lx_p hC lx_i9_ok 2 (c' := (556, [some (.ref 1000000), some (.ref 0), some (.ref 179), some (.ref 225), some (.int i), some (.int k0), some (.int b0)], [.int 0, .ref 225])) rfl ?_
  refine lx_n1 hC lx_i9_ok (am_n_lald rfl hf1 (by decide)) ?_
  refine lx_p hC lx_i9_ok 3 (c' := (561, [some (.ref 1000000), some (.ref 0), some (.ref 179), some (.ref 225), some (.int i), some (.int k0), some (.int b0)], [.int (lg_cmp (f 0) b0.toInt64)])) rfl ?_
  refine lx_b hC lx_i9_ok (q := (lg_cmp (f 0) b0.toInt64) = 0) rfl rfl (fun _ => ?_) (fun hq => absurd (by rw [hf2]; exact lo_cmp _) hq)
  refine lx_p hC lx_i9_ok 1 (c' := (982, [some (.ref 1000000), some (.ref 0), some (.ref 179), some (.ref 225), some (.int i), some (.int k0), some (.int b0)], [])) rfl ?_
  exact kk _ _ _ _ (by omega) cp
theorem lo_10 (hC : lx_C p l s m meth c b L xs D ca) {i : Int32} {kv bv : Option Value} {h : List va_E} {g : Nat} {P : List va_E → Prop} (hg : g + 1 ≤ 600000) (v1 : vp_in (i + 1) L) (v2 : vp_in (i + 2) L) (ho : opH (lx_K l s b D ca) ⟨"PaperParcelsLaw", "letters", "(LPaperParcels;II[J)I"⟩ method_8_code 5 [(0, 10, 13, 13), (0, 10, 17, 22)] 208 [.int (xs (i + 1).toNatClampNeg), .int (xs (i + 2).toNatClampNeg)] h P) (kk : ∀ h' k' b' g', g' ≤ g + 1 → P h' → lx_W p l e s m below meth c b D ca (982, [some (.ref 1000000), some (.ref 0), some (.ref 179), some (.ref 225), some (.int i), k', b'], [], h') g') : lx_W p l e s m below meth c b D ca (569, [some (.ref 1000000), some (.ref 0), some (.ref 179), some (.ref 225), some (.int i), kv, bv], [], h) g := by
  obtain ⟨k0, b0, h1, h2, h3, g1, hg1, ch, ⟨fs1, hm1⟩, c2, ⟨fs2, hm2⟩, c3, ho, cp⟩ := ho
  refine lx_p hC lx_i10_ok 5 (c' := (575, [some (.ref 1000000), some (.ref 0), some (.ref 179), some (.ref 225), some (.int i), kv, bv], [.int (i + 1), .ref 1000000, .ref 0])) rfl ?_
  refine lx_ld hC lx_i10_ok rfl v1 ?_
  refine lx_p hC lx_i10_ok 4 (c' := (581, [some (.ref 1000000), some (.ref 0), some (.ref 179), some (.ref 225), some (.int i), kv, bv], [.int (i + 2), .ref 1000000, .int (xs (i + 1).toNatClampNeg), .ref 0])) rfl ?_
  refine lx_ld hC lx_i10_ok rfl v2 ?_
  refine lx_p hC lx_i10_ok 1 (c' := (583, [some (.ref 1000000), some (.ref 0), some (.ref 179), some (.ref 225), some (.int i), kv, bv], [.ref 225, .int (xs (i + 2).toNatClampNeg), .int (xs (i + 1).toNatClampNeg), .ref 0])) rfl ?_
  refine lx_help hC lx_i10_ok (ix := 105) (n := 4) (maxL := 5) (y := ⟨"PaperParcelsLaw", "letters", "(LPaperParcels;II[J)I"⟩) (bytes := method_8_code) (hh := [(0, 10, 13, 13), (0, 10, 17, 22)]) rfl lo_w_letters.1 lo_w_ini lo_w_letters.2.1 lo_w_letters.2.2 ⟨by decide +kernel, by decide +kernel⟩ (by decide +kernel) (Nat.le_of_ble_eq_true rfl) rfl (by omega) ch ?_
  refine lx_p hC lx_i10_ok 6 (c' := (594, [some (.ref 1000000), some (.ref 0), some (.ref 179), some (.ref 225), some (.int i), some (.int k0), bv], [.int (i + 1), .ref 1000000, .ref 179])) rfl ?_
  refine lx_ld hC lx_i10_ok rfl v1 ?_
  refine lx_p hC lx_i10_ok 4 (c' := (600, [some (.ref 1000000), some (.ref 0), some (.ref 179), some (.ref 225), some (.int i), some (.int k0), bv], [.int (i + 2), .ref 1000000, .int (xs (i + 1).toNatClampNeg), .ref 179])) rfl ?_
  refine lx_ld hC lx_i10_ok rfl v2 ?_
  refine lx_call hC lx_i10_ok (am_site_v (ix := 107) (y := 208) (k := 3) (ci := 11) rfl rfl (am_rcv_v rfl hm1)) (Nat.le_of_ble_eq_true rfl) (Nat.le_of_ble_eq_true rfl) (by omega) c2 ?_
  refine lx_p hC lx_i10_ok 2 (c' := (607, [some (.ref 1000000), some (.ref 0), some (.ref 179), some (.ref 225), some (.int i), some (.int k0), some (.int b0)], [.ref 179])) rfl ?_
  refine lx_call hC lx_i10_ok (am_site_v (ix := 84) (y := 147) (k := 1) (ci := 11) rfl rfl (am_rcv_v rfl hm2)) (Nat.le_of_ble_eq_true rfl) (Nat.le_of_ble_eq_true rfl) (by omega) c3 ?_
  refine lx_p hC lx_i10_ok 1 (c' := (612, [some (.ref 1000000), some (.ref 0), some (.ref 179), some (.ref 225), some (.int i), some (.int k0), some (.int b0)], [.int k0, .int k0])) rfl ?_
  refine lx_b hC lx_i10_ok (q := k0 = k0) rfl rfl (fun _ => ?_) (fun hq => absurd rfl hq)
  refine lx_p hC lx_i10_ok 1 (c' := (619, [some (.ref 1000000), some (.ref 0), some (.ref 179), some (.ref 225), some (.int i), some (.int k0), some (.int b0)], [.int k0])) rfl ?_
  refine lx_b hC lx_i10_ok (q := ¬ k0 = 0) rfl rfl (fun _ => lx_p hC lx_i10_ok 1 (c' := (982, [some (.ref 1000000), some (.ref 0), some (.ref 179), some (.ref 225), some (.int i), some (.int k0), some (.int b0)], [])) rfl (kk _ _ _ _ (by omega) cp)) (fun hq => ?_)
  obtain ⟨f, hf1, hf2⟩ := ho (Decidable.not_not.mp hq)
  refine lx_p hC lx_i10_ok 2 (c' := (624, [some (.ref 1000000), some (.ref 0), some (.ref 179), some (.ref 225), some (.int i), some (.int k0), some (.int b0)], [.int 0, .ref 225])) rfl ?_
  refine lx_n1 hC lx_i10_ok (am_n_lald rfl hf1 (by decide)) ?_
  refine lx_p hC lx_i10_ok 3 (c' := (629, [some (.ref 1000000), some (.ref 0), some (.ref 179), some (.ref 225), some (.int i), some (.int k0), some (.int b0)], [.int (lg_cmp (f 0) b0.toInt64)])) rfl ?_
  refine lx_b hC lx_i10_ok (q := (lg_cmp (f 0) b0.toInt64) = 0) rfl rfl (fun _ => ?_) (fun hq => absurd (by rw [hf2]; exact lo_cmp _) hq)
  refine lx_p hC lx_i10_ok 1 (c' := (982, [some (.ref 1000000), some (.ref 0), some (.ref 179), some (.ref 225), some (.int i), some (.int k0), some (.int b0)], [])) rfl ?_
  exact kk _ _ _ _ (by omega) cp
theorem lo_11 (hC : lx_C p l s m meth c b L xs D ca) {i : Int32} {kv bv : Option Value} {h : List va_E} {g : Nat} {P : List va_E → Prop} (hg : g + 1 ≤ 600000) (v1 : vp_in (i + 1) L) (v2 : vp_in (i + 2) L) (v3 : vp_in (i + 3) L) (ho : opH (lx_K l s b D ca) ⟨"PaperParcelsLaw", "letter", "(LPaperParcels;III[J)I"⟩ method_9_code 6 [(0, 12, 15, 13), (0, 12, 19, 22)] 209 [.int (xs (i + 1).toNatClampNeg), .int (xs (i + 2).toNatClampNeg), .int (xs (i + 3).toNatClampNeg)] h P) (kk : ∀ h' k' b' g', g' ≤ g + 1 → P h' → lx_W p l e s m below meth c b D ca (982, [some (.ref 1000000), some (.ref 0), some (.ref 179), some (.ref 225), some (.int i), k', b'], [], h') g') : lx_W p l e s m below meth c b D ca (637, [some (.ref 1000000), some (.ref 0), some (.ref 179), some (.ref 225), some (.int i), kv, bv], [], h) g := by
  obtain ⟨k0, b0, h1, h2, h3, g1, hg1, ch, ⟨fs1, hm1⟩, c2, ⟨fs2, hm2⟩, c3, ho, cp⟩ := ho
  refine lx_p hC lx_i11_ok 5 (c' := (643, [some (.ref 1000000), some (.ref 0), some (.ref 179), some (.ref 225), some (.int i), kv, bv], [.int (i + 1), .ref 1000000, .ref 0])) rfl ?_
  refine lx_ld hC lx_i11_ok rfl v1 ?_
  refine lx_p hC lx_i11_ok 4 (c' := (649, [some (.ref 1000000), some (.ref 0), some (.ref 179), some (.ref 225), some (.int i), kv, bv], [.int (i + 2), .ref 1000000, .int (xs (i + 1).toNatClampNeg), .ref 0])) rfl ?_
  refine lx_ld hC lx_i11_ok rfl v2 ?_
  refine lx_p hC lx_i11_ok 4 (c' := (655, [some (.ref 1000000), some (.ref 0), some (.ref 179), some (.ref 225), some (.int i), kv, bv], [.int (i + 3), .ref 1000000, .int (xs (i + 2).toNatClampNeg), .int (xs (i + 1).toNatClampNeg), .ref 0])) rfl ?_
  refine lx_ld hC lx_i11_ok rfl v3 ?_
  refine lx_p hC lx_i11_ok 1 (c' := (657, [some (.ref 1000000), some (.ref 0), some (.ref 179), some (.ref 225), some (.int i), kv, bv], [.ref 225, .int (xs (i + 3).toNatClampNeg), .int (xs (i + 2).toNatClampNeg), .int (xs (i + 1).toNatClampNeg), .ref 0])) rfl ?_
  refine lx_help hC lx_i11_ok (ix := 108) (n := 5) (maxL := 6) (y := ⟨"PaperParcelsLaw", "letter", "(LPaperParcels;III[J)I"⟩) (bytes := method_9_code) (hh := [(0, 12, 15, 13), (0, 12, 19, 22)]) rfl lo_w_letter.1 lo_w_ini lo_w_letter.2.1 lo_w_letter.2.2 ⟨by decide +kernel, by decide +kernel⟩ (by decide +kernel) (Nat.le_of_ble_eq_true rfl) rfl (by omega) ch ?_
  refine lx_p hC lx_i11_ok 6 (c' := (668, [some (.ref 1000000), some (.ref 0), some (.ref 179), some (.ref 225), some (.int i), some (.int k0), bv], [.int (i + 1), .ref 1000000, .ref 179])) rfl ?_
  refine lx_ld hC lx_i11_ok rfl v1 ?_
  refine lx_p hC lx_i11_ok 4 (c' := (674, [some (.ref 1000000), some (.ref 0), some (.ref 179), some (.ref 225), some (.int i), some (.int k0), bv], [.int (i + 2), .ref 1000000, .int (xs (i + 1).toNatClampNeg), .ref 179])) rfl ?_
  refine lx_ld hC lx_i11_ok rfl v2 ?_
  refine lx_p hC lx_i11_ok 4 (c' := (680, [some (.ref 1000000), some (.ref 0), some (.ref 179), some (.ref 225), some (.int i), some (.int k0), bv], [.int (i + 3), .ref 1000000, .int (xs (i + 2).toNatClampNeg), .int (xs (i + 1).toNatClampNeg), .ref 179])) rfl ?_
  refine lx_ld hC lx_i11_ok rfl v3 ?_
  refine lx_call hC lx_i11_ok (am_site_v (ix := 110) (y := 209) (k := 4) (ci := 11) rfl rfl (am_rcv_v rfl hm1)) (Nat.le_of_ble_eq_true rfl) (Nat.le_of_ble_eq_true rfl) (by omega) c2 ?_
  refine lx_p hC lx_i11_ok 2 (c' := (687, [some (.ref 1000000), some (.ref 0), some (.ref 179), some (.ref 225), some (.int i), some (.int k0), some (.int b0)], [.ref 179])) rfl ?_
  refine lx_call hC lx_i11_ok (am_site_v (ix := 84) (y := 147) (k := 1) (ci := 11) rfl rfl (am_rcv_v rfl hm2)) (Nat.le_of_ble_eq_true rfl) (Nat.le_of_ble_eq_true rfl) (by omega) c3 ?_
  refine lx_p hC lx_i11_ok 1 (c' := (692, [some (.ref 1000000), some (.ref 0), some (.ref 179), some (.ref 225), some (.int i), some (.int k0), some (.int b0)], [.int k0, .int k0])) rfl ?_
  refine lx_b hC lx_i11_ok (q := k0 = k0) rfl rfl (fun _ => ?_) (fun hq => absurd rfl hq)
  refine lx_p hC lx_i11_ok 1 (c' := (699, [some (.ref 1000000), some (.ref 0), some (.ref 179), some (.ref 225), some (.int i), some (.int k0), some (.int b0)], [.int k0])) rfl ?_
  refine lx_b hC lx_i11_ok (q := ¬ k0 = 0) rfl rfl (fun _ => lx_p hC lx_i11_ok 1 (c' := (982, [some (.ref 1000000), some (.ref 0), some (.ref 179), some (.ref 225), some (.int i), some (.int k0), some (.int b0)], [])) rfl (kk _ _ _ _ (by omega) cp)) (fun hq => ?_)
  obtain ⟨f, hf1, hf2⟩ := ho (Decidable.not_not.mp hq)
  refine lx_p hC lx_i11_ok 2 (c' := (704, [some (.ref 1000000), some (.ref 0), some (.ref 179), some (.ref 225), some (.int i), some (.int k0), some (.int b0)], [.int 0, .ref 225])) rfl ?_
  refine lx_n1 hC lx_i11_ok (am_n_lald rfl hf1 (by decide)) ?_
  refine lx_p hC lx_i11_ok 3 (c' := (709, [some (.ref 1000000), some (.ref 0), some (.ref 179), some (.ref 225), some (.int i), some (.int k0), some (.int b0)], [.int (lg_cmp (f 0) b0.toInt64)])) rfl ?_
  refine lx_b hC lx_i11_ok (q := (lg_cmp (f 0) b0.toInt64) = 0) rfl rfl (fun _ => ?_) (fun hq => absurd (by rw [hf2]; exact lo_cmp _) hq)
  refine lx_p hC lx_i11_ok 1 (c' := (982, [some (.ref 1000000), some (.ref 0), some (.ref 179), some (.ref 225), some (.int i), some (.int k0), some (.int b0)], [])) rfl ?_
  exact kk _ _ _ _ (by omega) cp
theorem lo_12 (hC : lx_C p l s m meth c b L xs D ca) {i : Int32} {kv bv : Option Value} {h : List va_E} {g : Nat} {P : List va_E → Prop} (hg : g + 1 ≤ 600000)  (ho : opH (lx_K l s b D ca) ⟨"PaperParcelsLaw", "compare", "(LPaperParcels;[J)I"⟩ method_10_code 3 [(0, 8, 11, 41)] 210 [] h P) (kk : ∀ h' k' b' g', g' ≤ g + 1 → P h' → lx_W p l e s m below meth c b D ca (982, [some (.ref 1000000), some (.ref 0), some (.ref 179), some (.ref 225), some (.int i), k', b'], [], h') g') : lx_W p l e s m below meth c b D ca (717, [some (.ref 1000000), some (.ref 0), some (.ref 179), some (.ref 225), some (.int i), kv, bv], [], h) g := by
  obtain ⟨k0, b0, h1, h2, h3, g1, hg1, ch, ⟨fs1, hm1⟩, c2, ⟨fs2, hm2⟩, c3, ho, cp⟩ := ho
  refine lx_p hC lx_i12_ok 2 (c' := (719, [some (.ref 1000000), some (.ref 0), some (.ref 179), some (.ref 225), some (.int i), kv, bv], [.ref 225, .ref 0])) rfl ?_
  refine lx_help hC lx_i12_ok (ix := 111) (n := 2) (maxL := 3) (y := ⟨"PaperParcelsLaw", "compare", "(LPaperParcels;[J)I"⟩) (bytes := method_10_code) (hh := [(0, 8, 11, 41)]) rfl lo_w_compare.1 lo_w_ini lo_w_compare.2.1 lo_w_compare.2.2 ⟨by decide +kernel, by decide +kernel⟩ (by decide +kernel) (Nat.le_of_ble_eq_true rfl) rfl (by omega) ch ?_
  refine lx_p hC lx_i12_ok 2 (c' := (725, [some (.ref 1000000), some (.ref 0), some (.ref 179), some (.ref 225), some (.int i), some (.int k0), bv], [.ref 179])) rfl ?_
  refine lx_call hC lx_i12_ok (am_site_v (ix := 114) (y := 210) (k := 1) (ci := 11) rfl rfl (am_rcv_v rfl hm1)) (Nat.le_of_ble_eq_true rfl) (Nat.le_of_ble_eq_true rfl) (by omega) c2 ?_
  refine lx_p hC lx_i12_ok 2 (c' := (731, [some (.ref 1000000), some (.ref 0), some (.ref 179), some (.ref 225), some (.int i), some (.int k0), some (.int b0)], [.ref 179])) rfl ?_
  refine lx_call hC lx_i12_ok (am_site_v (ix := 84) (y := 147) (k := 1) (ci := 11) rfl rfl (am_rcv_v rfl hm2)) (Nat.le_of_ble_eq_true rfl) (Nat.le_of_ble_eq_true rfl) (by omega) c3 ?_
  refine lx_p hC lx_i12_ok 1 (c' := (736, [some (.ref 1000000), some (.ref 0), some (.ref 179), some (.ref 225), some (.int i), some (.int k0), some (.int b0)], [.int k0, .int k0])) rfl ?_
  refine lx_b hC lx_i12_ok (q := k0 = k0) rfl rfl (fun _ => ?_) (fun hq => absurd rfl hq)
  refine lx_p hC lx_i12_ok 1 (c' := (743, [some (.ref 1000000), some (.ref 0), some (.ref 179), some (.ref 225), some (.int i), some (.int k0), some (.int b0)], [.int k0])) rfl ?_
  refine lx_b hC lx_i12_ok (q := ¬ k0 = 0) rfl rfl (fun _ => lx_p hC lx_i12_ok 1 (c' := (982, [some (.ref 1000000), some (.ref 0), some (.ref 179), some (.ref 225), some (.int i), some (.int k0), some (.int b0)], [])) rfl (kk _ _ _ _ (by omega) cp)) (fun hq => ?_)
  obtain ⟨f, hf1, hf2⟩ := ho (Decidable.not_not.mp hq)
  refine lx_p hC lx_i12_ok 2 (c' := (748, [some (.ref 1000000), some (.ref 0), some (.ref 179), some (.ref 225), some (.int i), some (.int k0), some (.int b0)], [.int 0, .ref 225])) rfl ?_
  refine lx_n1 hC lx_i12_ok (am_n_lald rfl hf1 (by decide)) ?_
  refine lx_p hC lx_i12_ok 3 (c' := (753, [some (.ref 1000000), some (.ref 0), some (.ref 179), some (.ref 225), some (.int i), some (.int k0), some (.int b0)], [.int (lg_cmp (f 0) b0.toInt64)])) rfl ?_
  refine lx_b hC lx_i12_ok (q := (lg_cmp (f 0) b0.toInt64) = 0) rfl rfl (fun _ => ?_) (fun hq => absurd (by rw [hf2]; exact lo_cmp _) hq)
  refine lx_p hC lx_i12_ok 1 (c' := (982, [some (.ref 1000000), some (.ref 0), some (.ref 179), some (.ref 225), some (.int i), some (.int k0), some (.int b0)], [])) rfl ?_
  exact kk _ _ _ _ (by omega) cp
theorem lo_13 (hC : lx_C p l s m meth c b L xs D ca) {i : Int32} {kv bv : Option Value} {h : List va_E} {g : Nat} {P : List va_E → Prop} (hg : g + 1 ≤ 600000)  (ho : op2 (lx_K l s b D ca) 20 220 [] h P) (kk : ∀ h', P h' → lx_W p l e s m below meth c b D ca (982, [some (.ref 1000000), some (.ref 0), some (.ref 179), some (.ref 225), some (.int i), kv, bv], [], h') g) : lx_W p l e s m below meth c b D ca (761, [some (.ref 1000000), some (.ref 0), some (.ref 179), some (.ref 225), some (.int i), kv, bv], [], h) g := by
  obtain ⟨⟨fs, hcc⟩, r, h1, h2, c1, ⟨fs1, hm1⟩, c2, cp⟩ := ho
  refine lx_p hC lx_i13_ok 1 (c' := (762, [some (.ref 1000000), some (.ref 0), some (.ref 179), some (.ref 225), some (.int i), kv, bv], [.ref 0])) rfl ?_
  refine lx_call hC lx_i13_ok (am_site_v (ix := 115) (y := 20) (k := 1) (ci := 0) rfl rfl (am_rcv_v rfl hcc)) (Nat.le_of_ble_eq_true rfl) (Nat.le_of_ble_eq_true rfl) (by omega) c1 ?_
  refine lx_p hC lx_i13_ok 1 (c' := (766, [some (.ref 1000000), some (.ref 0), some (.ref 179), some (.ref 225), some (.int i), kv, bv], [.ref 179, .int r])) rfl ?_
  refine lx_call hC lx_i13_ok (am_site_v (ix := 118) (y := 220) (k := 1) (ci := 11) rfl rfl (am_rcv_v rfl hm1)) (Nat.le_of_ble_eq_true rfl) (Nat.le_of_ble_eq_true rfl) (by omega) c2 ?_
  refine lx_b hC lx_i13_ok (q := r = r) rfl rfl (fun _ => ?_) (fun hq => absurd rfl hq)
  exact kk _ cp
theorem lo_14 (hC : lx_C p l s m meth c b L xs D ca) {i : Int32} {kv bv : Option Value} {h : List va_E} {g : Nat} {P : List va_E → Prop} (hg : g + 1 ≤ 600000) (v1 : vp_in (i + 1) L) (v2 : vp_in (i + 2) L) (ho : ∀ bb : Int32, (bb = 0 ∨ bb = 1) → opH (lx_K l s b D ca) ⟨"PaperParcelsLaw", "step", "(LPaperParcels;IZ[J)I"⟩ method_11_code 5 [(0, 10, 13, 22)] 221 [.int (xs (i + 1).toNatClampNeg), .int bb] h P) (kk : ∀ h' k' b' g', g' ≤ g + 1 → P h' → lx_W p l e s m below meth c b D ca (982, [some (.ref 1000000), some (.ref 0), some (.ref 179), some (.ref 225), some (.int i), k', b'], [], h') g') : lx_W p l e s m below meth c b D ca (774, [some (.ref 1000000), some (.ref 0), some (.ref 179), some (.ref 225), some (.int i), kv, bv], [], h) g := by
  by_cases hz : xs (i + 2).toNatClampNeg = 0
  · obtain ⟨k0, b0, h1, h2, h3, g1, hg1, ch, ⟨fs1, hm1⟩, c2, ⟨fs2, hm2⟩, c3, ho, cp⟩ := ho 0 (Or.inl rfl)
    refine lx_p hC lx_i14_ok 5 (c' := (780, [some (.ref 1000000), some (.ref 0), some (.ref 179), some (.ref 225), some (.int i), kv, bv], [.int (i + 1), .ref 1000000, .ref 0])) rfl ?_
    refine lx_ld hC lx_i14_ok rfl v1 ?_
    refine lx_p hC lx_i14_ok 4 (c' := (786, [some (.ref 1000000), some (.ref 0), some (.ref 179), some (.ref 225), some (.int i), kv, bv], [.int (i + 2), .ref 1000000, .int (xs (i + 1).toNatClampNeg), .ref 0])) rfl ?_
    refine lx_ld hC lx_i14_ok rfl v2 ?_
    refine lx_b hC lx_i14_ok (q := (xs (i + 2).toNatClampNeg) = 0) rfl rfl (fun _ => ?_) (fun hq => absurd hz hq)
    refine lx_p hC lx_i14_ok 2 (c' := (796, [some (.ref 1000000), some (.ref 0), some (.ref 179), some (.ref 225), some (.int i), kv, bv], [.ref 225, .int 0, .int (xs (i + 1).toNatClampNeg), .ref 0])) rfl ?_
    refine lx_help hC lx_i14_ok (ix := 119) (n := 4) (maxL := 5) (y := ⟨"PaperParcelsLaw", "step", "(LPaperParcels;IZ[J)I"⟩) (bytes := method_11_code) (hh := [(0, 10, 13, 22)]) rfl lo_w_step.1 lo_w_ini lo_w_step.2.1 lo_w_step.2.2 ⟨by decide +kernel, by decide +kernel⟩ (by decide +kernel) (Nat.le_of_ble_eq_true rfl) rfl (by omega) ch ?_
    refine lx_p hC lx_i14_ok 6 (c' := (807, [some (.ref 1000000), some (.ref 0), some (.ref 179), some (.ref 225), some (.int i), some (.int k0), bv], [.int (i + 1), .ref 1000000, .ref 179])) rfl ?_
    refine lx_ld hC lx_i14_ok rfl v1 ?_
    refine lx_p hC lx_i14_ok 4 (c' := (813, [some (.ref 1000000), some (.ref 0), some (.ref 179), some (.ref 225), some (.int i), some (.int k0), bv], [.int (i + 2), .ref 1000000, .int (xs (i + 1).toNatClampNeg), .ref 179])) rfl ?_
    refine lx_ld hC lx_i14_ok rfl v2 ?_
    refine lx_b hC lx_i14_ok (q := (xs (i + 2).toNatClampNeg) = 0) rfl rfl (fun _ => ?_) (fun hq => absurd hz hq)
    refine lx_p hC lx_i14_ok 1 (c' := (822, [some (.ref 1000000), some (.ref 0), some (.ref 179), some (.ref 225), some (.int i), some (.int k0), bv], [.int 0, .int (xs (i + 1).toNatClampNeg), .ref 179])) rfl ?_
    refine lx_call hC lx_i14_ok (am_site_v (ix := 122) (y := 221) (k := 3) (ci := 11) rfl rfl (am_rcv_v rfl hm1)) (Nat.le_of_ble_eq_true rfl) (Nat.le_of_ble_eq_true rfl) (by omega) c2 ?_
    refine lx_p hC lx_i14_ok 2 (c' := (828, [some (.ref 1000000), some (.ref 0), some (.ref 179), some (.ref 225), some (.int i), some (.int k0), some (.int b0)], [.ref 179])) rfl ?_
    refine lx_call hC lx_i14_ok (am_site_v (ix := 84) (y := 147) (k := 1) (ci := 11) rfl rfl (am_rcv_v rfl hm2)) (Nat.le_of_ble_eq_true rfl) (Nat.le_of_ble_eq_true rfl) (by omega) c3 ?_
    refine lx_p hC lx_i14_ok 1 (c' := (833, [some (.ref 1000000), some (.ref 0), some (.ref 179), some (.ref 225), some (.int i), some (.int k0), some (.int b0)], [.int k0, .int k0])) rfl ?_
    refine lx_b hC lx_i14_ok (q := k0 = k0) rfl rfl (fun _ => ?_) (fun hq => absurd rfl hq)
    refine lx_p hC lx_i14_ok 1 (c' := (840, [some (.ref 1000000), some (.ref 0), some (.ref 179), some (.ref 225), some (.int i), some (.int k0), some (.int b0)], [.int k0])) rfl ?_
    refine lx_b hC lx_i14_ok (q := ¬ k0 = 0) rfl rfl (fun _ => lx_p hC lx_i14_ok 1 (c' := (982, [some (.ref 1000000), some (.ref 0), some (.ref 179), some (.ref 225), some (.int i), some (.int k0), some (.int b0)], [])) rfl (kk _ _ _ _ (by omega) cp)) (fun hq => ?_)
    obtain ⟨f, hf1, hf2⟩ := ho (Decidable.not_not.mp hq)
    refine lx_p hC lx_i14_ok 2 (c' := (845, [some (.ref 1000000), some (.ref 0), some (.ref 179), some (.ref 225), some (.int i), some (.int k0), some (.int b0)], [.int 0, .ref 225])) rfl ?_
    refine lx_n1 hC lx_i14_ok (am_n_lald rfl hf1 (by decide)) ?_
    refine lx_p hC lx_i14_ok 3 (c' := (850, [some (.ref 1000000), some (.ref 0), some (.ref 179), some (.ref 225), some (.int i), some (.int k0), some (.int b0)], [.int (lg_cmp (f 0) b0.toInt64)])) rfl ?_
    refine lx_b hC lx_i14_ok (q := (lg_cmp (f 0) b0.toInt64) = 0) rfl rfl (fun _ => ?_) (fun hq => absurd (by rw [hf2]; exact lo_cmp _) hq)
    refine lx_p hC lx_i14_ok 1 (c' := (982, [some (.ref 1000000), some (.ref 0), some (.ref 179), some (.ref 225), some (.int i), some (.int k0), some (.int b0)], [])) rfl ?_
    exact kk _ _ _ _ (by omega) cp
  · obtain ⟨k0, b0, h1, h2, h3, g1, hg1, ch, ⟨fs1, hm1⟩, c2, ⟨fs2, hm2⟩, c3, ho, cp⟩ := ho 1 (Or.inr rfl)
    refine lx_p hC lx_i14_ok 5 (c' := (780, [some (.ref 1000000), some (.ref 0), some (.ref 179), some (.ref 225), some (.int i), kv, bv], [.int (i + 1), .ref 1000000, .ref 0])) rfl ?_
    refine lx_ld hC lx_i14_ok rfl v1 ?_
    refine lx_p hC lx_i14_ok 4 (c' := (786, [some (.ref 1000000), some (.ref 0), some (.ref 179), some (.ref 225), some (.int i), kv, bv], [.int (i + 2), .ref 1000000, .int (xs (i + 1).toNatClampNeg), .ref 0])) rfl ?_
    refine lx_ld hC lx_i14_ok rfl v2 ?_
    refine lx_b hC lx_i14_ok (q := (xs (i + 2).toNatClampNeg) = 0) rfl rfl (fun hq => absurd hq hz) (fun _ => ?_)
    refine lx_p hC lx_i14_ok 3 (c' := (796, [some (.ref 1000000), some (.ref 0), some (.ref 179), some (.ref 225), some (.int i), kv, bv], [.ref 225, .int 1, .int (xs (i + 1).toNatClampNeg), .ref 0])) rfl ?_
    refine lx_help hC lx_i14_ok (ix := 119) (n := 4) (maxL := 5) (y := ⟨"PaperParcelsLaw", "step", "(LPaperParcels;IZ[J)I"⟩) (bytes := method_11_code) (hh := [(0, 10, 13, 22)]) rfl lo_w_step.1 lo_w_ini lo_w_step.2.1 lo_w_step.2.2 ⟨by decide +kernel, by decide +kernel⟩ (by decide +kernel) (Nat.le_of_ble_eq_true rfl) rfl (by omega) ch ?_
    refine lx_p hC lx_i14_ok 6 (c' := (807, [some (.ref 1000000), some (.ref 0), some (.ref 179), some (.ref 225), some (.int i), some (.int k0), bv], [.int (i + 1), .ref 1000000, .ref 179])) rfl ?_
    refine lx_ld hC lx_i14_ok rfl v1 ?_
    refine lx_p hC lx_i14_ok 4 (c' := (813, [some (.ref 1000000), some (.ref 0), some (.ref 179), some (.ref 225), some (.int i), some (.int k0), bv], [.int (i + 2), .ref 1000000, .int (xs (i + 1).toNatClampNeg), .ref 179])) rfl ?_
    refine lx_ld hC lx_i14_ok rfl v2 ?_
    refine lx_b hC lx_i14_ok (q := (xs (i + 2).toNatClampNeg) = 0) rfl rfl (fun hq => absurd hq hz) (fun _ => ?_)
    refine lx_p hC lx_i14_ok 2 (c' := (822, [some (.ref 1000000), some (.ref 0), some (.ref 179), some (.ref 225), some (.int i), some (.int k0), bv], [.int 1, .int (xs (i + 1).toNatClampNeg), .ref 179])) rfl ?_
    refine lx_call hC lx_i14_ok (am_site_v (ix := 122) (y := 221) (k := 3) (ci := 11) rfl rfl (am_rcv_v rfl hm1)) (Nat.le_of_ble_eq_true rfl) (Nat.le_of_ble_eq_true rfl) (by omega) c2 ?_
    refine lx_p hC lx_i14_ok 2 (c' := (828, [some (.ref 1000000), some (.ref 0), some (.ref 179), some (.ref 225), some (.int i), some (.int k0), some (.int b0)], [.ref 179])) rfl ?_
    refine lx_call hC lx_i14_ok (am_site_v (ix := 84) (y := 147) (k := 1) (ci := 11) rfl rfl (am_rcv_v rfl hm2)) (Nat.le_of_ble_eq_true rfl) (Nat.le_of_ble_eq_true rfl) (by omega) c3 ?_
    refine lx_p hC lx_i14_ok 1 (c' := (833, [some (.ref 1000000), some (.ref 0), some (.ref 179), some (.ref 225), some (.int i), some (.int k0), some (.int b0)], [.int k0, .int k0])) rfl ?_
    refine lx_b hC lx_i14_ok (q := k0 = k0) rfl rfl (fun _ => ?_) (fun hq => absurd rfl hq)
    refine lx_p hC lx_i14_ok 1 (c' := (840, [some (.ref 1000000), some (.ref 0), some (.ref 179), some (.ref 225), some (.int i), some (.int k0), some (.int b0)], [.int k0])) rfl ?_
    refine lx_b hC lx_i14_ok (q := ¬ k0 = 0) rfl rfl (fun _ => lx_p hC lx_i14_ok 1 (c' := (982, [some (.ref 1000000), some (.ref 0), some (.ref 179), some (.ref 225), some (.int i), some (.int k0), some (.int b0)], [])) rfl (kk _ _ _ _ (by omega) cp)) (fun hq => ?_)
    obtain ⟨f, hf1, hf2⟩ := ho (Decidable.not_not.mp hq)
    refine lx_p hC lx_i14_ok 2 (c' := (845, [some (.ref 1000000), some (.ref 0), some (.ref 179), some (.ref 225), some (.int i), some (.int k0), some (.int b0)], [.int 0, .ref 225])) rfl ?_
    refine lx_n1 hC lx_i14_ok (am_n_lald rfl hf1 (by decide)) ?_
    refine lx_p hC lx_i14_ok 3 (c' := (850, [some (.ref 1000000), some (.ref 0), some (.ref 179), some (.ref 225), some (.int i), some (.int k0), some (.int b0)], [.int (lg_cmp (f 0) b0.toInt64)])) rfl ?_
    refine lx_b hC lx_i14_ok (q := (lg_cmp (f 0) b0.toInt64) = 0) rfl rfl (fun _ => ?_) (fun hq => absurd (by rw [hf2]; exact lo_cmp _) hq)
    refine lx_p hC lx_i14_ok 1 (c' := (982, [some (.ref 1000000), some (.ref 0), some (.ref 179), some (.ref 225), some (.int i), some (.int k0), some (.int b0)], [])) rfl ?_
    exact kk _ _ _ _ (by omega) cp
theorem lo_15 (hC : lx_C p l s m meth c b L xs D ca) {i : Int32} {kv bv : Option Value} {h : List va_E} {g : Nat} {P : List va_E → Prop} (hg : g + 1 ≤ 600000) (v1 : vp_in (i + 1) L) (ho : opH (lx_K l s b D ca) ⟨"PaperParcelsLaw", "apply", "(LPaperParcels;I[J)I"⟩ method_12_code 4 [(0, 9, 12, 41), (0, 9, 15, 13)] 222 [.int (xs (i + 1).toNatClampNeg)] h P) (kk : ∀ h' k' b' g', g' ≤ g + 1 → P h' → lx_W p l e s m below meth c b D ca (982, [some (.ref 1000000), some (.ref 0), some (.ref 179), some (.ref 225), some (.int i), k', b'], [], h') g') : lx_W p l e s m below meth c b D ca (858, [some (.ref 1000000), some (.ref 0), some (.ref 179), some (.ref 225), some (.int i), kv, bv], [], h) g := by
  obtain ⟨k0, b0, h1, h2, h3, g1, hg1, ch, ⟨fs1, hm1⟩, c2, ⟨fs2, hm2⟩, c3, ho, cp⟩ := ho
  refine lx_p hC lx_i15_ok 5 (c' := (864, [some (.ref 1000000), some (.ref 0), some (.ref 179), some (.ref 225), some (.int i), kv, bv], [.int (i + 1), .ref 1000000, .ref 0])) rfl ?_
  refine lx_ld hC lx_i15_ok rfl v1 ?_
  refine lx_p hC lx_i15_ok 1 (c' := (866, [some (.ref 1000000), some (.ref 0), some (.ref 179), some (.ref 225), some (.int i), kv, bv], [.ref 225, .int (xs (i + 1).toNatClampNeg), .ref 0])) rfl ?_
  refine lx_help hC lx_i15_ok (ix := 123) (n := 3) (maxL := 4) (y := ⟨"PaperParcelsLaw", "apply", "(LPaperParcels;I[J)I"⟩) (bytes := method_12_code) (hh := [(0, 9, 12, 41), (0, 9, 15, 13)]) rfl lo_w_apply.1 lo_w_ini lo_w_apply.2.1 lo_w_apply.2.2 ⟨by decide +kernel, by decide +kernel⟩ (by decide +kernel) (Nat.le_of_ble_eq_true rfl) rfl (by omega) ch ?_
  refine lx_p hC lx_i15_ok 6 (c' := (877, [some (.ref 1000000), some (.ref 0), some (.ref 179), some (.ref 225), some (.int i), some (.int k0), bv], [.int (i + 1), .ref 1000000, .ref 179])) rfl ?_
  refine lx_ld hC lx_i15_ok rfl v1 ?_
  refine lx_call hC lx_i15_ok (am_site_v (ix := 125) (y := 222) (k := 2) (ci := 11) rfl rfl (am_rcv_v rfl hm1)) (Nat.le_of_ble_eq_true rfl) (Nat.le_of_ble_eq_true rfl) (by omega) c2 ?_
  refine lx_p hC lx_i15_ok 2 (c' := (884, [some (.ref 1000000), some (.ref 0), some (.ref 179), some (.ref 225), some (.int i), some (.int k0), some (.int b0)], [.ref 179])) rfl ?_
  refine lx_call hC lx_i15_ok (am_site_v (ix := 84) (y := 147) (k := 1) (ci := 11) rfl rfl (am_rcv_v rfl hm2)) (Nat.le_of_ble_eq_true rfl) (Nat.le_of_ble_eq_true rfl) (by omega) c3 ?_
  refine lx_p hC lx_i15_ok 1 (c' := (889, [some (.ref 1000000), some (.ref 0), some (.ref 179), some (.ref 225), some (.int i), some (.int k0), some (.int b0)], [.int k0, .int k0])) rfl ?_
  refine lx_b hC lx_i15_ok (q := k0 = k0) rfl rfl (fun _ => ?_) (fun hq => absurd rfl hq)
  refine lx_p hC lx_i15_ok 1 (c' := (896, [some (.ref 1000000), some (.ref 0), some (.ref 179), some (.ref 225), some (.int i), some (.int k0), some (.int b0)], [.int k0])) rfl ?_
  refine lx_b hC lx_i15_ok (q := ¬ k0 = 0) rfl rfl (fun _ => lx_p hC lx_i15_ok 1 (c' := (982, [some (.ref 1000000), some (.ref 0), some (.ref 179), some (.ref 225), some (.int i), some (.int k0), some (.int b0)], [])) rfl (kk _ _ _ _ (by omega) cp)) (fun hq => ?_)
  obtain ⟨f, hf1, hf2⟩ := ho (Decidable.not_not.mp hq)
  refine lx_p hC lx_i15_ok 2 (c' := (901, [some (.ref 1000000), some (.ref 0), some (.ref 179), some (.ref 225), some (.int i), some (.int k0), some (.int b0)], [.int 0, .ref 225])) rfl ?_
  refine lx_n1 hC lx_i15_ok (am_n_lald rfl hf1 (by decide)) ?_
  refine lx_p hC lx_i15_ok 3 (c' := (906, [some (.ref 1000000), some (.ref 0), some (.ref 179), some (.ref 225), some (.int i), some (.int k0), some (.int b0)], [.int (lg_cmp (f 0) b0.toInt64)])) rfl ?_
  refine lx_b hC lx_i15_ok (q := (lg_cmp (f 0) b0.toInt64) = 0) rfl rfl (fun _ => ?_) (fun hq => absurd (by rw [hf2]; exact lo_cmp _) hq)
  refine lx_p hC lx_i15_ok 1 (c' := (982, [some (.ref 1000000), some (.ref 0), some (.ref 179), some (.ref 225), some (.int i), some (.int k0), some (.int b0)], [])) rfl ?_
  exact kk _ _ _ _ (by omega) cp
theorem lo_16 (hC : lx_C p l s m meth c b L xs D ca) {i : Int32} {kv bv : Option Value} {h : List va_E} {g : Nat} {P : List va_E → Prop} (hg : g + 1 ≤ 600000) (v1 : vp_in (i + 1) L) (v2 : vp_in (i + 2) L) (ho : opH (lx_K l s b D ca) ⟨"PaperParcelsLaw", "emit", "(LPaperParcels;II[J)I"⟩ method_13_code 5 [(0, 10, 13, 13), (0, 10, 17, 41), (0, 10, 21, 53)] 227 [.int (xs (i + 1).toNatClampNeg), .int (xs (i + 2).toNatClampNeg)] h P) (kk : ∀ h' k' b' g', g' ≤ g + 1 → P h' → lx_W p l e s m below meth c b D ca (982, [some (.ref 1000000), some (.ref 0), some (.ref 179), some (.ref 225), some (.int i), k', b'], [], h') g') : lx_W p l e s m below meth c b D ca (914, [some (.ref 1000000), some (.ref 0), some (.ref 179), some (.ref 225), some (.int i), kv, bv], [], h) g := by
  obtain ⟨k0, b0, h1, h2, h3, g1, hg1, ch, ⟨fs1, hm1⟩, c2, ⟨fs2, hm2⟩, c3, ho, cp⟩ := ho
  refine lx_p hC lx_i16_ok 5 (c' := (920, [some (.ref 1000000), some (.ref 0), some (.ref 179), some (.ref 225), some (.int i), kv, bv], [.int (i + 1), .ref 1000000, .ref 0])) rfl ?_
  refine lx_ld hC lx_i16_ok rfl v1 ?_
  refine lx_p hC lx_i16_ok 4 (c' := (926, [some (.ref 1000000), some (.ref 0), some (.ref 179), some (.ref 225), some (.int i), kv, bv], [.int (i + 2), .ref 1000000, .int (xs (i + 1).toNatClampNeg), .ref 0])) rfl ?_
  refine lx_ld hC lx_i16_ok rfl v2 ?_
  refine lx_p hC lx_i16_ok 1 (c' := (928, [some (.ref 1000000), some (.ref 0), some (.ref 179), some (.ref 225), some (.int i), kv, bv], [.ref 225, .int (xs (i + 2).toNatClampNeg), .int (xs (i + 1).toNatClampNeg), .ref 0])) rfl ?_
  refine lx_help hC lx_i16_ok (ix := 126) (n := 4) (maxL := 5) (y := ⟨"PaperParcelsLaw", "emit", "(LPaperParcels;II[J)I"⟩) (bytes := method_13_code) (hh := [(0, 10, 13, 13), (0, 10, 17, 41), (0, 10, 21, 53)]) rfl lo_w_emit.1 lo_w_ini lo_w_emit.2.1 lo_w_emit.2.2 ⟨by decide +kernel, by decide +kernel⟩ (by decide +kernel) (Nat.le_of_ble_eq_true rfl) rfl (by omega) ch ?_
  refine lx_p hC lx_i16_ok 6 (c' := (939, [some (.ref 1000000), some (.ref 0), some (.ref 179), some (.ref 225), some (.int i), some (.int k0), bv], [.int (i + 1), .ref 1000000, .ref 179])) rfl ?_
  refine lx_ld hC lx_i16_ok rfl v1 ?_
  refine lx_p hC lx_i16_ok 4 (c' := (945, [some (.ref 1000000), some (.ref 0), some (.ref 179), some (.ref 225), some (.int i), some (.int k0), bv], [.int (i + 2), .ref 1000000, .int (xs (i + 1).toNatClampNeg), .ref 179])) rfl ?_
  refine lx_ld hC lx_i16_ok rfl v2 ?_
  refine lx_call hC lx_i16_ok (am_site_v (ix := 128) (y := 227) (k := 3) (ci := 11) rfl rfl (am_rcv_v rfl hm1)) (Nat.le_of_ble_eq_true rfl) (Nat.le_of_ble_eq_true rfl) (by omega) c2 ?_
  refine lx_p hC lx_i16_ok 2 (c' := (952, [some (.ref 1000000), some (.ref 0), some (.ref 179), some (.ref 225), some (.int i), some (.int k0), some (.int b0)], [.ref 179])) rfl ?_
  refine lx_call hC lx_i16_ok (am_site_v (ix := 84) (y := 147) (k := 1) (ci := 11) rfl rfl (am_rcv_v rfl hm2)) (Nat.le_of_ble_eq_true rfl) (Nat.le_of_ble_eq_true rfl) (by omega) c3 ?_
  refine lx_p hC lx_i16_ok 1 (c' := (957, [some (.ref 1000000), some (.ref 0), some (.ref 179), some (.ref 225), some (.int i), some (.int k0), some (.int b0)], [.int k0, .int k0])) rfl ?_
  refine lx_b hC lx_i16_ok (q := k0 = k0) rfl rfl (fun _ => ?_) (fun hq => absurd rfl hq)
  refine lx_p hC lx_i16_ok 1 (c' := (964, [some (.ref 1000000), some (.ref 0), some (.ref 179), some (.ref 225), some (.int i), some (.int k0), some (.int b0)], [.int k0])) rfl ?_
  refine lx_b hC lx_i16_ok (q := ¬ k0 = 0) rfl rfl (fun _ => lx_p hC lx_i16_ok 1 (c' := (982, [some (.ref 1000000), some (.ref 0), some (.ref 179), some (.ref 225), some (.int i), some (.int k0), some (.int b0)], [])) rfl (kk _ _ _ _ (by omega) cp)) (fun hq => ?_)
  obtain ⟨f, hf1, hf2⟩ := ho (Decidable.not_not.mp hq)
  refine lx_p hC lx_i16_ok 2 (c' := (969, [some (.ref 1000000), some (.ref 0), some (.ref 179), some (.ref 225), some (.int i), some (.int k0), some (.int b0)], [.int 0, .ref 225])) rfl ?_
  refine lx_n1 hC lx_i16_ok (am_n_lald rfl hf1 (by decide)) ?_
  refine lx_p hC lx_i16_ok 3 (c' := (974, [some (.ref 1000000), some (.ref 0), some (.ref 179), some (.ref 225), some (.int i), some (.int k0), some (.int b0)], [.int (lg_cmp (f 0) b0.toInt64)])) rfl ?_
  refine lx_b hC lx_i16_ok (q := (lg_cmp (f 0) b0.toInt64) = 0) rfl rfl (fun _ => ?_) (fun hq => absurd (by rw [hf2]; exact lo_cmp _) hq)
  refine lx_p hC lx_i16_ok 1 (c' := (982, [some (.ref 1000000), some (.ref 0), some (.ref 179), some (.ref 225), some (.int i), some (.int k0), some (.int b0)], [])) rfl ?_
  exact kk _ _ _ _ (by omega) cp
end LO
end
section
/-! The law's loop (printed by wip/gen/loop.py). -/
/-- what the n-th call asks of class and model, whatever it is: P n before it, P (n + 1) behind it -/
def lx_Ops (K : cx_K) (h : List va_E) (P : List va_E → Prop) : Prop := P h ∧ (∀ v : Int64, op2 K 12 148 [.long v] h P) ∧ (op2 K 14 149 [] h P) ∧ (op2 K 16 150 [] h P) ∧ (∀ a1 : Int32, op2 K 17 151 [.int a1] h P) ∧ (∀ a1 : Int32, opH K ⟨"PaperParcelsLaw", "read", "(LPaperParcels;I[J)I"⟩ method_3_code 4 [(0, 9, 12, 13)] 152 [.int a1] h P) ∧ (op2 K 19 200 [] h P) ∧ (∀ a1 : Int32, opH K ⟨"PaperParcelsLaw", "nodes", "(LPaperParcels;I[J)I"⟩ method_4_code 4 [(0, 9, 12, 13)] 201 [.int a1] h P) ∧ (∀ a1 a2 : Int32, opH K ⟨"PaperParcelsLaw", "kind", "(LPaperParcels;II[J)I"⟩ method_5_code 5 [(0, 10, 13, 13), (0, 10, 17, 22)] 203 [.int a1, .int a2] h P) ∧ (∀ a1 a2 : Int32, opH K ⟨"PaperParcelsLaw", "above", "(LPaperParcels;II[J)I"⟩ method_6_code 5 [(0, 10, 13, 13), (0, 10, 17, 22)] 205 [.int a1, .int a2] h P) ∧ (∀ a1 a2 a3 : Int32, opH K ⟨"PaperParcelsLaw", "look", "(LPaperParcels;III[J)I"⟩ method_7_code 6 [(0, 12, 15, 13), (0, 12, 19, 22)] 206 [.int a1, .int a2, .int a3] h P) ∧ (∀ a1 a2 : Int32, opH K ⟨"PaperParcelsLaw", "letters", "(LPaperParcels;II[J)I"⟩ method_8_code 5 [(0, 10, 13, 13), (0, 10, 17, 22)] 208 [.int a1, .int a2] h P) ∧ (∀ a1 a2 a3 : Int32, opH K ⟨"PaperParcelsLaw", "letter", "(LPaperParcels;III[J)I"⟩ method_9_code 6 [(0, 12, 15, 13), (0, 12, 19, 22)] 209 [.int a1, .int a2, .int a3] h P) ∧ (opH K ⟨"PaperParcelsLaw", "compare", "(LPaperParcels;[J)I"⟩ method_10_code 3 [(0, 8, 11, 41)] 210 [] h P) ∧ (op2 K 20 220 [] h P) ∧ (∀ a1 : Int32, ∀ bb : Int32, (bb = 0 ∨ bb = 1) → opH K ⟨"PaperParcelsLaw", "step", "(LPaperParcels;IZ[J)I"⟩ method_11_code 5 [(0, 10, 13, 22)] 221 [.int a1, .int bb] h P) ∧ (∀ a1 : Int32, opH K ⟨"PaperParcelsLaw", "apply", "(LPaperParcels;I[J)I"⟩ method_12_code 4 [(0, 9, 12, 41), (0, 9, 15, 13)] 222 [.int a1] h P) ∧ (∀ a1 a2 : Int32, opH K ⟨"PaperParcelsLaw", "emit", "(LPaperParcels;II[J)I"⟩ method_13_code 5 [(0, 10, 13, 13), (0, 10, 17, 41), (0, 10, 21, 53)] 227 [.int a1, .int a2] h P)
theorem lo_tb (x : Int32) : (x.toInt < 0 ∨ 16 < x.toInt) ∨ ∃ k : Nat, k < 17 ∧ x = Int32.ofNat k := by
  by_cases h : x.toInt < 0 ∨ 16 < x.toInt
  · exact Or.inl h
  · refine Or.inr ⟨x.toInt.toNat, by omega, ?_⟩
    have e : ((x.toInt.toNat : Nat) : Int) = x.toInt := by omega
    show x = Int32.ofNat x.toInt.toNat
    rw [← Int32.ofInt_eq_ofNat, e, Int32.ofInt_toInt]
theorem lo_df {x : Int32} (hx : x.toInt < 0 ∨ 16 < x.toInt) (L : List (Option Value)) (st : List Value) : am_p (.tableswitch 943 0 16 #[81, 138, 151, 164, 189, 245, 258, 314, 382, 450, 530, 598, 678, 722, 735, 819, 875]) 81 39 L (.int x :: st) = some (982, L, st) := by
  show (if x.toInt < 0 ∨ 16 < x.toInt then (if ((39 : Nat) : Int) + 943 = (am_tgt 39 943 : Int) then some (am_tgt 39 943, L, st) else none) else _) = _
  rw [if_pos hx]
  rfl
set_option maxRecDepth 100000
section LP
variable {p : Program} {l : Launch} {e : Env} {s : State} {m : MethodId} {below : List Frame} {meth : Method} {c : Code} {b L : Nat} {xs : Nat → Int32} {D : va_G} {ca : Nat → ClassId}
/-- from the switch to the loop's end -/
theorem lp_sw (hC : lx_C p l s m meth c b L xs D ca) {i x : Int32} {kv bv : Option Value} {h : List va_E} {g : Nat} {P : List va_E → Prop} (hg : g + 1 ≤ 600000) (v1 : vp_in (i + 1) L) (v2 : vp_in (i + 2) L) (v3 : vp_in (i + 3) L) (ho : lx_Ops (lx_K l s b D ca) h P)
    (kk : ∀ h' k' b' g', g' ≤ g + 1 → P h' → lx_W p l e s m below meth c b D ca (982, lx_L i k' b', [], h') g') : lx_W p l e s m below meth c b D ca (39, lx_L i kv bv, [.int x], h) g := by
  obtain ⟨oo, o0, o1, o2, o3, o4, o5, o6, o7, o8, o9, o10, o11, o12, o13, o14, o15, o16⟩ := ho
  rcases lo_tb x with hx | ⟨k, hk, rfl⟩
  · refine lx_n1 hC lx_iH_ok (S' := (982, lx_L i kv bv, [], h)) ?_ (kk _ _ _ _ (by omega) oo)
    have e1 : am_in lx_iH 39 = some (.tableswitch 943 0 16 #[81, 138, 151, 164, 189, 245, 258, 314, 382, 450, 530, 598, 678, 722, 735, 819, 875], 81) := rfl
    unfold am_n
    simp only [e1, lo_df hx]
  · match k, hk with
    | 0, _ => exact lx_p hC lx_iH_ok 1 (c' := (120, lx_L i kv bv, [])) rfl (lo_0 hC hg v1 v2 (o0 _) (fun h' q => kk h' _ _ _ (by omega) q))
    | 1, _ => exact lx_p hC lx_iH_ok 1 (c' := (177, lx_L i kv bv, [])) rfl (lo_1 hC hg  (o1) (fun h' q => kk h' _ _ _ (by omega) q))
    | 2, _ => exact lx_p hC lx_iH_ok 1 (c' := (190, lx_L i kv bv, [])) rfl (lo_2 hC hg  (o2) (fun h' q => kk h' _ _ _ (by omega) q))
    | 3, _ => exact lx_p hC lx_iH_ok 1 (c' := (203, lx_L i kv bv, [])) rfl (lo_3 hC hg v1 (o3 _) (fun h' q => kk h' _ _ _ (by omega) q))
    | 4, _ => exact lx_p hC lx_iH_ok 1 (c' := (228, lx_L i kv bv, [])) rfl (lo_4 hC hg v1 (o4 _) kk)
    | 5, _ => exact lx_p hC lx_iH_ok 1 (c' := (284, lx_L i kv bv, [])) rfl (lo_5 hC hg  (o5) (fun h' q => kk h' _ _ _ (by omega) q))
    | 6, _ => exact lx_p hC lx_iH_ok 1 (c' := (297, lx_L i kv bv, [])) rfl (lo_6 hC hg v1 (o6 _) kk)
    | 7, _ => exact lx_p hC lx_iH_ok 1 (c' := (353, lx_L i kv bv, [])) rfl (lo_7 hC hg v1 v2 (o7 _ _) kk)
    | 8, _ => exact lx_p hC lx_iH_ok 1 (c' := (421, lx_L i kv bv, [])) rfl (lo_8 hC hg v1 v2 (o8 _ _) kk)
    | 9, _ => exact lx_p hC lx_iH_ok 1 (c' := (489, lx_L i kv bv, [])) rfl (lo_9 hC hg v1 v2 v3 (o9 _ _ _) kk)
    | 10, _ => exact lx_p hC lx_iH_ok 1 (c' := (569, lx_L i kv bv, [])) rfl (lo_10 hC hg v1 v2 (o10 _ _) kk)
    | 11, _ => exact lx_p hC lx_iH_ok 1 (c' := (637, lx_L i kv bv, [])) rfl (lo_11 hC hg v1 v2 v3 (o11 _ _ _) kk)
    | 12, _ => exact lx_p hC lx_iH_ok 1 (c' := (717, lx_L i kv bv, [])) rfl (lo_12 hC hg  (o12) kk)
    | 13, _ => exact lx_p hC lx_iH_ok 1 (c' := (761, lx_L i kv bv, [])) rfl (lo_13 hC hg  (o13) (fun h' q => kk h' _ _ _ (by omega) q))
    | 14, _ => exact lx_p hC lx_iH_ok 1 (c' := (774, lx_L i kv bv, [])) rfl (lo_14 hC hg v1 v2 (o14 _) kk)
    | 15, _ => exact lx_p hC lx_iH_ok 1 (c' := (858, lx_L i kv bv, [])) rfl (lo_15 hC hg v1 (o15 _) kk)
    | 16, _ => exact lx_p hC lx_iH_ok 1 (c' := (914, lx_L i kv bv, [])) rfl (lo_16 hC hg v1 v2 (o16 _ _) kk)
    | k + 17, hk => exact absurd hk (by omega)
theorem lp_no {L n : Nat} (hL : L ≤ 2048) (h : 4 * n + 4 ≤ L) : ¬ Int32.ofNat L - 4 < nI (4 * n) := by
  obtain ⟨q, rfl⟩ : ∃ q, L = q + 4 := ⟨L - 4, by omega⟩
  have e : Int32.ofNat (q + 4) - 4 = nI q := by
    rw [show Int32.ofNat (q + 4) = nI q + 4 from (nI_add q 4).symm, Int32.add_sub_cancel]
  rw [e]
  intro hq
  have := (nI_ltI (by omega) (by omega)).mp hq
  omega
theorem lp_yes {L n : Nat} (hL : L ≤ 2048) (h : L < 4 * n + 4) (hn : 4 * n ≤ 2048) : Int32.ofNat L - 4 < nI (4 * n) := by
  by_cases h4 : 4 ≤ L
  · obtain ⟨q, rfl⟩ : ∃ q, L = q + 4 := ⟨L - 4, by omega⟩
    have e : Int32.ofNat (q + 4) - 4 = nI q := by
      rw [show Int32.ofNat (q + 4) = nI q + 4 from (nI_add q 4).symm, Int32.add_sub_cancel]
    rw [e]
    exact (nI_ltI (by omega) (by omega)).mpr (by omega)
  · have e0 : (0 : Int32) ≤ nI (4 * n) := nI_le (a := 0) (Nat.zero_le _) (by omega)
    have e1 : Int32.ofNat L - 4 < 0 := by
      have : L = 0 ∨ L = 1 ∨ L = 2 ∨ L = 3 := by omega
      rcases this with rfl | rfl | rfl | rfl <;> decide
    exact Int32.lt_of_lt_of_le e1 e0
/-- the loop's head -/
theorem lp_head (hC : lx_C p l s m meth c b L xs D ca) {i : Int32} {kv bv : Option Value} {h : List va_E} {g : Nat} (k1 : Int32.ofNat L - 4 < i → lx_W p l e s m below meth c b D ca (988, lx_L i kv bv, [], h) g) (k2 : ¬ Int32.ofNat L - 4 < i → lx_W p l e s m below meth c b D ca (32, lx_L i kv bv, [], h) g) : lx_W p l e s m below meth c b D ca (23, lx_L i kv bv, [], h) g := by
  refine lx_p hC lx_iH_ok 2 (c' := (26, lx_L i kv bv, [.ref 1000000, .int i])) rfl ?_
  refine lx_len hC lx_iH_ok rfl ?_
  refine lx_p hC lx_iH_ok 2 (c' := (29, lx_L i kv bv, [.int (Int32.ofNat L - 4), .int i])) rfl ?_
  exact lx_b hC lx_iH_ok (q := Int32.ofNat L - 4 < i) (c1 := (988, lx_L i kv bv, [])) (c2 := (32, lx_L i kv bv, [])) rfl rfl k1 k2
theorem lp_end (hC : lx_C p l s m meth c b L xs D ca) (hL : L ≤ 2048) {n : Nat} {kv bv : Option Value} {h : List va_E} {g : Nat} (h1 : L < 4 * n + 4) (h2 : 4 * n ≤ 2048) (h3 : g ≤ n) : lx_W p l e s m below meth c b D ca (23, lx_L (nI (4 * n)) kv bv, [], h) g := by
  refine lp_head hC (fun _ => ?_) (fun hq => absurd (lp_yes hL h1 h2) hq)
  refine lx_p hC lx_iH_ok 1 (c' := (989, lx_L (nI (4 * n)) kv bv, [.int 1])) rfl ?_
  exact lx_end hC (by omega)
/-- the loop: j calls at the most are left -/
theorem lp_loop (hC : lx_C p l s m meth c b L xs D ca) (hL : L ≤ 2048) {P : Nat → List va_E → Prop} (ho : ∀ n h, 4 * n + 4 ≤ L → P n h → lx_Ops (lx_K l s b D ca) h (P (n + 1))) : ∀ (j n : Nat) (kv bv : Option Value) (h : List va_E) (g : Nat), L < 4 * (n + j) + 4 → 4 * n ≤ 2048 → g ≤ n → P n h → lx_W p l e s m below meth c b D ca (23, lx_L (nI (4 * n)) kv bv, [], h) g := by
  intro j
  induction j with
  | zero =>
    intro n kv bv h g h1 h2 h3 hP
    exact lp_end hC hL h1 h2 h3
  | succ j ih =>
    intro n kv bv h g h1 h2 h3 hP
    by_cases h4 : 4 * n + 4 ≤ L
    · have i1 : nI (4 * n) + 1 = nI (4 * n + 1) := nI_add _ 1
      have i2 : nI (4 * n) + 2 = nI (4 * n + 2) := nI_add _ 2
      have i3 : nI (4 * n) + 3 = nI (4 * n + 3) := nI_add _ 3
      have i4 : nI (4 * n) + Int32.ofInt 4 = nI (4 * (n + 1)) := nI_add _ 4
      refine lp_head hC (fun hq => absurd hq (lp_no hL h4)) (fun _ => ?_)
      refine lx_p hC lx_iH_ok 2 (c' := (35, lx_L (nI (4 * n)) kv bv, [.int (nI (4 * n)), .ref 1000000])) rfl ?_
      refine lx_ld hC lx_iH_ok rfl (nI_in (by omega) (by omega)) ?_
      refine lx_p hC lx_iH_ok 2 (c' := (39, lx_L (nI (4 * n)) kv bv, [.int (xs (nI (4 * n)).toNatClampNeg &&& (Int8.ofInt 31).toInt32)])) rfl ?_
      refine lp_sw hC (by omega) (by rw [i1]; exact nI_in (by omega) (by omega)) (by rw [i2]; exact nI_in (by omega) (by omega)) (by rw [i3]; exact nI_in (by omega) (by omega)) (ho n h h4 hP) (fun h' k' b' g' q1 q2 => ?_)
      refine lx_p hC lx_iH_ok 2 (c' := (23, lx_L (nI (4 * n) + Int32.ofInt 4) k' b', [])) rfl ?_
      rw [i4]
      exact ih (n + 1) k' b' h' g' (by omega) (by omega) (by omega) q2
    · exact lp_end hC hL (by omega) h2 h3
end LP
end
section
/-! The law's walk from its entry, out of what the calls ask of class and model. -/
theorem lq_no {p : Program} {s : State} {m : MethodId} {meth : Method} {c : Code} {b L : Nat} {xs : Nat → Int32} (C0 : lw_At p s m meth c b L xs) : ∀ q ∈ hx_pairs, sx_na q.1 q.2 s := by
  obtain ⟨-, -, -, -, -, -, -, -, -, hg⟩ := C0
  have hs := flat_of_before _ hg
  have h1 : (Cond.not (.castable (hx_E 1) (hx_E 0))).before #[Value.ref b] s = true := hs _ (by decide +kernel)
  have h2 : (Cond.not (.castable (hx_E 0) (hx_E 2))).before #[Value.ref b] s = true := hs _ (by decide +kernel)
  have h3 : (Cond.not (.castable (hx_E 2) (hx_E 0))).before #[Value.ref b] s = true := hs _ (by decide +kernel)
  have h4 : (Cond.not (.castable (hx_E 3) (hx_E 0))).before #[Value.ref b] s = true := hs _ (by decide +kernel)
  have h5 : (Cond.not (.castable (hx_E 3) (hx_E 2))).before #[Value.ref b] s = true := hs _ (by decide +kernel)
  exact List.forall_mem_cons.mpr ⟨sx_na_of h1, List.forall_mem_cons.mpr ⟨sx_na_of h2, List.forall_mem_cons.mpr ⟨sx_na_of h3, List.forall_mem_cons.mpr ⟨sx_na_of h4, List.forall_mem_cons.mpr ⟨sx_na_of h5, fun _ h => absurd h List.not_mem_nil⟩⟩⟩⟩⟩
/-- class and model answer alike, call by call, scripts of at most N ints -/
def lq_All (N : Nat) : Prop := ∀ K : cx_K, Kok K → hx_no K → ∃ P : Nat → List va_E → Prop, P 0 hp_0 ∧ ∀ n h, 4 * n + 4 ≤ N → P n h → lx_Ops K h (P (n + 1))
theorem lq_start {N : Nat} (hN : N ≤ 2048) (hA : lq_All N) {p : Program} {e : Env} {s : State} {m : MethodId} {below : List Frame} {meth : Method} {c : Code} (l : Launch) (hl : l.stackTraces = false) {b L : Nat} {xs : Nat → Int32} (hL : L ≤ N) (C0 : lw_At p s m meth c b L xs) : W p l e room_1 s m #[Value.ref b] below meth c s.heap [] 0 0 (lw_Z below #[Value.ref b] s) (entryFrame m ([Value.ref b] : List Value).toArray 7) := by
  have hts : ∀ w ∈ lw_tbl, w.before #[Value.ref b] s = true := by
    obtain ⟨-, -, -, -, -, h, -⟩ := C0
    exact h
  obtain ⟨D, ca, hcx, hK, hX⟩ := sx_world (b := b) hl hts (sx_at C0)
  have hno : hx_no (lx_K l s b D ca) := fun U hU q hq => sx_na_mv hU.1.alike (lq_no C0 q hq)
  obtain ⟨P, hP0, hP⟩ := hA (lx_K l s b D ca) hcx hno
  have hC : lx_C p l s m meth c b L xs D ca := ⟨C0, hcx, hK, hX⟩
  refine lx_begin hC ?_
  exact lp_loop hC (Nat.le_trans hL hN) (fun n h h4 hp => hP n h (Nat.le_trans h4 hL) hp) 600 0 none none hp_0 0 (by omega) (by omega) (Nat.le_refl _) hP0
theorem lq_flags {l : Launch} (h : l.flags = flags0) : l.stackTraces = false := by
  unfold Launch.stackTraces
  rw [h]
  decide +kernel
end
section
/-! The claim, out of what the calls ask of class and model (the given end, with that as its premise). -/
set_option maxHeartbeats 4000000 in
theorem lw_walk (hA : lq_All 2048) (l : Launch) (hl : l.stackTraces = false) (b : Addr) (xs : List Int32) : MetFree l x (headSpec (Jvm.Cond.code x code maxLocals ret :: tables_1) room_1) (lw_P b xs) (fun _ _ _ _ _ => True) lw_Q := by
  refine MetFree.of_bodyS (code := code) (maxLocals := maxLocals) (ret := ret) (by decide) ?_ ?_
  · intro args s m h hn
    obtain ⟨meth, c, h1, h2, h3, h4, h5, h6, -, -⟩ := Cond.code_spec hn (atoms_spec (ws := Jvm.Cond.code x code maxLocals ret :: tables_1) h _ List.mem_cons_self)
    exact ⟨meth, c, h1, h2, h3, h4, h5, h6⟩
  · intro p e s m args below meth c s₁ B hml0 hP _
    obtain ⟨rfl, hx, hbd, hgv⟩ := hP
    obtain ⟨scr, harrAt, hlist, hof, hsmall⟩ := hx
    obtain ⟨hcb, hkn, -, -⟩ := State.arrayAt?_spec harrAt
    have hown : s.vm.findClass R_law = some m.cls := findClass_of_methodNamed B.named
    have hts0 : ∀ c ∈ (Jvm.Cond.code x code maxLocals ret :: tables_1), c.before #[Value.ref b] s = true := atoms_spec (ws := Jvm.Cond.code x code maxLocals ret :: tables_1) B.pre
    have hts : ∀ w ∈ lw_tbl, w.before #[Value.ref b] s = true := k2_hts_sels lw_privs (fun w hw => hts0 w (List.mem_cons_of_mem _ hw)) lw_privs_ok
    have hml : c.maxLocals = 7 := B.maxLocals_eq (hts0 _ List.mem_cons_self)
    have X₀ : Stand p l e room_1 s m #[Value.ref b] below meth c s₁ [] 0 0 := Stand.of_body B
    have hh0 : s₁.heap = s.heap := by rw [B.state]; rfl
    have hsz : scr.slots.size = xs.length := by rw [← Array.length_toList, hlist, List.length_map]
    have hval : ∀ j : Nat, j < xs.length → scr.slots[j]? = some (.int (xs.getD j 0)) := fun j hj => by
      rw [← Array.getElem?_toList, hlist]
      simp [hj]
    have hbl : b < s.heap.size := (Array.getElem?_eq_some_iff.mp hcb).1
    have hX : va_X b xs.length (fun j => xs.getD j 0) s s.heap := ⟨scr, hcb, hof, hkn, hsz, hval⟩
    have K : W p l e room_1 s m #[Value.ref b] below meth c s₁.heap [] 0 0 (lw_Z below #[Value.ref b] s) (entryFrame m ([Value.ref b] : List Value).toArray 7) := by
      rw [hh0]
      exact lq_start (Nat.le_refl _) hA l hl hbd ⟨B.exec, B.bytes, B.returns, hml, hown, hts, hX, hbl, B.notSynchronized, hgv⟩
    obtain ⟨t, a1, o, b1, b2, b3⟩ := K s₁ rfl X₀
    exact ⟨t, o, a1, b1, b2, b3⟩
theorem lw_pre_spec {args : Array Value} {s : State} (h : (Jvm.Cond.and given_1 narrow_1).before args s = true) (hr : rest_1_c.before args s = true) : ∃ (b : Addr) (xs : List Int32), lw_P b xs args s := by
  have hs := flat_of_before _ h
  have hq := flat_of_before _ hr
  have hc : (Cond.count 1).before args s = true := hs _ (by decide +kernel)
  have harr : (Cond.arrayOf (.arg 0) .int).before args s = true := hs _ (by decide +kernel)
  have hle : (Cond.le (.length (.arg 0)) (.int 2048)).before args s = true := hs _ (by decide +kernel)
  have hlen : (Cond.isInt (.length (.arg 0))).before args s = true := hq _ (by decide +kernel)
  have hall : (Cond.all (.arg 0) (.isInt (.elem (.arg 0) (.index 0)))).before args s = true := hq _ (by decide +kernel)
  obtain ⟨b, xs, hb, hx⟩ := State.ints_of_pre rfl harr hlen hall
  have hsm : xs.length < 2 ^ 31 := hx.choose_spec.2.2.2
  have hev : (Term.length (.arg 0)).eval args s none [] s = some (.int xs.length.toInt32) := hx.length_eval hb
  have hv := Cond.le_ints hev (show (Term.int 2048).eval args s none [] s = some (.int 2048) from rfl)
  have hd : xs.length.toInt32 ≤ 2048 := by
    simpa [Cond.before, Cond.holds, hv] using hle
  have hN : xs.length ≤ 2048 := (Int32.ofNat_le_ofNat hsm (by decide)).mp (show Int32.ofNat xs.length ≤ Int32.ofNat 2048 from hd)
  exact ⟨b, xs, Cond.one_arg hc (show args[0]? = some (.ref b) from hb), hx, hN, h⟩
theorem lw_comes (hA : lq_All 2048) (l : Launch) (hl : l.stackTraces = false) : Comes l x (Jvm.Cond.code x code maxLocals ret :: tables_1) room_1 (fun tb e args s => Calls_1 tb e args s ∧ rest_1 tb e args s ∧ Pre_1 tb e args s)
    (fun _ _ args s o t => lw_Q args s o t) := by
  intro p e ha hc hk s m args below hf hfit hheap happ hpre
  obtain ⟨b, xs, hP⟩ := lw_pre_spec hpre.2.2 hpre.2.1
  obtain ⟨k, o, h1, h2, h3, hQ⟩ := lw_walk hA l hl b xs p e ha hc hk s m args below hf ((Spec.applies_iff_loose hf).mp happ).1 hP trivial
  exact ⟨k, o, h1, h2, h3, hQ⟩
theorem lw_frame {s t : State} {o : Outcome} {args : Array Value} (h : Framed s o t [] 601024 7293034) :
    Framed s o t (fieldLocs frame_1_writes args s ++ arrayLocs frame_1_arrays args s ++ staticLocs frame_1_statics s) 601024 7293034 := h
theorem lw_limb (hA : lq_All 2048) (L : Cond) (hL : ∀ (args : Array Value) (s t : State), L.after args s (.returned (some (.int 1))) t = true) :
    ArmFor flags0 classFile x code maxLocals ret World_1 tables_1 room_1 Calls_1 rest_1 Pre_1
      (fun tb e a s o t => postC L tb e a s o t ∧ Framed s o t (fieldLocs frame_1_writes a s ++ arrayLocs frame_1_arrays a s ++ staticLocs frame_1_statics s) 601024 7293034) := by
  intro l hfl _ _ p e ha hc hk s m args below hf hfit hheap happ hpre
  obtain ⟨k, o, h1, h2, h3, rfl, hF⟩ := lw_comes hA l (lq_flags hfl) p e ha hc hk s m args below hf hfit hheap happ hpre
  exact ⟨k, _, h1, h2, h3, hL args s _, lw_frame hF⟩
theorem lw_claim (hA : lq_All 2048) : Claimed_1_1 ∧ Claimed_1_2 := ⟨lw_limb hA limb_1_1 (fun args s t => by simp [limb_1_1, Cond.after, Cond.holds, Cond.value]), lw_limb hA limb_1_2 (fun args s t => Cond.after_iff.mpr (by
  first | (rw [show limb_1_2 = Cond.eq .result (.int 1) from rfl, Cond.eq_ints (x := 1) (y := 1) rfl rfl]; simp; done) | (simp [limb_1_2, Cond.value, Term.eval]; done)))⟩
end
section
-- PaperParcels$Row.put(I)V
def nd_i13 : List (Nat × Instr × Nat) := [(0, .aload_n 0, 1), (1, .getfield 15, 3), (4, .aload_n 0, 1), (5, .getfield 9, 3), (8, .arraylength, 1), (9, .if_icmp .ge 26, 3), (12, .aload_n 0, 1), (13, .getfield 9, 3), (16, .aload_n 0, 1), (17, .getfield 15, 3), (20, .iload_n 1, 1), (21, .iastore, 1), (22, .aload_n 0, 1), (23, .dup, 1), (24, .getfield 15, 3), (27, .iconst 1, 1), (28, .iadd, 1), (29, .putfield 15, 3), (32, .goto 8, 3), (35, .aload_n 0, 1), (36, .iconst 1, 1), (37, .putfield 19, 3), (40, .return_, 1)]
theorem nd_i13_ok : am_ic prog_8_method_3_code nd_i13 = true := by decide +kernel
def nd_s13 : List nm_S := []
theorem nd_s13_ok : nd_s13.all (nm_schk nd_ct nd_ml "PaperParcels$Row") = true := by decide +kernel
theorem nd_ok13 : am_ok nm_Ts nm_Tn nd_cl nd_mt nd_fr nd_lo 13 (am_in nd_i13) (am_fl nd_f1) (am_ct nd_k1) (am_sl nd_ml nd_s13) := nm_ok (x := 13) (ini := false) rfl (by decide +kernel) nd_cok nd_i13_ok (by decide) nd_f1_ok nd_k1_ok nd_s13_ok (by decide +kernel)
-- PaperParcels$Row.clear()V
def nd_i15 : List (Nat × Instr × Nat) := [(0, .aload_n 0, 1), (1, .iconst 0, 1), (2, .putfield 15, 3), (5, .aload_n 0, 1), (6, .iconst 0, 1), (7, .putfield 19, 3), (10, .return_, 1)]
theorem nd_i15_ok : am_ic prog_8_method_2_code nd_i15 = true := by decide +kernel
def nd_s15 : List nm_S := []
theorem nd_s15_ok : nd_s15.all (nm_schk nd_ct nd_ml "PaperParcels$Row") = true := by decide +kernel
theorem nd_ok15 : am_ok nm_Ts nm_Tn nd_cl nd_mt nd_fr nd_lo 15 (am_in nd_i15) (am_fl nd_f1) (am_ct nd_k1) (am_sl nd_ml nd_s15) := nm_ok (x := 15) (ini := false) rfl (by decide +kernel) nd_cok nd_i15_ok (by decide) nd_f1_ok nd_k1_ok nd_s15_ok (by decide +kernel)
-- PaperParcels$Row.at(I)I
def nd_i18 : List (Nat × Instr × Nat) := [(0, .iload_n 1, 1), (1, .ifCond .lt 20, 3), (4, .iload_n 1, 1), (5, .aload_n 0, 1), (6, .getfield 15, 3), (9, .if_icmp .ge 12, 3), (12, .aload_n 0, 1), (13, .getfield 9, 3), (16, .iload_n 1, 1), (17, .iaload, 1), (18, .goto 4, 3), (21, .iconst (-1), 1), (22, .ireturn, 1)]
theorem nd_i18_ok : am_ic prog_8_method_6_code nd_i18 = true := by decide +kernel
def nd_s18 : List nm_S := []
theorem nd_s18_ok : nd_s18.all (nm_schk nd_ct nd_ml "PaperParcels$Row") = true := by decide +kernel
theorem nd_ok18 : am_ok nm_Ts nm_Tn nd_cl nd_mt nd_fr nd_lo 18 (am_in nd_i18) (am_fl nd_f1) (am_ct nd_k1) (am_sl nd_ml nd_s18) := nm_ok (x := 18) (ini := false) rfl (by decide +kernel) nd_cok nd_i18_ok (by decide) nd_f1_ok nd_k1_ok nd_s18_ok (by decide +kernel)
-- PaperParcels$Row.checkSum()I
def nd_i38 : List (Nat × Instr × Nat) := [(0, .ldc 37, 2), (2, .istore_n 1, 1), (3, .iconst 0, 1), (4, .istore_n 2, 1), (5, .iload_n 2, 1), (6, .aload_n 0, 1), (7, .getfield 15, 3), (10, .if_icmp .ge 67, 3), (13, .iload_n 1, 1), (14, .aload_n 0, 1), (15, .getfield 9, 3), (18, .iload_n 2, 1), (19, .iaload, 1), (20, .bipush 8, 2), (22, .ishl, 1), (23, .ixor, 1), (24, .istore_n 1, 1), (25, .iconst 0, 1), (26, .istore_n 3, 1), (27, .iload_n 3, 1), (28, .bipush 8, 2), (30, .if_icmp .ge 41, 3), (33, .iload_n 1, 1), (34, .ldc 38, 2), (36, .iand, 1), (37, .ifCond .eq 7, 3), (40, .iconst 1, 1), (41, .goto 4, 3), (44, .iconst 0, 1), (45, .istore 4, 2), (47, .iload_n 1, 1), (48, .iconst 1, 1), (49, .ishl, 1), (50, .ldc 37, 2), (52, .iand, 1), (53, .istore_n 1, 1), (54, .iload 4, 2), (56, .ifCond .eq 9, 3), (59, .iload_n 1, 1), (60, .sipush 4129, 3), (63, .ixor, 1), (64, .istore_n 1, 1), (65, .iinc 3 1, 3), (68, .goto (-41), 3), (71, .iinc 2 1, 3), (74, .goto (-69), 3), (77, .iload_n 1, 1), (78, .ireturn, 1)]
theorem nd_i38_ok : am_ic prog_8_method_7_code nd_i38 = true := by decide +kernel
def nd_s38 : List nm_S := []
theorem nd_s38_ok : nd_s38.all (nm_schk nd_ct nd_ml "PaperParcels$Row") = true := by decide +kernel
theorem nd_ok38 : am_ok nm_Ts nm_Tn nd_cl nd_mt nd_fr nd_lo 38 (am_in nd_i38) (am_fl nd_f1) (am_ct nd_k1) (am_sl nd_ml nd_s38) := nm_ok (x := 38) (ini := false) rfl (by decide +kernel) nd_cok nd_i38_ok (by decide) nd_f1_ok nd_k1_ok nd_s38_ok (by decide +kernel)
-- PaperParcels$Row.putText(Ljava/lang/String;)V
def nd_i121 : List (Nat × Instr × Nat) := [(0, .iconst 0, 1), (1, .istore_n 2, 1), (2, .iload_n 2, 1), (3, .aload_n 1, 1), (4, .invokevirtual 23, 3), (7, .if_icmp .ge 18, 3), (10, .aload_n 0, 1), (11, .aload_n 1, 1), (12, .iload_n 2, 1), (13, .invokevirtual 29, 3), (16, .invokevirtual 33, 3), (19, .iinc 2 1, 3), (22, .goto (-20), 3), (25, .return_, 1)]
theorem nd_i121_ok : am_ic prog_8_method_4_code nd_i121 = true := by decide +kernel
def nd_s121 : List nm_S := [(33, 13, false, 1136)]
theorem nd_s121_ok : nd_s121.all (nm_schk nd_ct nd_ml "PaperParcels$Row") = true := by decide +kernel
theorem nd_ok121 : am_ok nm_Ts nm_Tn nd_cl nd_mt nd_fr nd_lo 121 (am_in nd_i121) (am_fl nd_f1) (am_ct nd_k1) (am_sl nd_ml nd_s121) := nm_ok (x := 121) (ini := false) rfl (by decide +kernel) nd_cok nd_i121_ok (by decide) nd_f1_ok nd_k1_ok nd_s121_ok (by decide +kernel)
-- PaperParcels$Row.putAll(LPaperParcels$Row;)V
def nd_i144 : List (Nat × Instr × Nat) := [(0, .iconst 0, 1), (1, .istore_n 2, 1), (2, .iload_n 2, 1), (3, .aload_n 1, 1), (4, .getfield 15, 3), (7, .if_icmp .ge 19, 3), (10, .aload_n 0, 1), (11, .aload_n 1, 1), (12, .getfield 9, 3), (15, .iload_n 2, 1), (16, .iaload, 1), (17, .invokevirtual 33, 3), (20, .iinc 2 1, 3), (23, .goto (-21), 3), (26, .return_, 1)]
theorem nd_i144_ok : am_ic prog_8_method_5_code nd_i144 = true := by decide +kernel
def nd_s144 : List nm_S := [(33, 13, false, 1136)]
theorem nd_s144_ok : nd_s144.all (nm_schk nd_ct nd_ml "PaperParcels$Row") = true := by decide +kernel
theorem nd_ok144 : am_ok nm_Ts nm_Tn nd_cl nd_mt nd_fr nd_lo 144 (am_in nd_i144) (am_fl nd_f1) (am_ct nd_k1) (am_sl nd_ml nd_s144) := nm_ok (x := 144) (ini := false) rfl (by decide +kernel) nd_cok nd_i144_ok (by decide) nd_f1_ok nd_k1_ok nd_s144_ok (by decide +kernel)
end
section
-- PaperParcels.write(J)Z
def nd_i12 : List (Nat × Instr × Nat) := [(0, .iconst 0, 1), (1, .istore_n 3, 1), (2, .iconst 0, 1), (3, .istore 4, 2), (5, .iload 4, 2), (7, .bipush 64, 2), (9, .if_icmp .ge 44, 3), (12, .lload_n 1, 1), (13, .iload 4, 2), (15, .lushr, 1), (16, .l2i, 1), (17, .sipush 255, 3), (20, .iand, 1), (21, .istore 5, 2), (23, .iload 5, 2), (25, .ifCond .eq 22, 3), (28, .iload 5, 2), (30, .bipush 32, 2), (32, .if_icmp .lt 10, 3), (35, .iload 5, 2), (37, .bipush 126, 2), (39, .if_icmp .le 5, 3), (42, .iconst 0, 1), (43, .ireturn, 1), (44, .iinc 3 1, 3), (47, .iinc 4 8, 3), (50, .goto (-45), 3), (53, .aload_n 0, 1), (54, .getfield 14, 3), (57, .getfield 50, 3), (60, .iload_n 3, 1), (61, .iadd, 1), (62, .sipush 480, 3), (65, .if_icmp .le 5, 3), (68, .iconst 0, 1), (69, .ireturn, 1), (70, .iconst 0, 1), (71, .istore 4, 2), (73, .iload 4, 2), (75, .bipush 64, 2), (77, .if_icmp .ge 34, 3), (80, .lload_n 1, 1), (81, .iload 4, 2), (83, .lushr, 1), (84, .l2i, 1), (85, .sipush 255, 3), (88, .iand, 1), (89, .istore 5, 2), (91, .iload 5, 2), (93, .ifCond .eq 12, 3), (96, .aload_n 0, 1), (97, .getfield 14, 3), (100, .iload 5, 2), (102, .invokevirtual 54, 3), (105, .iinc 4 8, 3), (108, .goto (-35), 3), (111, .iconst 1, 1), (112, .ireturn, 1)]
theorem nd_i12_ok : am_ic prog_1_method_2_code nd_i12 = true := by decide +kernel
def nd_s12 : List nm_S := [(54, 13, false, 532)]
theorem nd_s12_ok : nd_s12.all (nm_schk nd_ct nd_ml "PaperParcels") = true := by decide +kernel
theorem nd_ok12 : am_ok nm_Ts nm_Tn nd_cl nd_mt nd_fr nd_lo 12 (am_in nd_i12) (am_fl nd_f0) (am_ct nd_k0) (am_sl nd_ml nd_s12) := nm_ok (x := 12) (ini := false) rfl (by decide +kernel) nd_cok nd_i12_ok (by decide) nd_f0_ok nd_k0_ok nd_s12_ok (by decide +kernel)
-- PaperParcels.wipe()I
def nd_i14 : List (Nat × Instr × Nat) := [(0, .aload_n 0, 1), (1, .getfield 14, 3), (4, .getfield 50, 3), (7, .istore_n 1, 1), (8, .aload_n 0, 1), (9, .getfield 14, 3), (12, .invokevirtual 57, 3), (15, .iload_n 1, 1), (16, .ireturn, 1)]
theorem nd_i14_ok : am_ic prog_1_method_3_code nd_i14 = true := by decide +kernel
def nd_s14 : List nm_S := [(57, 15, false, 540)]
theorem nd_s14_ok : nd_s14.all (nm_schk nd_ct nd_ml "PaperParcels") = true := by decide +kernel
theorem nd_ok14 : am_ok nm_Ts nm_Tn nd_cl nd_mt nd_fr nd_lo 14 (am_in nd_i14) (am_fl nd_f0) (am_ct nd_k0) (am_sl nd_ml nd_s14) := nm_ok (x := 14) (ini := false) rfl (by decide +kernel) nd_cok nd_i14_ok (by decide) nd_f0_ok nd_k0_ok nd_s14_ok (by decide +kernel)
-- PaperParcels.length()I
def nd_i16 : List (Nat × Instr × Nat) := [(0, .aload_n 0, 1), (1, .getfield 14, 3), (4, .getfield 50, 3), (7, .ireturn, 1)]
theorem nd_i16_ok : am_ic prog_1_method_4_code nd_i16 = true := by decide +kernel
def nd_s16 : List nm_S := []
theorem nd_s16_ok : nd_s16.all (nm_schk nd_ct nd_ml "PaperParcels") = true := by decide +kernel
theorem nd_ok16 : am_ok nm_Ts nm_Tn nd_cl nd_mt nd_fr nd_lo 16 (am_in nd_i16) (am_fl nd_f0) (am_ct nd_k0) (am_sl nd_ml nd_s16) := nm_ok (x := 16) (ini := false) rfl (by decide +kernel) nd_cok nd_i16_ok (by decide) nd_f0_ok nd_k0_ok nd_s16_ok (by decide +kernel)
-- PaperParcels.character(I)I
def nd_i17 : List (Nat × Instr × Nat) := [(0, .aload_n 0, 1), (1, .getfield 14, 3), (4, .iload_n 1, 1), (5, .invokevirtual 60, 3), (8, .ireturn, 1)]
theorem nd_i17_ok : am_ic prog_1_method_5_code nd_i17 = true := by decide +kernel
def nd_s17 : List nm_S := [(60, 18, false, 552)]
theorem nd_s17_ok : nd_s17.all (nm_schk nd_ct nd_ml "PaperParcels") = true := by decide +kernel
theorem nd_ok17 : am_ok nm_Ts nm_Tn nd_cl nd_mt nd_fr nd_lo 17 (am_in nd_i17) (am_fl nd_f0) (am_ct nd_k0) (am_sl nd_ml nd_s17) := nm_ok (x := 17) (ini := false) rfl (by decide +kernel) nd_cok nd_i17_ok (by decide) nd_f0_ok nd_k0_ok nd_s17_ok (by decide +kernel)
-- PaperParcels.place()I
def nd_i19 : List (Nat × Instr × Nat) := [(0, .aload_n 0, 1), (1, .getfield 30, 3), (4, .getfield 82, 3), (7, .ireturn, 1)]
theorem nd_i19_ok : am_ic prog_1_method_7_code nd_i19 = true := by decide +kernel
def nd_s19 : List nm_S := []
theorem nd_s19_ok : nd_s19.all (nm_schk nd_ct nd_ml "PaperParcels") = true := by decide +kernel
theorem nd_ok19 : am_ok nm_Ts nm_Tn nd_cl nd_mt nd_fr nd_lo 19 (am_in nd_i19) (am_fl nd_f0) (am_ct nd_k0) (am_sl nd_ml nd_s19) := nm_ok (x := 19) (ini := false) rfl (by decide +kernel) nd_cok nd_i19_ok (by decide) nd_f0_ok nd_k0_ok nd_s19_ok (by decide +kernel)
-- PaperParcels.steps()I
def nd_i20 : List (Nat × Instr × Nat) := [(0, .aload_n 0, 1), (1, .getfield 39, 3), (4, .getfield 123, 3), (7, .ireturn, 1)]
theorem nd_i20_ok : am_ic prog_1_method_15_code nd_i20 = true := by decide +kernel
def nd_s20 : List nm_S := []
theorem nd_s20_ok : nd_s20.all (nm_schk nd_ct nd_ml "PaperParcels") = true := by decide +kernel
theorem nd_ok20 : am_ok nm_Ts nm_Tn nd_cl nd_mt nd_fr nd_lo 20 (am_in nd_i20) (am_fl nd_f0) (am_ct nd_k0) (am_sl nd_ml nd_s20) := nm_ok (x := 20) (ini := false) rfl (by decide +kernel) nd_cok nd_i20_ok (by decide) nd_f0_ok nd_k0_ok nd_s20_ok (by decide +kernel)
-- PaperParcels.read(I)I
def nd_i21 : List (Nat × Instr × Nat) := [(0, .iload_n 1, 1), (1, .ifCond .eq 16, 3), (4, .iload_n 1, 1), (5, .iconst 1, 1), (6, .if_icmp .eq 11, 3), (9, .new 64, 3), (12, .dup, 1), (13, .invokespecial 66, 3), (16, .athrow, 1), (17, .aload_n 0, 1), (18, .getfield 30, 3), (21, .aload_n 0, 1), (22, .getfield 14, 3), (25, .invokevirtual 67, 3), (28, .istore_n 2, 1), (29, .iload_n 2, 1), (30, .ifCond .ne 26, 3), (33, .aload_n 0, 1), (34, .getfield 20, 3), (37, .iload_n 1, 1), (38, .aaload, 1), (39, .aload_n 0, 1), (40, .getfield 30, 3), (43, .getfield 71, 3), (46, .invokevirtual 75, 3), (49, .aload_n 0, 1), (50, .getfield 39, 3), (53, .invokevirtual 79, 3), (56, .iload_n 2, 1), (57, .ireturn, 1)]
theorem nd_i21_ok : am_ic prog_1_method_6_code nd_i21 = true := by decide +kernel
def nd_s21 : List nm_S := [(66, 23, false, 614), (67, 26, false, 636), (75, 79, false, 851), (79, 81, false, 862)]
theorem nd_s21_ok : nd_s21.all (nm_schk nd_ct nd_ml "PaperParcels") = true := by decide +kernel
theorem nd_ok21 : am_ok nm_Ts nm_Tn nd_cl nd_mt nd_fr nd_lo 21 (am_in nd_i21) (am_fl nd_f0) (am_ct nd_k0) (am_sl nd_ml nd_s21) := nm_ok (x := 21) (ini := false) rfl (by decide +kernel) nd_cok nd_i21_ok (by decide) nd_f0_ok nd_k0_ok nd_s21_ok (by decide +kernel)
-- PaperParcels.isDigit(I)Z
def nd_i29 : List (Nat × Instr × Nat) := [(0, .iload_n 0, 1), (1, .bipush 48, 2), (3, .if_icmp .lt 13, 3), (6, .iload_n 0, 1), (7, .bipush 57, 2), (9, .if_icmp .gt 7, 3), (12, .iconst 1, 1), (13, .goto 4, 3), (16, .iconst 0, 1), (17, .ireturn, 1)]
theorem nd_i29_ok : am_ic prog_1_method_22_code nd_i29 = true := by decide +kernel
def nd_s29 : List nm_S := []
theorem nd_s29_ok : nd_s29.all (nm_schk nd_ct nd_ml "PaperParcels") = true := by decide +kernel
theorem nd_ok29 : am_ok nm_Ts nm_Tn nd_cl nd_mt nd_fr nd_lo 29 (am_in nd_i29) (am_fl nd_f0) (am_ct nd_k0) (am_sl nd_ml nd_s29) := nm_ok (x := 29) (ini := false) rfl (by decide +kernel) nd_cok nd_i29_ok (by decide) nd_f0_ok nd_k0_ok nd_s29_ok (by decide +kernel)
-- PaperParcels.hexDigit(I)I
def nd_i39 : List (Nat × Instr × Nat) := [(0, .iload_n 0, 1), (1, .bipush 10, 2), (3, .if_icmp .ge 10, 3), (6, .bipush 48, 2), (8, .iload_n 0, 1), (9, .iadd, 1), (10, .goto 10, 3), (13, .bipush 97, 2), (15, .iload_n 0, 1), (16, .iadd, 1), (17, .bipush 10, 2), (19, .isub, 1), (20, .ireturn, 1)]
theorem nd_i39_ok : am_ic prog_1_method_25_code nd_i39 = true := by decide +kernel
def nd_s39 : List nm_S := []
theorem nd_s39_ok : nd_s39.all (nm_schk nd_ct nd_ml "PaperParcels") = true := by decide +kernel
theorem nd_ok39 : am_ok nm_Ts nm_Tn nd_cl nd_mt nd_fr nd_lo 39 (am_in nd_i39) (am_fl nd_f0) (am_ct nd_k0) (am_sl nd_ml nd_s39) := nm_ok (x := 39) (ini := false) rfl (by decide +kernel) nd_cok nd_i39_ok (by decide) nd_f0_ok nd_k0_ok nd_s39_ok (by decide +kernel)
-- PaperParcels.isSmall(I)Z
def nd_i43 : List (Nat × Instr × Nat) := [(0, .iload_n 0, 1), (1, .bipush 97, 2), (3, .if_icmp .lt 13, 3), (6, .iload_n 0, 1), (7, .bipush 122, 2), (9, .if_icmp .gt 7, 3), (12, .iconst 1, 1), (13, .goto 4, 3), (16, .iconst 0, 1), (17, .ireturn, 1)]
theorem nd_i43_ok : am_ic prog_1_method_23_code nd_i43 = true := by decide +kernel
def nd_s43 : List nm_S := []
theorem nd_s43_ok : nd_s43.all (nm_schk nd_ct nd_ml "PaperParcels") = true := by decide +kernel
theorem nd_ok43 : am_ok nm_Ts nm_Tn nd_cl nd_mt nd_fr nd_lo 43 (am_in nd_i43) (am_fl nd_f0) (am_ct nd_k0) (am_sl nd_ml nd_s43) := nm_ok (x := 43) (ini := false) rfl (by decide +kernel) nd_cok nd_i43_ok (by decide) nd_f0_ok nd_k0_ok nd_s43_ok (by decide +kernel)
-- PaperParcels.isCapital(I)Z
def nd_i49 : List (Nat × Instr × Nat) := [(0, .iload_n 0, 1), (1, .bipush 65, 2), (3, .if_icmp .lt 13, 3), (6, .iload_n 0, 1), (7, .bipush 90, 2), (9, .if_icmp .gt 7, 3), (12, .iconst 1, 1), (13, .goto 4, 3), (16, .iconst 0, 1), (17, .ireturn, 1)]
theorem nd_i49_ok : am_ic prog_1_method_24_code nd_i49 = true := by decide +kernel
def nd_s49 : List nm_S := []
theorem nd_s49_ok : nd_s49.all (nm_schk nd_ct nd_ml "PaperParcels") = true := by decide +kernel
theorem nd_ok49 : am_ok nm_Ts nm_Tn nd_cl nd_mt nd_fr nd_lo 49 (am_in nd_i49) (am_fl nd_f0) (am_ct nd_k0) (am_sl nd_ml nd_s49) := nm_ok (x := 49) (ini := false) rfl (by decide +kernel) nd_cok nd_i49_ok (by decide) nd_f0_ok nd_k0_ok nd_s49_ok (by decide +kernel)
-- PaperParcels.numberOfLook(II)I
def nd_i74 : List (Nat × Instr × Nat) := [(0, .iload_n 1, 1), (1, .ifCond .ne 9, 3), (4, .iload_n 0, 1), (5, .sipush 1000, 3), (8, .idiv, 1), (9, .ireturn, 1), (10, .iload_n 1, 1), (11, .iconst 1, 1), (12, .if_icmp .ne 13, 3), (15, .iload_n 0, 1), (16, .bipush 10, 2), (18, .idiv, 1), (19, .bipush 100, 2), (21, .irem, 1), (22, .goto 7, 3), (25, .iload_n 0, 1), (26, .bipush 10, 2), (28, .irem, 1), (29, .ireturn, 1)]
theorem nd_i74_ok : am_ic prog_1_method_21_code nd_i74 = true := by decide +kernel
def nd_s74 : List nm_S := []
theorem nd_s74_ok : nd_s74.all (nm_schk nd_ct nd_ml "PaperParcels") = true := by decide +kernel
theorem nd_ok74 : am_ok nm_Ts nm_Tn nd_cl nd_mt nd_fr nd_lo 74 (am_in nd_i74) (am_fl nd_f0) (am_ct nd_k0) (am_sl nd_ml nd_s74) := nm_ok (x := 74) (ini := false) rfl (by decide +kernel) nd_cok nd_i74_ok (by decide) nd_f0_ok nd_k0_ok nd_s74_ok (by decide +kernel)
-- PaperParcels.nodes(I)I
def nd_i82 : List (Nat × Instr × Nat) := [(0, .aload_n 0, 1), (1, .iload_n 1, 1), (2, .invokevirtual 85, 3), (5, .getfield 89, 3), (8, .ireturn, 1)]
theorem nd_i82_ok : am_ic prog_1_method_8_code nd_i82 = true := by decide +kernel
def nd_s82 : List nm_S := [(85, 83, false, 873)]
theorem nd_s82_ok : nd_s82.all (nm_schk nd_ct nd_ml "PaperParcels") = true := by decide +kernel
theorem nd_ok82 : am_ok nm_Ts nm_Tn nd_cl nd_mt nd_fr nd_lo 82 (am_in nd_i82) (am_fl nd_f0) (am_ct nd_k0) (am_sl nd_ml nd_s82) := nm_ok (x := 82) (ini := false) rfl (by decide +kernel) nd_cok nd_i82_ok (by decide) nd_f0_ok nd_k0_ok nd_s82_ok (by decide +kernel)
-- PaperParcels.inSlot(I)LPaperParcels$Paper;
def nd_i83 : List (Nat × Instr × Nat) := [(0, .iload_n 1, 1), (1, .ifCond .lt 8, 3), (4, .iload_n 1, 1), (5, .iconst 3, 1), (6, .if_icmp .lt 11, 3), (9, .new 64, 3), (12, .dup, 1), (13, .invokespecial 66, 3), (16, .athrow, 1), (17, .aload_n 0, 1), (18, .getfield 20, 3), (21, .iload_n 1, 1), (22, .aaload, 1), (23, .areturn, 1)]
theorem nd_i83_ok : am_ic prog_1_method_19_code nd_i83 = true := by decide +kernel
def nd_s83 : List nm_S := [(66, 23, false, 614)]
theorem nd_s83_ok : nd_s83.all (nm_schk nd_ct nd_ml "PaperParcels") = true := by decide +kernel
theorem nd_ok83 : am_ok nm_Ts nm_Tn nd_cl nd_mt nd_fr nd_lo 83 (am_in nd_i83) (am_fl nd_f0) (am_ct nd_k0) (am_sl nd_ml nd_s83) := nm_ok (x := 83) (ini := false) rfl (by decide +kernel) nd_cok nd_i83_ok (by decide) nd_f0_ok nd_k0_ok nd_s83_ok (by decide +kernel)
-- PaperParcels.kind(II)I
def nd_i84 : List (Nat × Instr × Nat) := [(0, .aload_n 0, 1), (1, .iload_n 1, 1), (2, .invokevirtual 85, 3), (5, .iload_n 2, 1), (6, .invokestatic 92, 3), (9, .getfield 96, 3), (12, .iload_n 2, 1), (13, .iaload, 1), (14, .ireturn, 1)]
theorem nd_i84_ok : am_ic prog_1_method_9_code nd_i84 = true := by decide +kernel
def nd_s84 : List nm_S := [(85, 83, false, 873), (92, 85, false, 885)]
theorem nd_s84_ok : nd_s84.all (nm_schk nd_ct nd_ml "PaperParcels") = true := by decide +kernel
theorem nd_ok84 : am_ok nm_Ts nm_Tn nd_cl nd_mt nd_fr nd_lo 84 (am_in nd_i84) (am_fl nd_f0) (am_ct nd_k0) (am_sl nd_ml nd_s84) := nm_ok (x := 84) (ini := false) rfl (by decide +kernel) nd_cok nd_i84_ok (by decide) nd_f0_ok nd_k0_ok nd_s84_ok (by decide +kernel)
-- PaperParcels.withNode(LPaperParcels$Paper;I)LPaperParcels$Paper;
def nd_i85 : List (Nat × Instr × Nat) := [(0, .iload_n 1, 1), (1, .ifCond .lt 11, 3), (4, .iload_n 1, 1), (5, .aload_n 0, 1), (6, .getfield 89, 3), (9, .if_icmp .lt 11, 3), (12, .new 124, 3), (15, .dup, 1), (16, .invokespecial 126, 3), (19, .athrow, 1), (20, .aload_n 0, 1), (21, .areturn, 1)]
theorem nd_i85_ok : am_ic prog_1_method_20_code nd_i85 = true := by decide +kernel
def nd_s85 : List nm_S := [(126, 86, false, 897)]
theorem nd_s85_ok : nd_s85.all (nm_schk nd_ct nd_ml "PaperParcels") = true := by decide +kernel
theorem nd_ok85 : am_ok nm_Ts nm_Tn nd_cl nd_mt nd_fr nd_lo 85 (am_in nd_i85) (am_fl nd_f0) (am_ct nd_k0) (am_sl nd_ml nd_s85) := nm_ok (x := 85) (ini := false) rfl (by decide +kernel) nd_cok nd_i85_ok (by decide) nd_f0_ok nd_k0_ok nd_s85_ok (by decide +kernel)
-- PaperParcels.above(II)I
def nd_i87 : List (Nat × Instr × Nat) := [(0, .aload_n 0, 1), (1, .iload_n 1, 1), (2, .invokevirtual 85, 3), (5, .iload_n 2, 1), (6, .invokestatic 92, 3), (9, .getfield 100, 3), (12, .iload_n 2, 1), (13, .iaload, 1), (14, .ireturn, 1)]
theorem nd_i87_ok : am_ic prog_1_method_10_code nd_i87 = true := by decide +kernel
def nd_s87 : List nm_S := [(85, 83, false, 873), (92, 85, false, 885)]
theorem nd_s87_ok : nd_s87.all (nm_schk nd_ct nd_ml "PaperParcels") = true := by decide +kernel
theorem nd_ok87 : am_ok nm_Ts nm_Tn nd_cl nd_mt nd_fr nd_lo 87 (am_in nd_i87) (am_fl nd_f0) (am_ct nd_k0) (am_sl nd_ml nd_s87) := nm_ok (x := 87) (ini := false) rfl (by decide +kernel) nd_cok nd_i87_ok (by decide) nd_f0_ok nd_k0_ok nd_s87_ok (by decide +kernel)
-- PaperParcels.look(III)I
def nd_i88 : List (Nat × Instr × Nat) := [(0, .aload_n 0, 1), (1, .iload_n 1, 1), (2, .invokevirtual 85, 3), (5, .astore 4, 2), (7, .iload_n 3, 1), (8, .ifCond .lt 8, 3), (11, .iload_n 3, 1), (12, .iconst 2, 1), (13, .if_icmp .le 11, 3), (16, .new 64, 3), (19, .dup, 1), (20, .invokespecial 66, 3), (23, .athrow, 1), (24, .aload 4, 2), (26, .iload_n 2, 1), (27, .invokestatic 92, 3), (30, .getfield 103, 3), (33, .iload_n 2, 1), (34, .iaload, 1), (35, .istore 5, 2), (37, .iload 5, 2), (39, .iconst (-1), 1), (40, .if_icmp .ne 7, 3), (43, .iconst (-1), 1), (44, .goto 9, 3), (47, .iload 5, 2), (49, .iload_n 3, 1), (50, .invokestatic 106, 3), (53, .ireturn, 1)]
theorem nd_i88_ok : am_ic prog_1_method_11_code nd_i88 = true := by decide +kernel
def nd_s88 : List nm_S := [(85, 83, false, 873), (66, 23, false, 614), (92, 85, false, 885), (106, 74, false, 917)]
theorem nd_s88_ok : nd_s88.all (nm_schk nd_ct nd_ml "PaperParcels") = true := by decide +kernel
theorem nd_ok88 : am_ok nm_Ts nm_Tn nd_cl nd_mt nd_fr nd_lo 88 (am_in nd_i88) (am_fl nd_f0) (am_ct nd_k0) (am_sl nd_ml nd_s88) := nm_ok (x := 88) (ini := false) rfl (by decide +kernel) nd_cok nd_i88_ok (by decide) nd_f0_ok nd_k0_ok nd_s88_ok (by decide +kernel)
-- PaperParcels.letters(II)I
def nd_i89 : List (Nat × Instr × Nat) := [(0, .aload_n 0, 1), (1, .iload_n 1, 1), (2, .invokevirtual 85, 3), (5, .iload_n 2, 1), (6, .invokestatic 92, 3), (9, .getfield 110, 3), (12, .iload_n 2, 1), (13, .iaload, 1), (14, .ireturn, 1)]
theorem nd_i89_ok : am_ic prog_1_method_12_code nd_i89 = true := by decide +kernel
def nd_s89 : List nm_S := [(85, 83, false, 873), (92, 85, false, 885)]
theorem nd_s89_ok : nd_s89.all (nm_schk nd_ct nd_ml "PaperParcels") = true := by decide +kernel
theorem nd_ok89 : am_ok nm_Ts nm_Tn nd_cl nd_mt nd_fr nd_lo 89 (am_in nd_i89) (am_fl nd_f0) (am_ct nd_k0) (am_sl nd_ml nd_s89) := nm_ok (x := 89) (ini := false) rfl (by decide +kernel) nd_cok nd_i89_ok (by decide) nd_f0_ok nd_k0_ok nd_s89_ok (by decide +kernel)
-- PaperParcels.letter(III)I
def nd_i90 : List (Nat × Instr × Nat) := [(0, .aload_n 0, 1), (1, .iload_n 1, 1), (2, .invokevirtual 85, 3), (5, .iload_n 2, 1), (6, .invokestatic 92, 3), (9, .iload_n 2, 1), (10, .iload_n 3, 1), (11, .invokevirtual 113, 3), (14, .ireturn, 1)]
theorem nd_i90_ok : am_ic prog_1_method_13_code nd_i90 = true := by decide +kernel
def nd_s90 : List nm_S := [(85, 83, false, 873), (92, 85, false, 885), (113, 91, false, 932)]
theorem nd_s90_ok : nd_s90.all (nm_schk nd_ct nd_ml "PaperParcels") = true := by decide +kernel
theorem nd_ok90 : am_ok nm_Ts nm_Tn nd_cl nd_mt nd_fr nd_lo 90 (am_in nd_i90) (am_fl nd_f0) (am_ct nd_k0) (am_sl nd_ml nd_s90) := nm_ok (x := 90) (ini := false) rfl (by decide +kernel) nd_cok nd_i90_ok (by decide) nd_f0_ok nd_k0_ok nd_s90_ok (by decide +kernel)
-- PaperParcels.compare()I
def nd_i92 : List (Nat × Instr × Nat) := [(0, .aload_n 0, 1), (1, .getfield 20, 3), (4, .iconst 0, 1), (5, .aaload, 1), (6, .getfield 89, 3), (9, .ifCond .eq 15, 3), (12, .aload_n 0, 1), (13, .getfield 20, 3), (16, .iconst 1, 1), (17, .aaload, 1), (18, .getfield 89, 3), (21, .ifCond .ne 11, 3), (24, .new 116, 3), (27, .dup, 1), (28, .invokespecial 118, 3), (31, .athrow, 1), (32, .aload_n 0, 1), (33, .getfield 39, 3), (36, .invokevirtual 119, 3), (39, .ireturn, 1)]
theorem nd_i92_ok : am_ic prog_1_method_14_code nd_i92 = true := by decide +kernel
def nd_s92 : List nm_S := [(118, 93, false, 953), (119, 94, false, 959)]
theorem nd_s92_ok : nd_s92.all (nm_schk nd_ct nd_ml "PaperParcels") = true := by decide +kernel
theorem nd_ok92 : am_ok nm_Ts nm_Tn nd_cl nd_mt nd_fr nd_lo 92 (am_in nd_i92) (am_fl nd_f0) (am_ct nd_k0) (am_sl nd_ml nd_s92) := nm_ok (x := 92) (ini := false) rfl (by decide +kernel) nd_cok nd_i92_ok (by decide) nd_f0_ok nd_k0_ok nd_s92_ok (by decide +kernel)
-- PaperParcels.step(IZ)I
def nd_i107 : List (Nat × Instr × Nat) := [(0, .iload_n 1, 1), (1, .ifCond .lt 14, 3), (4, .iload_n 1, 1), (5, .aload_n 0, 1), (6, .getfield 39, 3), (9, .getfield 123, 3), (12, .if_icmp .lt 11, 3), (15, .new 124, 3), (18, .dup, 1), (19, .invokespecial 126, 3), (22, .athrow, 1), (23, .iload_n 2, 1), (24, .ifCond .eq 15, 3), (27, .aload_n 0, 1), (28, .getfield 39, 3), (31, .getfield 127, 3), (34, .iload_n 1, 1), (35, .iaload, 1), (36, .goto 12, 3), (39, .aload_n 0, 1), (40, .getfield 39, 3), (43, .getfield 130, 3), (46, .iload_n 1, 1), (47, .iaload, 1), (48, .ireturn, 1)]
theorem nd_i107_ok : am_ic prog_1_method_16_code nd_i107 = true := by decide +kernel
def nd_s107 : List nm_S := [(126, 86, false, 897)]
theorem nd_s107_ok : nd_s107.all (nm_schk nd_ct nd_ml "PaperParcels") = true := by decide +kernel
theorem nd_ok107 : am_ok nm_Ts nm_Tn nd_cl nd_mt nd_fr nd_lo 107 (am_in nd_i107) (am_fl nd_f0) (am_ct nd_k0) (am_sl nd_ml nd_s107) := nm_ok (x := 107) (ini := false) rfl (by decide +kernel) nd_cok nd_i107_ok (by decide) nd_f0_ok nd_k0_ok nd_s107_ok (by decide +kernel)
-- PaperParcels.apply(I)I
def nd_i108 : List (Nat × Instr × Nat) := [(0, .aload_n 0, 1), (1, .getfield 39, 3), (4, .getfield 133, 3), (7, .ifCond .ne 11, 3), (10, .new 116, 3), (13, .dup, 1), (14, .invokespecial 118, 3), (17, .athrow, 1), (18, .iload_n 1, 1), (19, .ifCond .lt 14, 3), (22, .iload_n 1, 1), (23, .aload_n 0, 1), (24, .getfield 39, 3), (27, .getfield 123, 3), (30, .if_icmp .le 11, 3), (33, .new 64, 3), (36, .dup, 1), (37, .invokespecial 66, 3), (40, .athrow, 1), (41, .aload_n 0, 1), (42, .getfield 39, 3), (45, .iload_n 1, 1), (46, .invokevirtual 137, 3), (49, .aload_n 0, 1), (50, .getfield 20, 3), (53, .iconst 2, 1), (54, .aaload, 1), (55, .getfield 89, 3), (58, .ireturn, 1)]
theorem nd_i108_ok : am_ic prog_1_method_17_code nd_i108 = true := by decide +kernel
def nd_s108 : List nm_S := [(118, 93, false, 953), (66, 23, false, 614), (137, 109, false, 1028)]
theorem nd_s108_ok : nd_s108.all (nm_schk nd_ct nd_ml "PaperParcels") = true := by decide +kernel
theorem nd_ok108 : am_ok nm_Ts nm_Tn nd_cl nd_mt nd_fr nd_lo 108 (am_in nd_i108) (am_fl nd_f0) (am_ct nd_k0) (am_sl nd_ml nd_s108) := nm_ok (x := 108) (ini := false) rfl (by decide +kernel) nd_cok nd_i108_ok (by decide) nd_f0_ok nd_k0_ok nd_s108_ok (by decide +kernel)
-- PaperParcels.emit(II)I
def nd_i115 : List (Nat × Instr × Nat) := [(0, .aload_n 0, 1), (1, .iload_n 1, 1), (2, .invokevirtual 85, 3), (5, .astore_n 3, 1), (6, .iload_n 2, 1), (7, .ifCond .eq 16, 3), (10, .iload_n 2, 1), (11, .iconst 1, 1), (12, .if_icmp .eq 11, 3), (15, .new 64, 3), (18, .dup, 1), (19, .invokespecial 66, 3), (22, .athrow, 1), (23, .aload_n 3, 1), (24, .getfield 89, 3), (27, .ifCond .ne 11, 3), (30, .new 116, 3), (33, .dup, 1), (34, .invokespecial 118, 3), (37, .athrow, 1), (38, .aload_n 0, 1), (39, .getfield 46, 3), (42, .aload_n 3, 1), (43, .iload_n 2, 1), (44, .invokevirtual 140, 3), (47, .ifCond .ne 11, 3), (50, .new 144, 3), (53, .dup, 1), (54, .invokespecial 146, 3), (57, .athrow, 1), (58, .aload_n 0, 1), (59, .getfield 14, 3), (62, .invokevirtual 57, 3), (65, .aload_n 0, 1), (66, .getfield 14, 3), (69, .aload_n 0, 1), (70, .getfield 46, 3), (73, .getfield 147, 3), (76, .invokevirtual 150, 3), (79, .aload_n 0, 1), (80, .getfield 14, 3), (83, .getfield 50, 3), (86, .ireturn, 1)]
theorem nd_i115_ok : am_ic prog_1_method_18_code nd_i115 = true := by decide +kernel
def nd_s115 : List nm_S := [(85, 83, false, 873), (66, 23, false, 614), (118, 93, false, 953), (140, 116, false, 1063), (146, 145, false, 1209), (57, 15, false, 540), (150, 144, false, 1216)]
theorem nd_s115_ok : nd_s115.all (nm_schk nd_ct nd_ml "PaperParcels") = true := by decide +kernel
theorem nd_ok115 : am_ok nm_Ts nm_Tn nd_cl nd_mt nd_fr nd_lo 115 (am_in nd_i115) (am_fl nd_f0) (am_ct nd_k0) (am_sl nd_ml nd_s115) := nm_ok (x := 115) (ini := false) rfl (by decide +kernel) nd_cok nd_i115_ok (by decide) nd_f0_ok nd_k0_ok nd_s115_ok (by decide +kernel)
end
section
-- PaperParcels$Paper.clear()V
def nd_i71 : List (Nat × Instr × Nat) := [(0, .aload_n 0, 1), (1, .iconst 0, 1), (2, .putfield 36, 3), (5, .aload_n 0, 1), (6, .getfield 32, 3), (9, .invokevirtual 40, 3), (12, .return_, 1)]
theorem nd_i71_ok : am_ic prog_5_method_2_code nd_i71 = true := by decide +kernel
def nd_s71 : List nm_S := [(40, 15, false, 821)]
theorem nd_s71_ok : nd_s71.all (nm_schk nd_ct nd_ml "PaperParcels$Paper") = true := by decide +kernel
theorem nd_ok71 : am_ok nm_Ts nm_Tn nd_cl nd_mt nd_fr nd_lo 71 (am_in nd_i71) (am_fl nd_f2) (am_ct nd_k2) (am_sl nd_ml nd_s71) := nm_ok (x := 71) (ini := false) rfl (by decide +kernel) nd_cok nd_i71_ok (by decide) nd_f2_ok nd_k2_ok nd_s71_ok (by decide +kernel)
-- PaperParcels$Paper.add(III)Z
def nd_i75 : List (Nat × Instr × Nat) := [(0, .aload_n 0, 1), (1, .getfield 36, 3), (4, .aload_n 0, 1), (5, .getfield 9, 3), (8, .arraylength, 1), (9, .if_icmp .lt 5, 3), (12, .iconst 0, 1), (13, .ireturn, 1), (14, .aload_n 0, 1), (15, .getfield 9, 3), (18, .aload_n 0, 1), (19, .getfield 36, 3), (22, .iload_n 1, 1), (23, .iastore, 1), (24, .aload_n 0, 1), (25, .getfield 15, 3), (28, .aload_n 0, 1), (29, .getfield 36, 3), (32, .iload_n 2, 1), (33, .iastore, 1), (34, .aload_n 0, 1), (35, .getfield 18, 3), (38, .aload_n 0, 1), (39, .getfield 36, 3), (42, .iload_n 3, 1), (43, .iastore, 1), (44, .aload_n 0, 1), (45, .getfield 21, 3), (48, .aload_n 0, 1), (49, .getfield 36, 3), (52, .aload_n 0, 1), (53, .getfield 32, 3), (56, .getfield 43, 3), (59, .iastore, 1), (60, .aload_n 0, 1), (61, .getfield 24, 3), (64, .aload_n 0, 1), (65, .getfield 36, 3), (68, .iconst 0, 1), (69, .iastore, 1), (70, .aload_n 0, 1), (71, .dup, 1), (72, .getfield 36, 3), (75, .iconst 1, 1), (76, .iadd, 1), (77, .putfield 36, 3), (80, .iconst 1, 1), (81, .ireturn, 1)]
theorem nd_i75_ok : am_ic prog_5_method_3_code nd_i75 = true := by decide +kernel
def nd_s75 : List nm_S := []
theorem nd_s75_ok : nd_s75.all (nm_schk nd_ct nd_ml "PaperParcels$Paper") = true := by decide +kernel
theorem nd_ok75 : am_ok nm_Ts nm_Tn nd_cl nd_mt nd_fr nd_lo 75 (am_in nd_i75) (am_fl nd_f2) (am_ct nd_k2) (am_sl nd_ml nd_s75) := nm_ok (x := 75) (ini := false) rfl (by decide +kernel) nd_cok nd_i75_ok (by decide) nd_f2_ok nd_k2_ok nd_s75_ok (by decide +kernel)
-- PaperParcels$Paper.endsInRun(I)Z
def nd_i77 : List (Nat × Instr × Nat) := [(0, .aload_n 0, 1), (1, .getfield 36, 3), (4, .ifCond .le 37, 3), (7, .aload_n 0, 1), (8, .getfield 9, 3), (11, .aload_n 0, 1), (12, .getfield 36, 3), (15, .iconst 1, 1), (16, .isub, 1), (17, .iaload, 1), (18, .iconst 2, 1), (19, .if_icmp .ne 22, 3), (22, .aload_n 0, 1), (23, .getfield 18, 3), (26, .aload_n 0, 1), (27, .getfield 36, 3), (30, .iconst 1, 1), (31, .isub, 1), (32, .iaload, 1), (33, .iload_n 1, 1), (34, .if_icmp .ne 7, 3), (37, .iconst 1, 1), (38, .goto 4, 3), (41, .iconst 0, 1), (42, .ireturn, 1)]
theorem nd_i77_ok : am_ic prog_5_method_8_code nd_i77 = true := by decide +kernel
def nd_s77 : List nm_S := []
theorem nd_s77_ok : nd_s77.all (nm_schk nd_ct nd_ml "PaperParcels$Paper") = true := by decide +kernel
theorem nd_ok77 : am_ok nm_Ts nm_Tn nd_cl nd_mt nd_fr nd_lo 77 (am_in nd_i77) (am_fl nd_f2) (am_ct nd_k2) (am_sl nd_ml nd_s77) := nm_ok (x := 77) (ini := false) rfl (by decide +kernel) nd_cok nd_i77_ok (by decide) nd_f2_ok nd_k2_ok nd_s77_ok (by decide +kernel)
-- PaperParcels$Paper.addSign(I)V
def nd_i78 : List (Nat × Instr × Nat) := [(0, .aload_n 0, 1), (1, .getfield 36, 3), (4, .ifCond .le 41, 3), (7, .aload_n 0, 1), (8, .getfield 32, 3), (11, .iload_n 1, 1), (12, .invokevirtual 46, 3), (15, .aload_n 0, 1), (16, .getfield 24, 3), (19, .aload_n 0, 1), (20, .getfield 36, 3), (23, .iconst 1, 1), (24, .isub, 1), (25, .aload_n 0, 1), (26, .getfield 32, 3), (29, .getfield 43, 3), (32, .aload_n 0, 1), (33, .getfield 21, 3), (36, .aload_n 0, 1), (37, .getfield 36, 3), (40, .iconst 1, 1), (41, .isub, 1), (42, .iaload, 1), (43, .isub, 1), (44, .iastore, 1), (45, .return_, 1)]
theorem nd_i78_ok : am_ic prog_5_method_4_code nd_i78 = true := by decide +kernel
def nd_s78 : List nm_S := [(46, 13, false, 850)]
theorem nd_s78_ok : nd_s78.all (nm_schk nd_ct nd_ml "PaperParcels$Paper") = true := by decide +kernel
theorem nd_ok78 : am_ok nm_Ts nm_Tn nd_cl nd_mt nd_fr nd_lo 78 (am_in nd_i78) (am_fl nd_f2) (am_ct nd_k2) (am_sl nd_ml nd_s78) := nm_ok (x := 78) (ini := false) rfl (by decide +kernel) nd_cok nd_i78_ok (by decide) nd_f2_ok nd_k2_ok nd_s78_ok (by decide +kernel)
-- PaperParcels$Paper.copyFrom(LPaperParcels$Paper;)V
def nd_i79 : List (Nat × Instr × Nat) := [(0, .aload_n 0, 1), (1, .invokevirtual 57, 3), (4, .iconst 0, 1), (5, .istore_n 2, 1), (6, .iload_n 2, 1), (7, .aload_n 1, 1), (8, .getfield 36, 3), (11, .if_icmp .ge 21, 3), (14, .aload_n 0, 1), (15, .aload_n 1, 1), (16, .iload_n 2, 1), (17, .aload_n 1, 1), (18, .getfield 15, 3), (21, .iload_n 2, 1), (22, .iaload, 1), (23, .invokevirtual 58, 3), (26, .iinc 2 1, 3), (29, .goto (-23), 3), (32, .return_, 1)]
theorem nd_i79_ok : am_ic prog_5_method_6_code nd_i79 = true := by decide +kernel
def nd_s79 : List nm_S := [(57, 71, false, 855), (58, 80, false, 856)]
theorem nd_s79_ok : nd_s79.all (nm_schk nd_ct nd_ml "PaperParcels$Paper") = true := by decide +kernel
theorem nd_ok79 : am_ok nm_Ts nm_Tn nd_cl nd_mt nd_fr nd_lo 79 (am_in nd_i79) (am_fl nd_f2) (am_ct nd_k2) (am_sl nd_ml nd_s79) := nm_ok (x := 79) (ini := false) rfl (by decide +kernel) nd_cok nd_i79_ok (by decide) nd_f2_ok nd_k2_ok nd_s79_ok (by decide +kernel)
-- PaperParcels$Paper.addCopy(LPaperParcels$Paper;II)V
def nd_i80 : List (Nat × Instr × Nat) := [(0, .aload_n 0, 1), (1, .aload_n 1, 1), (2, .getfield 9, 3), (5, .iload_n 2, 1), (6, .iaload, 1), (7, .iload_n 3, 1), (8, .aload_n 1, 1), (9, .getfield 18, 3), (12, .iload_n 2, 1), (13, .iaload, 1), (14, .invokevirtual 49, 3), (17, .ifCond .eq 76, 3), (20, .iconst 0, 1), (21, .istore 4, 2), (23, .iload 4, 2), (25, .aload_n 1, 1), (26, .getfield 24, 3), (29, .iload_n 2, 1), (30, .iaload, 1), (31, .if_icmp .ge 32, 3), (34, .aload_n 0, 1), (35, .getfield 32, 3), (38, .aload_n 1, 1), (39, .getfield 32, 3), (42, .aload_n 1, 1), (43, .getfield 21, 3), (46, .iload_n 2, 1), (47, .iaload, 1), (48, .iload 4, 2), (50, .iadd, 1), (51, .invokevirtual 53, 3), (54, .invokevirtual 46, 3), (57, .iinc 4 1, 3), (60, .goto (-37), 3), (63, .aload_n 0, 1), (64, .getfield 24, 3), (67, .aload_n 0, 1), (68, .getfield 36, 3), (71, .iconst 1, 1), (72, .isub, 1), (73, .aload_n 0, 1), (74, .getfield 32, 3), (77, .getfield 43, 3), (80, .aload_n 0, 1), (81, .getfield 21, 3), (84, .aload_n 0, 1), (85, .getfield 36, 3), (88, .iconst 1, 1), (89, .isub, 1), (90, .iaload, 1), (91, .isub, 1), (92, .iastore, 1), (93, .return_, 1)]
theorem nd_i80_ok : am_ic prog_5_method_5_code nd_i80 = true := by decide +kernel
def nd_s80 : List nm_S := [(49, 75, false, 860), (53, 18, false, 861), (46, 13, false, 850)]
theorem nd_s80_ok : nd_s80.all (nm_schk nd_ct nd_ml "PaperParcels$Paper") = true := by decide +kernel
theorem nd_ok80 : am_ok nm_Ts nm_Tn nd_cl nd_mt nd_fr nd_lo 80 (am_in nd_i80) (am_fl nd_f2) (am_ct nd_k2) (am_sl nd_ml nd_s80) := nm_ok (x := 80) (ini := false) rfl (by decide +kernel) nd_cok nd_i80_ok (by decide) nd_f2_ok nd_k2_ok nd_s80_ok (by decide +kernel)
-- PaperParcels$Paper.signAt(II)I
def nd_i91 : List (Nat × Instr × Nat) := [(0, .iload_n 2, 1), (1, .ifCond .lt 31, 3), (4, .iload_n 2, 1), (5, .aload_n 0, 1), (6, .getfield 24, 3), (9, .iload_n 1, 1), (10, .iaload, 1), (11, .if_icmp .ge 21, 3), (14, .aload_n 0, 1), (15, .getfield 32, 3), (18, .aload_n 0, 1), (19, .getfield 21, 3), (22, .iload_n 1, 1), (23, .iaload, 1), (24, .iload_n 2, 1), (25, .iadd, 1), (26, .invokevirtual 53, 3), (29, .goto 4, 3), (32, .iconst (-1), 1), (33, .ireturn, 1)]
theorem nd_i91_ok : am_ic prog_5_method_7_code nd_i91 = true := by decide +kernel
def nd_s91 : List nm_S := [(53, 18, false, 861)]
theorem nd_s91_ok : nd_s91.all (nm_schk nd_ct nd_ml "PaperParcels$Paper") = true := by decide +kernel
theorem nd_ok91 : am_ok nm_Ts nm_Tn nd_cl nd_mt nd_fr nd_lo 91 (am_in nd_i91) (am_fl nd_f2) (am_ct nd_k2) (am_sl nd_ml nd_s91) := nm_ok (x := 91) (ini := false) rfl (by decide +kernel) nd_cok nd_i91_ok (by decide) nd_f2_ok nd_k2_ok nd_s91_ok (by decide +kernel)
-- PaperParcels$Paper.isEmptyNode(I)Z
def nd_i139 : List (Nat × Instr × Nat) := [(0, .iload_n 1, 1), (1, .iconst 1, 1), (2, .iadd, 1), (3, .aload_n 0, 1), (4, .getfield 36, 3), (7, .if_icmp .ge 15, 3), (10, .aload_n 0, 1), (11, .getfield 15, 3), (14, .iload_n 1, 1), (15, .iconst 1, 1), (16, .iadd, 1), (17, .iaload, 1), (18, .iload_n 1, 1), (19, .if_icmp .eq 7, 3), (22, .iconst 1, 1), (23, .goto 4, 3), (26, .iconst 0, 1), (27, .ireturn, 1)]
theorem nd_i139_ok : am_ic prog_5_method_9_code nd_i139 = true := by decide +kernel
def nd_s139 : List nm_S := []
theorem nd_s139_ok : nd_s139.all (nm_schk nd_ct nd_ml "PaperParcels$Paper") = true := by decide +kernel
theorem nd_ok139 : am_ok nm_Ts nm_Tn nd_cl nd_mt nd_fr nd_lo 139 (am_in nd_i139) (am_fl nd_f2) (am_ct nd_k2) (am_sl nd_ml nd_s139) := nm_ok (x := 139) (ini := false) rfl (by decide +kernel) nd_cok nd_i139_ok (by decide) nd_f2_ok nd_k2_ok nd_s139_ok (by decide +kernel)
end
section
-- PaperParcels$Part.scan(LPaperParcels$Row;I)I
def nd_i28 : List (Nat × Instr × Nat) := [(0, .aload_n 1, 1), (1, .iload_n 2, 1), (2, .invokevirtual 24, 3), (5, .aload_n 0, 1), (6, .getfield 9, 3), (9, .if_icmp .eq 5, 3), (12, .iload_n 2, 1), (13, .ireturn, 1), (14, .aload_n 1, 1), (15, .iload_n 2, 1), (16, .iconst 1, 1), (17, .iadd, 1), (18, .invokevirtual 24, 3), (21, .istore_n 3, 1), (22, .iload_n 3, 1), (23, .bipush 48, 2), (25, .if_icmp .eq 13, 3), (28, .iload_n 3, 1), (29, .bipush 49, 2), (31, .if_icmp .eq 7, 3), (34, .iload_n 2, 1), (35, .iconst 1, 1), (36, .iadd, 1), (37, .ireturn, 1), (38, .iconst 0, 1), (39, .istore 4, 2), (41, .iload_n 2, 1), (42, .iconst 2, 1), (43, .iadd, 1), (44, .istore 5, 2), (46, .iload 5, 2), (48, .iload_n 2, 1), (49, .iconst 5, 1), (50, .iadd, 1), (51, .if_icmp .ge 41, 3), (54, .aload_n 1, 1), (55, .iload 5, 2), (57, .invokevirtual 24, 3), (60, .invokestatic 28, 3), (63, .ifCond .ne 6, 3), (66, .iload 5, 2), (68, .ireturn, 1), (69, .bipush 10, 2), (71, .iload 4, 2), (73, .imul, 1), (74, .aload_n 1, 1), (75, .iload 5, 2), (77, .invokevirtual 24, 3), (80, .iadd, 1), (81, .bipush 48, 2), (83, .isub, 1), (84, .istore 4, 2), (86, .iinc 5 1, 3), (89, .goto (-43), 3), (92, .aload_n 0, 1), (93, .iload_n 3, 1), (94, .bipush 49, 2), (96, .if_icmp .ne 7, 3), (99, .iconst 1, 1), (100, .goto 4, 3), (103, .iconst 0, 1), (104, .putfield 32, 3), (107, .aload_n 0, 1), (108, .iload_n 2, 1), (109, .iconst 5, 1), (110, .iadd, 1), (111, .putfield 36, 3), (114, .aload_n 0, 1), (115, .aload_n 0, 1), (116, .getfield 36, 3), (119, .iload 4, 2), (121, .iadd, 1), (122, .putfield 39, 3), (125, .aload_n 0, 1), (126, .getfield 39, 3), (129, .istore 5, 2), (131, .iload 5, 2), (133, .aload_n 0, 1), (134, .getfield 39, 3), (137, .iconst 4, 1), (138, .iadd, 1), (139, .if_icmp .ge 31, 3), (142, .aload_n 1, 1), (143, .iload 5, 2), (145, .invokevirtual 24, 3), (148, .invokestatic 42, 3), (151, .ifCond .ne 13, 3), (154, .iload 5, 2), (156, .aload_n 1, 1), (157, .getfield 45, 3), (160, .invokestatic 48, 3), (163, .ireturn, 1), (164, .iinc 5 1, 3), (167, .goto (-36), 3), (170, .iconst (-1), 1), (171, .ireturn, 1)]
theorem nd_i28_ok : am_ic prog_6_method_2_code nd_i28 = true := by decide +kernel
def nd_s28 : List nm_S := [(24, 18, false, 648), (28, 29, true, 649), (42, 30, false, 652), (48, 31, false, 655)]
theorem nd_s28_ok : nd_s28.all (nm_schk nd_ct nd_ml "PaperParcels$Part") = true := by decide +kernel
theorem nd_ok28 : am_ok nm_Ts nm_Tn nd_cl nd_mt nd_fr nd_lo 28 (am_in nd_i28) (am_fl nd_f4) (am_ct nd_k4) (am_sl nd_ml nd_s28) := nm_ok (x := 28) (ini := false) rfl (by decide +kernel) nd_cok nd_i28_ok (by decide) nd_f4_ok nd_k4_ok nd_s28_ok (by decide +kernel)
-- PaperParcels$Part.isHex(I)Z
def nd_i30 : List (Nat × Instr × Nat) := [(0, .iload_n 0, 1), (1, .invokestatic 28, 3), (4, .ifCond .ne 15, 3), (7, .iload_n 0, 1), (8, .bipush 97, 2), (10, .if_icmp .lt 13, 3), (13, .iload_n 0, 1), (14, .bipush 102, 2), (16, .if_icmp .gt 7, 3), (19, .iconst 1, 1), (20, .goto 4, 3), (23, .iconst 0, 1), (24, .ireturn, 1)]
theorem nd_i30_ok : am_ic prog_6_method_4_code nd_i30 = true := by decide +kernel
def nd_s30 : List nm_S := [(28, 29, true, 649)]
theorem nd_s30_ok : nd_s30.all (nm_schk nd_ct nd_ml "PaperParcels$Part") = true := by decide +kernel
theorem nd_ok30 : am_ok nm_Ts nm_Tn nd_cl nd_mt nd_fr nd_lo 30 (am_in nd_i30) (am_fl nd_f4) (am_ct nd_k4) (am_sl nd_ml nd_s30) := nm_ok (x := 30) (ini := false) rfl (by decide +kernel) nd_cok nd_i30_ok (by decide) nd_f4_ok nd_k4_ok nd_s30_ok (by decide +kernel)
-- PaperParcels$Part.end()I
def nd_i32 : List (Nat × Instr × Nat) := [(0, .aload_n 0, 1), (1, .getfield 39, 3), (4, .iconst 4, 1), (5, .iadd, 1), (6, .ireturn, 1)]
theorem nd_i32_ok : am_ic prog_6_method_3_code nd_i32 = true := by decide +kernel
def nd_s32 : List nm_S := []
theorem nd_s32_ok : nd_s32.all (nm_schk nd_ct nd_ml "PaperParcels$Part") = true := by decide +kernel
theorem nd_ok32 : am_ok nm_Ts nm_Tn nd_cl nd_mt nd_fr nd_lo 32 (am_in nd_i32) (am_fl nd_f4) (am_ct nd_k4) (am_sl nd_ml nd_s32) := nm_ok (x := 32) (ini := false) rfl (by decide +kernel) nd_cok nd_i32_ok (by decide) nd_f4_ok nd_k4_ok nd_s32_ok (by decide +kernel)
-- PaperParcels$Part.unpack(LPaperParcels$Row;)I
def nd_i35 : List (Nat × Instr × Nat) := [(0, .aload_n 0, 1), (1, .getfield 20, 3), (4, .invokevirtual 54, 3), (7, .aload_n 0, 1), (8, .getfield 36, 3), (11, .istore_n 2, 1), (12, .iload_n 2, 1), (13, .aload_n 0, 1), (14, .getfield 39, 3), (17, .if_icmp .ge 69, 3), (20, .iload_n 2, 1), (21, .istore_n 3, 1), (22, .aload_n 0, 1), (23, .getfield 32, 3), (26, .ifCond .eq 30, 3), (29, .aload_n 1, 1), (30, .iload_n 2, 1), (31, .invokevirtual 24, 3), (34, .bipush 126, 2), (36, .if_icmp .ne 20, 3), (39, .aload_n 0, 1), (40, .aload_n 1, 1), (41, .iload_n 2, 1), (42, .invokevirtual 57, 3), (45, .ifCond .ne 5, 3), (48, .iload_n 3, 1), (49, .ireturn, 1), (50, .iinc 2 3, 3), (53, .goto 15, 3), (56, .aload_n 0, 1), (57, .getfield 20, 3), (60, .aload_n 1, 1), (61, .iload_n 2, 1), (62, .invokevirtual 24, 3), (65, .invokevirtual 61, 3), (68, .aload_n 0, 1), (69, .getfield 20, 3), (72, .getfield 64, 3), (75, .ifCond .eq 5, 3), (78, .iload_n 3, 1), (79, .ireturn, 1), (80, .iinc 2 1, 3), (83, .goto (-71), 3), (86, .iconst (-1), 1), (87, .ireturn, 1)]
theorem nd_i35_ok : am_ic prog_6_method_5_code nd_i35 = true := by decide +kernel
def nd_s35 : List nm_S := [(54, 15, false, 674), (24, 18, false, 648), (57, 36, false, 675), (61, 13, false, 679)]
theorem nd_s35_ok : nd_s35.all (nm_schk nd_ct nd_ml "PaperParcels$Part") = true := by decide +kernel
theorem nd_ok35 : am_ok nm_Ts nm_Tn nd_cl nd_mt nd_fr nd_lo 35 (am_in nd_i35) (am_fl nd_f4) (am_ct nd_k4) (am_sl nd_ml nd_s35) := nm_ok (x := 35) (ini := false) rfl (by decide +kernel) nd_cok nd_i35_ok (by decide) nd_f4_ok nd_k4_ok nd_s35_ok (by decide +kernel)
-- PaperParcels$Part.follow(LPaperParcels$Row;I)Z
def nd_i36 : List (Nat × Instr × Nat) := [(0, .iload_n 2, 1), (1, .iconst 3, 1), (2, .iadd, 1), (3, .aload_n 0, 1), (4, .getfield 39, 3), (7, .if_icmp .lt 5, 3), (10, .iconst 0, 1), (11, .ireturn, 1), (12, .iload_n 2, 1), (13, .iconst 1, 1), (14, .iadd, 1), (15, .istore_n 3, 1), (16, .iload_n 3, 1), (17, .iload_n 2, 1), (18, .iconst 3, 1), (19, .iadd, 1), (20, .if_icmp .gt 22, 3), (23, .aload_n 1, 1), (24, .iload_n 3, 1), (25, .invokevirtual 24, 3), (28, .invokestatic 28, 3), (31, .ifCond .ne 5, 3), (34, .iconst 0, 1), (35, .ireturn, 1), (36, .iinc 3 1, 3), (39, .goto (-23), 3), (42, .bipush 10, 2), (44, .aload_n 1, 1), (45, .iload_n 2, 1), (46, .iconst 1, 1), (47, .iadd, 1), (48, .invokevirtual 24, 3), (51, .bipush 48, 2), (53, .isub, 1), (54, .imul, 1), (55, .aload_n 1, 1), (56, .iload_n 2, 1), (57, .iconst 2, 1), (58, .iadd, 1), (59, .invokevirtual 24, 3), (62, .iadd, 1), (63, .bipush 48, 2), (65, .isub, 1), (66, .istore_n 3, 1), (67, .iload_n 3, 1), (68, .ifCond .eq 14, 3), (71, .iload_n 3, 1), (72, .aload_n 0, 1), (73, .getfield 20, 3), (76, .getfield 45, 3), (79, .if_icmp .le 5, 3), (82, .iconst 0, 1), (83, .ireturn, 1), (84, .aload_n 1, 1), (85, .iload_n 2, 1), (86, .iconst 3, 1), (87, .iadd, 1), (88, .invokevirtual 24, 3), (91, .bipush 48, 2), (93, .isub, 1), (94, .iconst 5, 1), (95, .iadd, 1), (96, .istore 4, 2), (98, .iconst 0, 1), (99, .istore 5, 2), (101, .iload 5, 2), (103, .iload 4, 2), (105, .if_icmp .ge 32, 3), (108, .aload_n 0, 1), (109, .getfield 20, 3), (112, .aload_n 0, 1), (113, .getfield 20, 3), (116, .aload_n 0, 1), (117, .getfield 20, 3), (120, .getfield 45, 3), (123, .iload_n 3, 1), (124, .isub, 1), (125, .invokevirtual 24, 3), (128, .invokevirtual 61, 3), (131, .iinc 5 1, 3), (134, .goto (-33), 3), (137, .iconst 1, 1), (138, .ireturn, 1)]
theorem nd_i36_ok : am_ic prog_6_method_6_code nd_i36 = true := by decide +kernel
def nd_s36 : List nm_S := [(24, 18, false, 648), (28, 29, true, 649), (61, 13, false, 679)]
theorem nd_s36_ok : nd_s36.all (nm_schk nd_ct nd_ml "PaperParcels$Part") = true := by decide +kernel
theorem nd_ok36 : am_ok nm_Ts nm_Tn nd_cl nd_mt nd_fr nd_lo 36 (am_in nd_i36) (am_fl nd_f4) (am_ct nd_k4) (am_sl nd_ml nd_s36) := nm_ok (x := 36) (ini := false) rfl (by decide +kernel) nd_cok nd_i36_ok (by decide) nd_f4_ok nd_k4_ok nd_s36_ok (by decide +kernel)
-- PaperParcels$Part.checkFault(LPaperParcels$Row;)I
def nd_i37 : List (Nat × Instr × Nat) := [(0, .aload_n 0, 1), (1, .getfield 20, 3), (4, .invokevirtual 67, 3), (7, .istore_n 2, 1), (8, .iconst 0, 1), (9, .istore_n 3, 1), (10, .iload_n 3, 1), (11, .iconst 4, 1), (12, .if_icmp .ge 41, 3), (15, .aload_n 1, 1), (16, .aload_n 0, 1), (17, .getfield 39, 3), (20, .iload_n 3, 1), (21, .iadd, 1), (22, .invokevirtual 24, 3), (25, .iload_n 2, 1), (26, .bipush 12, 2), (28, .iconst 4, 1), (29, .iload_n 3, 1), (30, .imul, 1), (31, .isub, 1), (32, .ishr, 1), (33, .bipush 15, 2), (35, .iand, 1), (36, .invokestatic 71, 3), (39, .if_icmp .eq 8, 3), (42, .aload_n 0, 1), (43, .getfield 39, 3), (46, .ireturn, 1), (47, .iinc 3 1, 3), (50, .goto (-40), 3), (53, .iconst (-1), 1), (54, .ireturn, 1)]
theorem nd_i37_ok : am_ic prog_6_method_7_code nd_i37 = true := by decide +kernel
def nd_s37 : List nm_S := [(67, 38, false, 684), (24, 18, false, 648), (71, 39, true, 690)]
theorem nd_s37_ok : nd_s37.all (nm_schk nd_ct nd_ml "PaperParcels$Part") = true := by decide +kernel
theorem nd_ok37 : am_ok nm_Ts nm_Tn nd_cl nd_mt nd_fr nd_lo 37 (am_in nd_i37) (am_fl nd_f4) (am_ct nd_k4) (am_sl nd_ml nd_s37) := nm_ok (x := 37) (ini := false) rfl (by decide +kernel) nd_cok nd_i37_ok (by decide) nd_f4_ok nd_k4_ok nd_s37_ok (by decide +kernel)
end
section
-- PaperParcels$Elements.parse()I
def nd_i40 : List (Nat × Instr × Nat) := [(0, .aload_n 0, 1), (1, .iconst 0, 1), (2, .putfield 40, 3), (5, .aload_n 0, 1), (6, .iconst 0, 1), (7, .putfield 44, 3), (10, .aload_n 0, 1), (11, .iconst 0, 1), (12, .putfield 47, 3), (15, .aload_n 0, 1), (16, .iconst (-1), 1), (17, .putfield 50, 3), (20, .aload_n 0, 1), (21, .iconst 0, 1), (22, .putfield 53, 3), (25, .aload_n 0, 1), (26, .getfield 37, 3), (29, .iconst (-1), 1), (30, .invokestatic 56, 3), (33, .iconst 1, 1), (34, .istore_n 1, 1), (35, .iconst 0, 1), (36, .istore_n 2, 1), (37, .iload_n 2, 1), (38, .sipush 300, 3), (41, .if_icmp .ge 121, 3), (44, .iload_n 1, 1), (45, .ifCond .eq 117, 3), (48, .aload_n 0, 1), (49, .getfield 47, 3), (52, .aload_n 0, 1), (53, .getfield 9, 3), (56, .getfield 62, 3), (59, .if_icmp .ge 103, 3), (62, .aload_n 0, 1), (63, .getfield 9, 3), (66, .aload_n 0, 1), (67, .getfield 47, 3), (70, .invokevirtual 67, 3), (73, .istore_n 3, 1), (74, .aload_n 0, 1), (75, .getfield 50, 3), (78, .iconst (-1), 1), (79, .if_icmp .ne 32, 3), (82, .aload_n 0, 1), (83, .getfield 40, 3), (86, .ifCond .ne 20, 3), (89, .iload_n 3, 1), (90, .bipush 60, 2), (92, .if_icmp .ne 14, 3), (95, .aload_n 0, 1), (96, .invokevirtual 70, 3), (99, .ifCond .eq 7, 3), (102, .iconst 1, 1), (103, .goto 4, 3), (106, .iconst 0, 1), (107, .istore_n 1, 1), (108, .goto 48, 3), (111, .iload_n 3, 1), (112, .bipush 60, 2), (114, .if_icmp .ne 36, 3), (117, .aload_n 0, 1), (118, .getfield 9, 3), (121, .aload_n 0, 1), (122, .getfield 47, 3), (125, .iconst 1, 1), (126, .iadd, 1), (127, .invokevirtual 67, 3), (130, .bipush 47, 2), (132, .if_icmp .ne 10, 3), (135, .aload_n 0, 1), (136, .invokevirtual 74, 3), (139, .goto 7, 3), (142, .aload_n 0, 1), (143, .invokevirtual 70, 3), (146, .istore_n 1, 1), (147, .goto 9, 3), (150, .aload_n 0, 1), (151, .iload_n 3, 1), (152, .invokevirtual 77, 3), (155, .istore_n 1, 1), (156, .iinc 2 1, 3), (159, .goto (-122), 3), (162, .iload_n 1, 1), (163, .ifCond .eq 22, 3), (166, .aload_n 0, 1), (167, .getfield 40, 3), (170, .ifCond .le 15, 3), (173, .aload_n 0, 1), (174, .getfield 50, 3), (177, .iconst (-1), 1), (178, .if_icmp .ne 7, 3), (181, .iconst (-1), 1), (182, .goto 7, 3), (185, .aload_n 0, 1), (186, .getfield 47, 3), (189, .ireturn, 1)]
theorem nd_i40_ok : am_ic prog_3_method_2_code nd_i40 = true := by decide +kernel
def nd_s40 : List nm_S := [(56, 41, false, 697), (67, 18, false, 700), (70, 42, false, 701), (74, 50, false, 731), (77, 51, false, 735)]
theorem nd_s40_ok : nd_s40.all (nm_schk nd_ct nd_ml "PaperParcels$Elements") = true := by decide +kernel
theorem nd_ok40 : am_ok nm_Ts nm_Tn nd_cl nd_mt nd_fr nd_lo 40 (am_in nd_i40) (am_fl nd_f5) (am_ct nd_k5) (am_sl nd_ml nd_s40) := nm_ok (x := 40) (ini := false) rfl (by decide +kernel) nd_cok nd_i40_ok (by decide) nd_f5_ok nd_k5_ok nd_s40_ok (by decide +kernel)
-- PaperParcels$Elements.takeBegin()Z
def nd_i42 : List (Nat × Instr × Nat) := [(0, .aload_n 0, 1), (1, .getfield 40, 3), (4, .bipush 30, 2), (6, .if_icmp .eq 12, 3), (9, .aload_n 0, 1), (10, .getfield 53, 3), (13, .bipush 8, 2), (15, .if_icmp .ne 5, 3), (18, .iconst 0, 1), (19, .ireturn, 1), (20, .aload_n 0, 1), (21, .getfield 47, 3), (24, .istore_n 1, 1), (25, .aload_n 0, 1), (26, .dup, 1), (27, .getfield 47, 3), (30, .iconst 1, 1), (31, .iadd, 1), (32, .putfield 47, 3), (35, .aload_n 0, 1), (36, .getfield 9, 3), (39, .aload_n 0, 1), (40, .getfield 47, 3), (43, .invokevirtual 67, 3), (46, .invokestatic 81, 3), (49, .ifCond .ne 5, 3), (52, .iconst 0, 1), (53, .ireturn, 1), (54, .aload_n 0, 1), (55, .iload_n 1, 1), (56, .invokevirtual 84, 3), (59, .istore_n 2, 1), (60, .aload_n 0, 1), (61, .dup, 1), (62, .getfield 47, 3), (65, .iconst 1, 1), (66, .iadd, 1), (67, .putfield 47, 3), (70, .iconst 0, 1), (71, .istore_n 3, 1), (72, .iload_n 3, 1), (73, .bipush 60, 2), (75, .if_icmp .ge 35, 3), (78, .aload_n 0, 1), (79, .getfield 9, 3), (82, .aload_n 0, 1), (83, .getfield 47, 3), (86, .invokevirtual 67, 3), (89, .bipush 32, 2), (91, .if_icmp .ne 19, 3), (94, .aload_n 0, 1), (95, .iload_n 2, 1), (96, .invokevirtual 87, 3), (99, .ifCond .ne 5, 3), (102, .iconst 0, 1), (103, .ireturn, 1), (104, .iinc 3 1, 3), (107, .goto (-35), 3), (110, .aload_n 0, 1), (111, .getfield 9, 3), (114, .aload_n 0, 1), (115, .getfield 47, 3), (118, .invokevirtual 67, 3), (121, .bipush 47, 2), (123, .if_icmp .ne 20, 3), (126, .aload_n 0, 1), (127, .dup, 1), (128, .getfield 47, 3), (131, .iconst 1, 1), (132, .iadd, 1), (133, .putfield 47, 3), (136, .aload_n 0, 1), (137, .bipush 62, 2), (139, .invokevirtual 90, 3), (142, .ireturn, 1), (143, .aload_n 0, 1), (144, .iload_n 2, 1), (145, .putfield 50, 3), (148, .aload_n 0, 1), (149, .dup, 1), (150, .getfield 53, 3), (153, .iconst 1, 1), (154, .iadd, 1), (155, .putfield 53, 3), (158, .aload_n 0, 1), (159, .bipush 62, 2), (161, .invokevirtual 90, 3), (164, .ireturn, 1)]
theorem nd_i42_ok : am_ic prog_3_method_4_code nd_i42 = true := by decide +kernel
def nd_s42 : List nm_S := [(67, 18, false, 700), (81, 43, true, 705), (84, 44, false, 708), (87, 45, false, 712), (90, 47, false, 720)]
theorem nd_s42_ok : nd_s42.all (nm_schk nd_ct nd_ml "PaperParcels$Elements") = true := by decide +kernel
theorem nd_ok42 : am_ok nm_Ts nm_Tn nd_cl nd_mt nd_fr nd_lo 42 (am_in nd_i42) (am_fl nd_f5) (am_ct nd_k5) (am_sl nd_ml nd_s42) := nm_ok (x := 42) (ini := false) rfl (by decide +kernel) nd_cok nd_i42_ok (by decide) nd_f5_ok nd_k5_ok nd_s42_ok (by decide +kernel)
-- PaperParcels$Elements.addElement(I)I
def nd_i44 : List (Nat × Instr × Nat) := [(0, .aload_n 0, 1), (1, .getfield 15, 3), (4, .aload_n 0, 1), (5, .getfield 40, 3), (8, .aload_n 0, 1), (9, .getfield 9, 3), (12, .iload_n 1, 1), (13, .iconst 1, 1), (14, .iadd, 1), (15, .invokevirtual 67, 3), (18, .iastore, 1), (19, .aload_n 0, 1), (20, .getfield 19, 3), (23, .aload_n 0, 1), (24, .getfield 40, 3), (27, .iload_n 1, 1), (28, .iastore, 1), (29, .aload_n 0, 1), (30, .getfield 22, 3), (33, .aload_n 0, 1), (34, .getfield 40, 3), (37, .aload_n 0, 1), (38, .getfield 50, 3), (41, .iastore, 1), (42, .aload_n 0, 1), (43, .getfield 25, 3), (46, .aload_n 0, 1), (47, .getfield 40, 3), (50, .aload_n 0, 1), (51, .getfield 44, 3), (54, .iastore, 1), (55, .aload_n 0, 1), (56, .getfield 28, 3), (59, .aload_n 0, 1), (60, .getfield 40, 3), (63, .aload_n 0, 1), (64, .getfield 44, 3), (67, .iastore, 1), (68, .aload_n 0, 1), (69, .dup, 1), (70, .getfield 40, 3), (73, .iconst 1, 1), (74, .iadd, 1), (75, .putfield 40, 3), (78, .aload_n 0, 1), (79, .getfield 40, 3), (82, .iconst 1, 1), (83, .isub, 1), (84, .ireturn, 1)]
theorem nd_i44_ok : am_ic prog_3_method_5_code nd_i44 = true := by decide +kernel
def nd_s44 : List nm_S := [(67, 18, false, 700)]
theorem nd_s44_ok : nd_s44.all (nm_schk nd_ct nd_ml "PaperParcels$Elements") = true := by decide +kernel
theorem nd_ok44 : am_ok nm_Ts nm_Tn nd_cl nd_mt nd_fr nd_lo 44 (am_in nd_i44) (am_fl nd_f5) (am_ct nd_k5) (am_sl nd_ml nd_s44) := nm_ok (x := 44) (ini := false) rfl (by decide +kernel) nd_cok nd_i44_ok (by decide) nd_f5_ok nd_k5_ok nd_s44_ok (by decide +kernel)
-- PaperParcels$Elements.takeAttribute(I)Z
def nd_i45 : List (Nat × Instr × Nat) := [(0, .aload_n 0, 1), (1, .dup, 1), (2, .getfield 47, 3), (5, .iconst 1, 1), (6, .iadd, 1), (7, .putfield 47, 3), (10, .aload_n 0, 1), (11, .getfield 9, 3), (14, .aload_n 0, 1), (15, .getfield 47, 3), (18, .invokevirtual 67, 3), (21, .istore_n 2, 1), (22, .iload_n 2, 1), (23, .invokestatic 81, 3), (26, .ifCond .eq 22, 3), (29, .aload_n 0, 1), (30, .iload_n 1, 1), (31, .iload_n 2, 1), (32, .invokevirtual 93, 3), (35, .iconst (-1), 1), (36, .if_icmp .ne 12, 3), (39, .aload_n 0, 1), (40, .getfield 44, 3), (43, .bipush 60, 2), (45, .if_icmp .ne 5, 3), (48, .iconst 0, 1), (49, .ireturn, 1), (50, .aload_n 0, 1), (51, .getfield 44, 3), (54, .istore_n 3, 1), (55, .aload_n 0, 1), (56, .getfield 31, 3), (59, .iload_n 3, 1), (60, .aload_n 0, 1), (61, .getfield 47, 3), (64, .iastore, 1), (65, .aload_n 0, 1), (66, .getfield 34, 3), (69, .iload_n 3, 1), (70, .iconst 0, 1), (71, .iastore, 1), (72, .aload_n 0, 1), (73, .dup, 1), (74, .getfield 44, 3), (77, .iconst 1, 1), (78, .iadd, 1), (79, .putfield 44, 3), (82, .aload_n 0, 1), (83, .getfield 28, 3), (86, .iload_n 1, 1), (87, .aload_n 0, 1), (88, .getfield 44, 3), (91, .iastore, 1), (92, .aload_n 0, 1), (93, .dup, 1), (94, .getfield 47, 3), (97, .iconst 1, 1), (98, .iadd, 1), (99, .putfield 47, 3), (102, .aload_n 0, 1), (103, .bipush 61, 2), (105, .invokevirtual 90, 3), (108, .ifCond .eq 12, 3), (111, .aload_n 0, 1), (112, .bipush 34, 2), (114, .invokevirtual 90, 3), (117, .ifCond .ne 5, 3), (120, .iconst 0, 1), (121, .ireturn, 1), (122, .iconst 0, 1), (123, .istore 4, 2), (125, .iload 4, 2), (127, .sipush 300, 3), (130, .if_icmp .ge 46, 3), (133, .aload_n 0, 1), (134, .getfield 9, 3), (137, .aload_n 0, 1), (138, .getfield 47, 3), (141, .invokevirtual 67, 3), (144, .invokestatic 97, 3), (147, .ifCond .eq 29, 3), (150, .aload_n 0, 1), (151, .getfield 34, 3), (154, .iload_n 3, 1), (155, .dup2, 1), (156, .iaload, 1), (157, .iconst 1, 1), (158, .iadd, 1), (159, .iastore, 1), (160, .aload_n 0, 1), (161, .dup, 1), (162, .getfield 47, 3), (165, .iconst 1, 1), (166, .iadd, 1), (167, .putfield 47, 3), (170, .iinc 4 1, 3), (173, .goto (-48), 3), (176, .aload_n 0, 1), (177, .bipush 34, 2), (179, .invokevirtual 90, 3), (182, .ireturn, 1)]
theorem nd_i45_ok : am_ic prog_3_method_7_code nd_i45 = true := by decide +kernel
def nd_s45 : List nm_S := [(67, 18, false, 700), (81, 43, true, 705), (93, 46, false, 716), (90, 47, false, 720), (97, 48, false, 724)]
theorem nd_s45_ok : nd_s45.all (nm_schk nd_ct nd_ml "PaperParcels$Elements") = true := by decide +kernel
theorem nd_ok45 : am_ok nm_Ts nm_Tn nd_cl nd_mt nd_fr nd_lo 45 (am_in nd_i45) (am_fl nd_f5) (am_ct nd_k5) (am_sl nd_ml nd_s45) := nm_ok (x := 45) (ini := false) rfl (by decide +kernel) nd_cok nd_i45_ok (by decide) nd_f5_ok nd_k5_ok nd_s45_ok (by decide +kernel)
-- PaperParcels$Elements.attribute(II)I
def nd_i46 : List (Nat × Instr × Nat) := [(0, .aload_n 0, 1), (1, .getfield 25, 3), (4, .iload_n 1, 1), (5, .iaload, 1), (6, .istore_n 3, 1), (7, .iload_n 3, 1), (8, .aload_n 0, 1), (9, .getfield 28, 3), (12, .iload_n 1, 1), (13, .iaload, 1), (14, .if_icmp .ge 28, 3), (17, .aload_n 0, 1), (18, .getfield 9, 3), (21, .aload_n 0, 1), (22, .getfield 31, 3), (25, .iload_n 3, 1), (26, .iaload, 1), (27, .invokevirtual 67, 3), (30, .iload_n 2, 1), (31, .if_icmp .ne 5, 3), (34, .iload_n 3, 1), (35, .ireturn, 1), (36, .iinc 3 1, 3), (39, .goto (-32), 3), (42, .iconst (-1), 1), (43, .ireturn, 1)]
theorem nd_i46_ok : am_ic prog_3_method_10_code nd_i46 = true := by decide +kernel
def nd_s46 : List nm_S := [(67, 18, false, 700)]
theorem nd_s46_ok : nd_s46.all (nm_schk nd_ct nd_ml "PaperParcels$Elements") = true := by decide +kernel
theorem nd_ok46 : am_ok nm_Ts nm_Tn nd_cl nd_mt nd_fr nd_lo 46 (am_in nd_i46) (am_fl nd_f5) (am_ct nd_k5) (am_sl nd_ml nd_s46) := nm_ok (x := 46) (ini := false) rfl (by decide +kernel) nd_cok nd_i46_ok (by decide) nd_f5_ok nd_k5_ok nd_s46_ok (by decide +kernel)
-- PaperParcels$Elements.take(I)Z
def nd_i47 : List (Nat × Instr × Nat) := [(0, .aload_n 0, 1), (1, .getfield 9, 3), (4, .aload_n 0, 1), (5, .getfield 47, 3), (8, .invokevirtual 67, 3), (11, .iload_n 1, 1), (12, .if_icmp .eq 5, 3), (15, .iconst 0, 1), (16, .ireturn, 1), (17, .aload_n 0, 1), (18, .dup, 1), (19, .getfield 47, 3), (22, .iconst 1, 1), (23, .iadd, 1), (24, .putfield 47, 3), (27, .iconst 1, 1), (28, .ireturn, 1)]
theorem nd_i47_ok : am_ic prog_3_method_8_code nd_i47 = true := by decide +kernel
def nd_s47 : List nm_S := [(67, 18, false, 700)]
theorem nd_s47_ok : nd_s47.all (nm_schk nd_ct nd_ml "PaperParcels$Elements") = true := by decide +kernel
theorem nd_ok47 : am_ok nm_Ts nm_Tn nd_cl nd_mt nd_fr nd_lo 47 (am_in nd_i47) (am_fl nd_f5) (am_ct nd_k5) (am_sl nd_ml nd_s47) := nm_ok (x := 47) (ini := false) rfl (by decide +kernel) nd_cok nd_i47_ok (by decide) nd_f5_ok nd_k5_ok nd_s47_ok (by decide +kernel)
-- PaperParcels$Elements.isOfValue(I)Z
def nd_i48 : List (Nat × Instr × Nat) := [(0, .iload_n 0, 1), (1, .invokestatic 100, 3), (4, .ifCond .ne 17, 3), (7, .iload_n 0, 1), (8, .invokestatic 81, 3), (11, .ifCond .ne 10, 3), (14, .iload_n 0, 1), (15, .invokestatic 103, 3), (18, .ifCond .eq 7, 3), (21, .iconst 1, 1), (22, .goto 4, 3), (25, .iconst 0, 1), (26, .ireturn, 1)]
theorem nd_i48_ok : am_ic prog_3_method_9_code nd_i48 = true := by decide +kernel
def nd_s48 : List nm_S := [(100, 49, true, 727), (81, 43, true, 705), (103, 29, true, 730)]
theorem nd_s48_ok : nd_s48.all (nm_schk nd_ct nd_ml "PaperParcels$Elements") = true := by decide +kernel
theorem nd_ok48 : am_ok nm_Ts nm_Tn nd_cl nd_mt nd_fr nd_lo 48 (am_in nd_i48) (am_fl nd_f5) (am_ct nd_k5) (am_sl nd_ml nd_s48) := nm_ok (x := 48) (ini := false) rfl (by decide +kernel) nd_cok nd_i48_ok (by decide) nd_f5_ok nd_k5_ok nd_s48_ok (by decide +kernel)
-- PaperParcels$Elements.takeEnd()Z
def nd_i50 : List (Nat × Instr × Nat) := [(0, .aload_n 0, 1), (1, .dup, 1), (2, .getfield 47, 3), (5, .iconst 2, 1), (6, .iadd, 1), (7, .putfield 47, 3), (10, .aload_n 0, 1), (11, .aload_n 0, 1), (12, .getfield 15, 3), (15, .aload_n 0, 1), (16, .getfield 50, 3), (19, .iaload, 1), (20, .invokevirtual 90, 3), (23, .ifCond .eq 12, 3), (26, .aload_n 0, 1), (27, .bipush 62, 2), (29, .invokevirtual 90, 3), (32, .ifCond .ne 5, 3), (35, .iconst 0, 1), (36, .ireturn, 1), (37, .aload_n 0, 1), (38, .aload_n 0, 1), (39, .getfield 22, 3), (42, .aload_n 0, 1), (43, .getfield 50, 3), (46, .iaload, 1), (47, .putfield 50, 3), (50, .aload_n 0, 1), (51, .dup, 1), (52, .getfield 53, 3), (55, .iconst 1, 1), (56, .isub, 1), (57, .putfield 53, 3), (60, .iconst 1, 1), (61, .ireturn, 1)]
theorem nd_i50_ok : am_ic prog_3_method_6_code nd_i50 = true := by decide +kernel
def nd_s50 : List nm_S := [(90, 47, false, 720)]
theorem nd_s50_ok : nd_s50.all (nm_schk nd_ct nd_ml "PaperParcels$Elements") = true := by decide +kernel
theorem nd_ok50 : am_ok nm_Ts nm_Tn nd_cl nd_mt nd_fr nd_lo 50 (am_in nd_i50) (am_fl nd_f5) (am_ct nd_k5) (am_sl nd_ml nd_s50) := nm_ok (x := 50) (ini := false) rfl (by decide +kernel) nd_cok nd_i50_ok (by decide) nd_f5_ok nd_k5_ok nd_s50_ok (by decide +kernel)
-- PaperParcels$Elements.takeLetter(I)Z
def nd_i51 : List (Nat × Instr × Nat) := [(0, .iload_n 1, 1), (1, .bipush 62, 2), (3, .if_icmp .eq 15, 3), (6, .iload_n 1, 1), (7, .bipush 38, 2), (9, .if_icmp .eq 9, 3), (12, .iload_n 1, 1), (13, .bipush 126, 2), (15, .if_icmp .ne 5, 3), (18, .iconst 0, 1), (19, .ireturn, 1), (20, .aload_n 0, 1), (21, .getfield 37, 3), (24, .aload_n 0, 1), (25, .getfield 47, 3), (28, .aload_n 0, 1), (29, .getfield 50, 3), (32, .iastore, 1), (33, .aload_n 0, 1), (34, .dup, 1), (35, .getfield 47, 3), (38, .iconst 1, 1), (39, .iadd, 1), (40, .putfield 47, 3), (43, .iconst 1, 1), (44, .ireturn, 1)]
theorem nd_i51_ok : am_ic prog_3_method_3_code nd_i51 = true := by decide +kernel
def nd_s51 : List nm_S := []
theorem nd_s51_ok : nd_s51.all (nm_schk nd_ct nd_ml "PaperParcels$Elements") = true := by decide +kernel
theorem nd_ok51 : am_ok nm_Ts nm_Tn nd_cl nd_mt nd_fr nd_lo 51 (am_in nd_i51) (am_fl nd_f5) (am_ct nd_k5) (am_sl nd_ml nd_s51) := nm_ok (x := 51) (ini := false) rfl (by decide +kernel) nd_cok nd_i51_ok (by decide) nd_f5_ok nd_k5_ok nd_s51_ok (by decide +kernel)
-- PaperParcels$Elements.valueSign(II)I
def nd_i57 : List (Nat × Instr × Nat) := [(0, .aload_n 0, 1), (1, .getfield 9, 3), (4, .aload_n 0, 1), (5, .getfield 31, 3), (8, .iload_n 1, 1), (9, .iaload, 1), (10, .iconst 3, 1), (11, .iadd, 1), (12, .iload_n 2, 1), (13, .iadd, 1), (14, .invokevirtual 67, 3), (17, .ireturn, 1)]
theorem nd_i57_ok : am_ic prog_3_method_11_code nd_i57 = true := by decide +kernel
def nd_s57 : List nm_S := [(67, 18, false, 700)]
theorem nd_s57_ok : nd_s57.all (nm_schk nd_ct nd_ml "PaperParcels$Elements") = true := by decide +kernel
theorem nd_ok57 : am_ok nm_Ts nm_Tn nd_cl nd_mt nd_fr nd_lo 57 (am_in nd_i57) (am_fl nd_f5) (am_ct nd_k5) (am_sl nd_ml nd_s57) := nm_ok (x := 57) (ini := false) rfl (by decide +kernel) nd_cok nd_i57_ok (by decide) nd_f5_ok nd_k5_ok nd_s57_ok (by decide +kernel)
-- PaperParcels$Elements.firstLetter(I)I
def nd_i58 : List (Nat × Instr × Nat) := [(0, .aload_n 0, 1), (1, .getfield 19, 3), (4, .iload_n 1, 1), (5, .iaload, 1), (6, .istore_n 2, 1), (7, .iload_n 2, 1), (8, .aload_n 0, 1), (9, .getfield 9, 3), (12, .getfield 62, 3), (15, .if_icmp .ge 21, 3), (18, .aload_n 0, 1), (19, .getfield 37, 3), (22, .iload_n 2, 1), (23, .iaload, 1), (24, .iload_n 1, 1), (25, .if_icmp .ne 5, 3), (28, .iload_n 2, 1), (29, .ireturn, 1), (30, .iinc 2 1, 3), (33, .goto (-26), 3), (36, .iconst (-1), 1), (37, .ireturn, 1)]
theorem nd_i58_ok : am_ic prog_3_method_13_code nd_i58 = true := by decide +kernel
def nd_s58 : List nm_S := []
theorem nd_s58_ok : nd_s58.all (nm_schk nd_ct nd_ml "PaperParcels$Elements") = true := by decide +kernel
theorem nd_ok58 : am_ok nm_Ts nm_Tn nd_cl nd_mt nd_fr nd_lo 58 (am_in nd_i58) (am_fl nd_f5) (am_ct nd_k5) (am_sl nd_ml nd_s58) := nm_ok (x := 58) (ini := false) rfl (by decide +kernel) nd_cok nd_i58_ok (by decide) nd_f5_ok nd_k5_ok nd_s58_ok (by decide +kernel)
-- PaperParcels$Elements.hasDirectlyIn(III)Z
def nd_i60 : List (Nat × Instr × Nat) := [(0, .iload_n 1, 1), (1, .iconst 1, 1), (2, .iadd, 1), (3, .istore 4, 2), (5, .iload 4, 2), (7, .aload_n 0, 1), (8, .getfield 40, 3), (11, .if_icmp .ge 44, 3), (14, .aload_n 0, 1), (15, .getfield 22, 3), (18, .iload 4, 2), (20, .iaload, 1), (21, .iload_n 1, 1), (22, .if_icmp .ne 27, 3), (25, .aload_n 0, 1), (26, .getfield 15, 3), (29, .iload 4, 2), (31, .iaload, 1), (32, .iload_n 2, 1), (33, .if_icmp .eq 14, 3), (36, .aload_n 0, 1), (37, .getfield 15, 3), (40, .iload 4, 2), (42, .iaload, 1), (43, .iload_n 3, 1), (44, .if_icmp .ne 5, 3), (47, .iconst 1, 1), (48, .ireturn, 1), (49, .iinc 4 1, 3), (52, .goto (-47), 3), (55, .iconst 0, 1), (56, .ireturn, 1)]
theorem nd_i60_ok : am_ic prog_3_method_14_code nd_i60 = true := by decide +kernel
def nd_s60 : List nm_S := []
theorem nd_s60_ok : nd_s60.all (nm_schk nd_ct nd_ml "PaperParcels$Elements") = true := by decide +kernel
theorem nd_ok60 : am_ok nm_Ts nm_Tn nd_cl nd_mt nd_fr nd_lo 60 (am_in nd_i60) (am_fl nd_f5) (am_ct nd_k5) (am_sl nd_ml nd_s60) := nm_ok (x := 60) (ini := false) rfl (by decide +kernel) nd_cok nd_i60_ok (by decide) nd_f5_ok nd_k5_ok nd_s60_ok (by decide +kernel)
-- PaperParcels$Elements.valueNumber(I)I
def nd_i69 : List (Nat × Instr × Nat) := [(0, .iconst 0, 1), (1, .istore_n 2, 1), (2, .iconst 0, 1), (3, .istore_n 3, 1), (4, .iload_n 3, 1), (5, .aload_n 0, 1), (6, .getfield 34, 3), (9, .iload_n 1, 1), (10, .iaload, 1), (11, .if_icmp .ge 24, 3), (14, .bipush 10, 2), (16, .iload_n 2, 1), (17, .imul, 1), (18, .aload_n 0, 1), (19, .iload_n 1, 1), (20, .iload_n 3, 1), (21, .invokevirtual 106, 3), (24, .iadd, 1), (25, .bipush 48, 2), (27, .isub, 1), (28, .istore_n 2, 1), (29, .iinc 3 1, 3), (32, .goto (-28), 3), (35, .iload_n 2, 1), (36, .ireturn, 1)]
theorem nd_i69_ok : am_ic prog_3_method_12_code nd_i69 = true := by decide +kernel
def nd_s69 : List nm_S := [(106, 57, false, 812)]
theorem nd_s69_ok : nd_s69.all (nm_schk nd_ct nd_ml "PaperParcels$Elements") = true := by decide +kernel
theorem nd_ok69 : am_ok nm_Ts nm_Tn nd_cl nd_mt nd_fr nd_lo 69 (am_in nd_i69) (am_fl nd_f5) (am_ct nd_k5) (am_sl nd_ml nd_s69) := nm_ok (x := 69) (ini := false) rfl (by decide +kernel) nd_cok nd_i69_ok (by decide) nd_f5_ok nd_k5_ok nd_s69_ok (by decide +kernel)
end
section
-- PaperParcels$Rules.firstFault(LPaperParcels$Elements;I)I
def nd_i53 : List (Nat × Instr × Nat) := [(0, .iconst 0, 1), (1, .istore_n 2, 1), (2, .iload_n 2, 1), (3, .aload_n 0, 1), (4, .getfield 9, 3), (7, .if_icmp .ge 23, 3), (10, .aload_n 0, 1), (11, .iload_n 2, 1), (12, .iload_n 1, 1), (13, .invokestatic 15, 3), (16, .istore_n 3, 1), (17, .iload_n 3, 1), (18, .iconst (-1), 1), (19, .if_icmp .eq 5, 3), (22, .iload_n 3, 1), (23, .ireturn, 1), (24, .iinc 2 1, 3), (27, .goto (-25), 3), (30, .iconst (-1), 1), (31, .ireturn, 1)]
theorem nd_i53_ok : am_ic prog_9_method_2_code nd_i53 = true := by decide +kernel
def nd_s53 : List nm_S := [(15, 54, false, 745)]
theorem nd_s53_ok : nd_s53.all (nm_schk nd_ct nd_ml "PaperParcels$Rules") = true := by decide +kernel
theorem nd_ok53 : am_ok nm_Ts nm_Tn nd_cl nd_mt nd_fr nd_lo 53 (am_in nd_i53) (am_fl nd_f12) (am_ct nd_k12) (am_sl nd_ml nd_s53) := nm_ok (x := 53) (ini := false) rfl (by decide +kernel) nd_cok nd_i53_ok (by decide) nd_f12_ok nd_k12_ok nd_s53_ok (by decide +kernel)
-- PaperParcels$Rules.faultOf(LPaperParcels$Elements;II)I
def nd_i54 : List (Nat × Instr × Nat) := [(0, .aload_n 0, 1), (1, .getfield 21, 3), (4, .iload_n 1, 1), (5, .iaload, 1), (6, .istore_n 3, 1), (7, .aload_n 0, 1), (8, .getfield 25, 3), (11, .iload_n 1, 1), (12, .iaload, 1), (13, .istore 4, 2), (15, .iload 4, 2), (17, .iconst (-1), 1), (18, .if_icmp .ne 16, 3), (21, .iload_n 3, 1), (22, .iload_n 2, 1), (23, .if_icmp .ne 7, 3), (26, .iconst 1, 1), (27, .goto 18, 3), (30, .iconst 0, 1), (31, .goto 14, 3), (34, .iload_n 3, 1), (35, .aload_n 0, 1), (36, .getfield 21, 3), (39, .iload 4, 2), (41, .iaload, 1), (42, .invokestatic 28, 3), (45, .istore 5, 2), (47, .iload 5, 2), (49, .ifCond .ne 10, 3), (52, .aload_n 0, 1), (53, .getfield 32, 3), (56, .iload_n 1, 1), (57, .iaload, 1), (58, .ireturn, 1), (59, .aload_n 0, 1), (60, .getfield 35, 3), (63, .iload_n 1, 1), (64, .iaload, 1), (65, .istore 6, 2), (67, .iload 6, 2), (69, .aload_n 0, 1), (70, .getfield 38, 3), (73, .iload_n 1, 1), (74, .iaload, 1), (75, .if_icmp .ge 27, 3), (78, .aload_n 0, 1), (79, .iload_n 3, 1), (80, .iload 6, 2), (82, .invokestatic 41, 3), (85, .ifCond .ne 11, 3), (88, .aload_n 0, 1), (89, .getfield 45, 3), (92, .iload 6, 2), (94, .iaload, 1), (95, .ireturn, 1), (96, .iinc 6 1, 3), (99, .goto (-32), 3), (102, .iload_n 3, 1), (103, .bipush 115, 2), (105, .if_icmp .ne 21, 3), (108, .aload_n 0, 1), (109, .iload_n 1, 1), (110, .bipush 110, 2), (112, .invokevirtual 48, 3), (115, .iconst (-1), 1), (116, .if_icmp .ne 10, 3), (119, .aload_n 0, 1), (120, .getfield 32, 3), (123, .iload_n 1, 1), (124, .iaload, 1), (125, .ireturn, 1), (126, .iload_n 3, 1), (127, .bipush 112, 2), (129, .if_icmp .eq 9, 3), (132, .iload_n 3, 1), (133, .bipush 120, 2), (135, .if_icmp .ne 7, 3), (138, .iconst (-1), 1), (139, .goto 8, 3), (142, .aload_n 0, 1), (143, .iload_n 1, 1), (144, .invokevirtual 52, 3), (147, .istore 6, 2), (149, .iload 6, 2), (151, .iconst (-1), 1), (152, .if_icmp .eq 6, 3), (155, .iload 6, 2), (157, .ireturn, 1), (158, .aload_n 0, 1), (159, .iload_n 1, 1), (160, .invokestatic 56, 3), (163, .ifCond .eq 12, 3), (166, .aload_n 0, 1), (167, .getfield 32, 3), (170, .iload_n 1, 1), (171, .iaload, 1), (172, .goto 4, 3), (175, .iconst (-1), 1), (176, .ireturn, 1)]
theorem nd_i54_ok : am_ic prog_9_method_3_code nd_i54 = true := by decide +kernel
def nd_s54 : List nm_S := [(28, 55, false, 748), (41, 56, false, 751), (48, 46, false, 761), (52, 58, false, 762), (56, 59, false, 766)]
theorem nd_s54_ok : nd_s54.all (nm_schk nd_ct nd_ml "PaperParcels$Rules") = true := by decide +kernel
theorem nd_ok54 : am_ok nm_Ts nm_Tn nd_cl nd_mt nd_fr nd_lo 54 (am_in nd_i54) (am_fl nd_f12) (am_ct nd_k12) (am_sl nd_ml nd_s54) := nm_ok (x := 54) (ini := false) rfl (by decide +kernel) nd_cok nd_i54_ok (by decide) nd_f12_ok nd_k12_ok nd_s54_ok (by decide +kernel)
-- PaperParcels$Rules.mayStandIn(II)Z
def nd_i55 : List (Nat × Instr × Nat) := [(0, .iload_n 1, 1), (1, .lookupswitch 113 #[(100, 71), (105, 71), (108, 89), (112, 101), (116, 59), (120, 101)], 59), (60, .iload_n 0, 1), (61, .bipush 115, 2), (63, .if_icmp .ne 7, 3), (66, .iconst 1, 1), (67, .goto 4, 3), (70, .iconst 0, 1), (71, .ireturn, 1), (72, .iload_n 0, 1), (73, .bipush 112, 2), (75, .if_icmp .eq 9, 3), (78, .iload_n 0, 1), (79, .bipush 108, 2), (81, .if_icmp .ne 7, 3), (84, .iconst 1, 1), (85, .goto 4, 3), (88, .iconst 0, 1), (89, .ireturn, 1), (90, .iload_n 0, 1), (91, .bipush 105, 2), (93, .if_icmp .ne 7, 3), (96, .iconst 1, 1), (97, .goto 4, 3), (100, .iconst 0, 1), (101, .ireturn, 1), (102, .iload_n 0, 1), (103, .bipush 120, 2), (105, .if_icmp .ne 7, 3), (108, .iconst 1, 1), (109, .goto 4, 3), (112, .iconst 0, 1), (113, .ireturn, 1), (114, .iconst 0, 1), (115, .ireturn, 1)]
theorem nd_i55_ok : am_ic prog_9_method_4_code nd_i55 = true := by decide +kernel
def nd_s55 : List nm_S := []
theorem nd_s55_ok : nd_s55.all (nm_schk nd_ct nd_ml "PaperParcels$Rules") = true := by decide +kernel
theorem nd_ok55 : am_ok nm_Ts nm_Tn nd_cl nd_mt nd_fr nd_lo 55 (am_in nd_i55) (am_fl nd_f12) (am_ct nd_k12) (am_sl nd_ml nd_s55) := nm_ok (x := 55) (ini := false) rfl (by decide +kernel) nd_cok nd_i55_ok (by decide) nd_f12_ok nd_k12_ok nd_s55_ok (by decide +kernel)
-- PaperParcels$Rules.mayHave(LPaperParcels$Elements;II)Z
def nd_i56 : List (Nat × Instr × Nat) := [(0, .aload_n 0, 1), (1, .getfield 60, 3), (4, .aload_n 0, 1), (5, .getfield 45, 3), (8, .iload_n 2, 1), (9, .iaload, 1), (10, .invokevirtual 64, 3), (13, .istore_n 3, 1), (14, .aload_n 0, 1), (15, .getfield 69, 3), (18, .iload_n 2, 1), (19, .iaload, 1), (20, .istore 4, 2), (22, .iload 4, 2), (24, .ifCond .ne 7, 3), (27, .iconst (-1), 1), (28, .goto 9, 3), (31, .aload_n 0, 1), (32, .iload_n 2, 1), (33, .iconst 0, 1), (34, .invokevirtual 72, 3), (37, .istore 5, 2), (39, .iload_n 1, 1), (40, .bipush 112, 2), (42, .if_icmp .eq 9, 3), (45, .iload_n 1, 1), (46, .bipush 120, 2), (48, .if_icmp .ne 29, 3), (51, .iload_n 3, 1), (52, .bipush 121, 2), (54, .if_icmp .ne 21, 3), (57, .iload 4, 2), (59, .iconst 1, 1), (60, .if_icmp .ne 15, 3), (63, .iload 5, 2), (65, .invokestatic 75, 3), (68, .ifCond .eq 7, 3), (71, .iconst 1, 1), (72, .goto 4, 3), (75, .iconst 0, 1), (76, .ireturn, 1), (77, .iload_n 1, 1), (78, .bipush 115, 2), (80, .if_icmp .eq 5, 3), (83, .iconst 0, 1), (84, .ireturn, 1), (85, .iload_n 3, 1), (86, .lookupswitch 161 #[(98, 70), (102, 50), (107, 141), (110, 50), (122, 96)], 50), (136, .iload 4, 2), (138, .iconst 1, 1), (139, .if_icmp .ne 15, 3), (142, .iload 5, 2), (144, .invokestatic 75, 3), (147, .ifCond .eq 7, 3), (150, .iconst 1, 1), (151, .goto 4, 3), (154, .iconst 0, 1), (155, .ireturn, 1), (156, .iload 4, 2), (158, .iconst 1, 1), (159, .if_icmp .ne 21, 3), (162, .iload 5, 2), (164, .bipush 48, 2), (166, .if_icmp .eq 10, 3), (169, .iload 5, 2), (171, .bipush 49, 2), (173, .if_icmp .ne 7, 3), (176, .iconst 1, 1), (177, .goto 4, 3), (180, .iconst 0, 1), (181, .ireturn, 1), (182, .iload 5, 2), (184, .invokestatic 79, 3), (187, .ifCond .eq 38, 3), (190, .iload 5, 2), (192, .bipush 48, 2), (194, .if_icmp .eq 31, 3), (197, .iload 4, 2), (199, .iconst 1, 1), (200, .if_icmp .eq 21, 3), (203, .iload 4, 2), (205, .iconst 2, 1), (206, .if_icmp .ne 19, 3), (209, .aload_n 0, 1), (210, .iload_n 2, 1), (211, .iconst 1, 1), (212, .invokevirtual 72, 3), (215, .invokestatic 79, 3), (218, .ifCond .eq 7, 3), (221, .iconst 1, 1), (222, .goto 4, 3), (225, .iconst 0, 1), (226, .ireturn, 1), (227, .iload 4, 2), (229, .iconst 1, 1), (230, .if_icmp .ne 15, 3), (233, .iload 5, 2), (235, .invokestatic 79, 3), (238, .ifCond .eq 7, 3), (241, .iconst 1, 1), (242, .goto 4, 3), (245, .iconst 0, 1), (246, .ireturn, 1), (247, .iconst 0, 1), (248, .ireturn, 1)]
theorem nd_i56_ok : am_ic prog_9_method_5_code nd_i56 = true := by decide +kernel
def nd_s56 : List nm_S := [(64, 18, false, 754), (72, 57, false, 755), (75, 49, true, 759), (79, 29, true, 760)]
theorem nd_s56_ok : nd_s56.all (nm_schk nd_ct nd_ml "PaperParcels$Rules") = true := by decide +kernel
theorem nd_ok56 : am_ok nm_Ts nm_Tn nd_cl nd_mt nd_fr nd_lo 56 (am_in nd_i56) (am_fl nd_f12) (am_ct nd_k12) (am_sl nd_ml nd_s56) := nm_ok (x := 56) (ini := false) rfl (by decide +kernel) nd_cok nd_i56_ok (by decide) nd_f12_ok nd_k12_ok nd_s56_ok (by decide +kernel)
-- PaperParcels$Rules.lacksElement(LPaperParcels$Elements;I)Z
def nd_i59 : List (Nat × Instr × Nat) := [(0, .aload_n 0, 1), (1, .getfield 21, 3), (4, .iload_n 1, 1), (5, .iaload, 1), (6, .istore_n 2, 1), (7, .iload_n 2, 1), (8, .bipush 108, 2), (10, .if_icmp .ne 15, 3), (13, .aload_n 0, 1), (14, .iload_n 1, 1), (15, .bipush 105, 2), (17, .bipush 105, 2), (19, .invokevirtual 82, 3), (22, .ifCond .eq 21, 3), (25, .iload_n 2, 1), (26, .bipush 105, 2), (28, .if_icmp .ne 19, 3), (31, .aload_n 0, 1), (32, .iload_n 1, 1), (33, .bipush 112, 2), (35, .bipush 108, 2), (37, .invokevirtual 82, 3), (40, .ifCond .ne 7, 3), (43, .iconst 1, 1), (44, .goto 4, 3), (47, .iconst 0, 1), (48, .ireturn, 1)]
theorem nd_i59_ok : am_ic prog_9_method_6_code nd_i59 = true := by decide +kernel
def nd_s59 : List nm_S := [(82, 60, false, 769)]
theorem nd_s59_ok : nd_s59.all (nm_schk nd_ct nd_ml "PaperParcels$Rules") = true := by decide +kernel
theorem nd_ok59 : am_ok nm_Ts nm_Tn nd_cl nd_mt nd_fr nd_lo 59 (am_in nd_i59) (am_fl nd_f12) (am_ct nd_k12) (am_sl nd_ml nd_s59) := nm_ok (x := 59) (ini := false) rfl (by decide +kernel) nd_cok nd_i59_ok (by decide) nd_f12_ok nd_k12_ok nd_s59_ok (by decide +kernel)
end
section
-- PaperParcels$Styles.firstFault()I
def nd_i61 : List (Nat × Instr × Nat) := [(0, .aload_n 0, 1), (1, .invokevirtual 31, 3), (4, .istore_n 1, 1), (5, .iload_n 1, 1), (6, .iconst (-1), 1), (7, .if_icmp .ne 14, 3), (10, .aload_n 0, 1), (11, .aload_n 0, 1), (12, .getfield 9, 3), (15, .bipush 102, 2), (17, .invokevirtual 35, 3), (20, .istore_n 1, 1), (21, .iload_n 1, 1), (22, .iconst (-1), 1), (23, .if_icmp .ne 8, 3), (26, .aload_n 0, 1), (27, .invokevirtual 39, 3), (30, .istore_n 1, 1), (31, .iload_n 1, 1), (32, .iconst (-1), 1), (33, .if_icmp .eq 13, 3), (36, .aload_n 0, 1), (37, .getfield 9, 3), (40, .getfield 42, 3), (43, .iload_n 1, 1), (44, .iaload, 1), (45, .ireturn, 1), (46, .aload_n 0, 1), (47, .aload_n 0, 1), (48, .getfield 15, 3), (51, .bipush 121, 2), (53, .invokevirtual 35, 3), (56, .istore_n 2, 1), (57, .iload_n 2, 1), (58, .iconst (-1), 1), (59, .if_icmp .ne 7, 3), (62, .iconst (-1), 1), (63, .goto 16, 3), (66, .sipush 1000, 3), (69, .aload_n 0, 1), (70, .getfield 15, 3), (73, .getfield 42, 3), (76, .iload_n 2, 1), (77, .iaload, 1), (78, .iadd, 1), (79, .ireturn, 1)]
theorem nd_i61_ok : am_ic prog_11_method_2_code nd_i61 = true := by decide +kernel
def nd_s61 : List nm_S := [(31, 62, false, 777), (35, 64, false, 788), (39, 65, false, 792)]
theorem nd_s61_ok : nd_s61.all (nm_schk nd_ct nd_ml "PaperParcels$Styles") = true := by decide +kernel
theorem nd_ok61 : am_ok nm_Ts nm_Tn nd_cl nd_mt nd_fr nd_lo 61 (am_in nd_i61) (am_fl nd_f6) (am_ct nd_k6) (am_sl nd_ml nd_s61) := nm_ok (x := 61) (ini := false) rfl (by decide +kernel) nd_cok nd_i61_ok (by decide) nd_f6_ok nd_k6_ok nd_s61_ok (by decide +kernel)
-- PaperParcels$Styles.firstNamedAgain()I
def nd_i62 : List (Nat × Instr × Nat) := [(0, .aload_n 0, 1), (1, .getfield 18, 3), (4, .iconst (-1), 1), (5, .invokestatic 47, 3), (8, .iconst 1, 1), (9, .istore_n 1, 1), (10, .iload_n 1, 1), (11, .aload_n 0, 1), (12, .getfield 9, 3), (15, .getfield 53, 3), (18, .if_icmp .ge 49, 3), (21, .aload_n 0, 1), (22, .getfield 9, 3), (25, .iload_n 1, 1), (26, .bipush 110, 2), (28, .invokestatic 57, 3), (31, .istore_n 2, 1), (32, .iload_n 2, 1), (33, .iconst (-1), 1), (34, .if_icmp .eq 15, 3), (37, .aload_n 0, 1), (38, .getfield 18, 3), (41, .iload_n 2, 1), (42, .iaload, 1), (43, .iconst (-1), 1), (44, .if_icmp .eq 5, 3), (47, .iload_n 1, 1), (48, .ireturn, 1), (49, .iload_n 2, 1), (50, .iconst (-1), 1), (51, .if_icmp .eq 10, 3), (54, .aload_n 0, 1), (55, .getfield 18, 3), (58, .iload_n 2, 1), (59, .iload_n 1, 1), (60, .iastore, 1), (61, .iinc 1 1, 3), (64, .goto (-54), 3), (67, .iconst (-1), 1), (68, .ireturn, 1)]
theorem nd_i62_ok : am_ic prog_11_method_3_code nd_i62 = true := by decide +kernel
def nd_s62 : List nm_S := [(47, 41, false, 781), (57, 63, false, 782)]
theorem nd_s62_ok : nd_s62.all (nm_schk nd_ct nd_ml "PaperParcels$Styles") = true := by decide +kernel
theorem nd_ok62 : am_ok nm_Ts nm_Tn nd_cl nd_mt nd_fr nd_lo 62 (am_in nd_i62) (am_fl nd_f6) (am_ct nd_k6) (am_sl nd_ml nd_s62) := nm_ok (x := 62) (ini := false) rfl (by decide +kernel) nd_cok nd_i62_ok (by decide) nd_f6_ok nd_k6_ok nd_s62_ok (by decide +kernel)
-- PaperParcels$Styles.nameIn(LPaperParcels$Elements;II)I
def nd_i63 : List (Nat × Instr × Nat) := [(0, .aload_n 0, 1), (1, .iload_n 1, 1), (2, .iload_n 2, 1), (3, .invokevirtual 65, 3), (6, .istore_n 3, 1), (7, .iload_n 3, 1), (8, .iconst (-1), 1), (9, .if_icmp .eq 15, 3), (12, .aload_n 0, 1), (13, .iload_n 3, 1), (14, .iconst 0, 1), (15, .invokevirtual 69, 3), (18, .invokestatic 72, 3), (21, .ifCond .ne 5, 3), (24, .iconst (-1), 1), (25, .ireturn, 1), (26, .aload_n 0, 1), (27, .iload_n 3, 1), (28, .iconst 0, 1), (29, .invokevirtual 69, 3), (32, .bipush 65, 2), (34, .isub, 1), (35, .ireturn, 1)]
theorem nd_i63_ok : am_ic prog_11_method_7_code nd_i63 = true := by decide +kernel
def nd_s63 : List nm_S := [(65, 46, false, 785), (69, 57, false, 786), (72, 49, true, 787)]
theorem nd_s63_ok : nd_s63.all (nm_schk nd_ct nd_ml "PaperParcels$Styles") = true := by decide +kernel
theorem nd_ok63 : am_ok nm_Ts nm_Tn nd_cl nd_mt nd_fr nd_lo 63 (am_in nd_i63) (am_fl nd_f6) (am_ct nd_k6) (am_sl nd_ml nd_s63) := nm_ok (x := 63) (ini := false) rfl (by decide +kernel) nd_cok nd_i63_ok (by decide) nd_f6_ok nd_k6_ok nd_s63_ok (by decide +kernel)
-- PaperParcels$Styles.firstWithoutName(LPaperParcels$Elements;I)I
def nd_i64 : List (Nat × Instr × Nat) := [(0, .iconst 0, 1), (1, .istore_n 3, 1), (2, .iload_n 3, 1), (3, .aload_n 1, 1), (4, .getfield 53, 3), (7, .if_icmp .ge 36, 3), (10, .aload_n 1, 1), (11, .iload_n 3, 1), (12, .iload_n 2, 1), (13, .invokestatic 57, 3), (16, .istore 4, 2), (18, .iload 4, 2), (20, .iconst (-1), 1), (21, .if_icmp .eq 16, 3), (24, .aload_n 0, 1), (25, .getfield 18, 3), (28, .iload 4, 2), (30, .iaload, 1), (31, .iconst (-1), 1), (32, .if_icmp .ne 5, 3), (35, .iload_n 3, 1), (36, .ireturn, 1), (37, .iinc 3 1, 3), (40, .goto (-38), 3), (43, .iconst (-1), 1), (44, .ireturn, 1)]
theorem nd_i64_ok : am_ic prog_11_method_4_code nd_i64 = true := by decide +kernel
def nd_s64 : List nm_S := [(57, 63, false, 782)]
theorem nd_s64_ok : nd_s64.all (nm_schk nd_ct nd_ml "PaperParcels$Styles") = true := by decide +kernel
theorem nd_ok64 : am_ok nm_Ts nm_Tn nd_cl nd_mt nd_fr nd_lo 64 (am_in nd_i64) (am_fl nd_f6) (am_ct nd_k6) (am_sl nd_ml nd_s64) := nm_ok (x := 64) (ini := false) rfl (by decide +kernel) nd_cok nd_i64_ok (by decide) nd_f6_ok nd_k6_ok nd_s64_ok (by decide +kernel)
-- PaperParcels$Styles.firstWithoutEnd()I
def nd_i65 : List (Nat × Instr × Nat) := [(0, .iconst 1, 1), (1, .istore_n 1, 1), (2, .iload_n 1, 1), (3, .aload_n 0, 1), (4, .getfield 9, 3), (7, .getfield 53, 3), (10, .if_icmp .ge 43, 3), (13, .iload_n 1, 1), (14, .istore_n 2, 1), (15, .iconst 0, 1), (16, .istore_n 3, 1), (17, .iload_n 3, 1), (18, .bipush 26, 2), (20, .if_icmp .ge 20, 3), (23, .iload_n 2, 1), (24, .iconst (-1), 1), (25, .if_icmp .eq 15, 3), (28, .aload_n 0, 1), (29, .iload_n 2, 1), (30, .invokevirtual 61, 3), (33, .istore_n 2, 1), (34, .iinc 3 1, 3), (37, .goto (-20), 3), (40, .iload_n 2, 1), (41, .iconst (-1), 1), (42, .if_icmp .eq 5, 3), (45, .iload_n 1, 1), (46, .ireturn, 1), (47, .iinc 1 1, 3), (50, .goto (-48), 3), (53, .iconst (-1), 1), (54, .ireturn, 1)]
theorem nd_i65_ok : am_ic prog_11_method_5_code nd_i65 = true := by decide +kernel
def nd_s65 : List nm_S := [(61, 66, false, 796)]
theorem nd_s65_ok : nd_s65.all (nm_schk nd_ct nd_ml "PaperParcels$Styles") = true := by decide +kernel
theorem nd_ok65 : am_ok nm_Ts nm_Tn nd_cl nd_mt nd_fr nd_lo 65 (am_in nd_i65) (am_fl nd_f6) (am_ct nd_k6) (am_sl nd_ml nd_s65) := nm_ok (x := 65) (ini := false) rfl (by decide +kernel) nd_cok nd_i65_ok (by decide) nd_f6_ok nd_k6_ok nd_s65_ok (by decide +kernel)
-- PaperParcels$Styles.parentOf(I)I
def nd_i66 : List (Nat × Instr × Nat) := [(0, .aload_n 0, 1), (1, .getfield 9, 3), (4, .iload_n 1, 1), (5, .bipush 102, 2), (7, .invokestatic 57, 3), (10, .istore_n 2, 1), (11, .iload_n 2, 1), (12, .iconst (-1), 1), (13, .if_icmp .ne 7, 3), (16, .iconst (-1), 1), (17, .goto 9, 3), (20, .aload_n 0, 1), (21, .getfield 18, 3), (24, .iload_n 2, 1), (25, .iaload, 1), (26, .ireturn, 1)]
theorem nd_i66_ok : am_ic prog_11_method_6_code nd_i66 = true := by decide +kernel
def nd_s66 : List nm_S := [(57, 63, false, 782)]
theorem nd_s66_ok : nd_s66.all (nm_schk nd_ct nd_ml "PaperParcels$Styles") = true := by decide +kernel
theorem nd_ok66 : am_ok nm_Ts nm_Tn nd_cl nd_mt nd_fr nd_lo 66 (am_in nd_i66) (am_fl nd_f6) (am_ct nd_k6) (am_sl nd_ml nd_s66) := nm_ok (x := 66) (ini := false) rfl (by decide +kernel) nd_cok nd_i66_ok (by decide) nd_f6_ok nd_k6_ok nd_s66_ok (by decide +kernel)
-- PaperParcels$Styles.settle()V
def nd_i67 : List (Nat × Instr × Nat) := [(0, .iconst 0, 1), (1, .istore_n 1, 1), (2, .iload_n 1, 1), (3, .bipush 26, 2), (5, .if_icmp .ge 63, 3), (8, .aload_n 0, 1), (9, .getfield 22, 3), (12, .iload_n 1, 1), (13, .aload_n 0, 1), (14, .aload_n 0, 1), (15, .getfield 18, 3), (18, .iload_n 1, 1), (19, .iaload, 1), (20, .bipush 98, 2), (22, .invokevirtual 76, 3), (25, .iastore, 1), (26, .aload_n 0, 1), (27, .getfield 25, 3), (30, .iload_n 1, 1), (31, .aload_n 0, 1), (32, .aload_n 0, 1), (33, .getfield 18, 3), (36, .iload_n 1, 1), (37, .iaload, 1), (38, .bipush 122, 2), (40, .invokevirtual 76, 3), (43, .iastore, 1), (44, .aload_n 0, 1), (45, .getfield 28, 3), (48, .iload_n 1, 1), (49, .aload_n 0, 1), (50, .aload_n 0, 1), (51, .getfield 18, 3), (54, .iload_n 1, 1), (55, .iaload, 1), (56, .bipush 107, 2), (58, .invokevirtual 76, 3), (61, .iastore, 1), (62, .iinc 1 1, 3), (65, .goto (-63), 3), (68, .return_, 1)]
theorem nd_i67_ok : am_ic prog_11_method_8_code nd_i67 = true := by decide +kernel
def nd_s67 : List nm_S := [(76, 68, false, 804)]
theorem nd_s67_ok : nd_s67.all (nm_schk nd_ct nd_ml "PaperParcels$Styles") = true := by decide +kernel
theorem nd_ok67 : am_ok nm_Ts nm_Tn nd_cl nd_mt nd_fr nd_lo 67 (am_in nd_i67) (am_fl nd_f6) (am_ct nd_k6) (am_sl nd_ml nd_s67) := nm_ok (x := 67) (ini := false) rfl (by decide +kernel) nd_cok nd_i67_ok (by decide) nd_f6_ok nd_k6_ok nd_s67_ok (by decide +kernel)
-- PaperParcels$Styles.given(II)I
def nd_i68 : List (Nat × Instr × Nat) := [(0, .iload_n 1, 1), (1, .istore_n 3, 1), (2, .iconst 0, 1), (3, .istore 4, 2), (5, .iload 4, 2), (7, .bipush 26, 2), (9, .if_icmp .ge 47, 3), (12, .iload_n 3, 1), (13, .iconst (-1), 1), (14, .if_icmp .eq 42, 3), (17, .aload_n 0, 1), (18, .getfield 9, 3), (21, .iload_n 3, 1), (22, .iload_n 2, 1), (23, .invokevirtual 65, 3), (26, .istore 5, 2), (28, .iload 5, 2), (30, .iconst (-1), 1), (31, .if_icmp .eq 13, 3), (34, .aload_n 0, 1), (35, .getfield 9, 3), (38, .iload 5, 2), (40, .invokevirtual 79, 3), (43, .ireturn, 1), (44, .aload_n 0, 1), (45, .iload_n 3, 1), (46, .invokevirtual 61, 3), (49, .istore_n 3, 1), (50, .iinc 4 1, 3), (53, .goto (-48), 3), (56, .iconst (-1), 1), (57, .ireturn, 1)]
theorem nd_i68_ok : am_ic prog_11_method_9_code nd_i68 = true := by decide +kernel
def nd_s68 : List nm_S := [(65, 46, false, 785), (79, 69, false, 808), (61, 66, false, 796)]
theorem nd_s68_ok : nd_s68.all (nm_schk nd_ct nd_ml "PaperParcels$Styles") = true := by decide +kernel
theorem nd_ok68 : am_ok nm_Ts nm_Tn nd_cl nd_mt nd_fr nd_lo 68 (am_in nd_i68) (am_fl nd_f6) (am_ct nd_k6) (am_sl nd_ml nd_s68) := nm_ok (x := 68) (ini := false) rfl (by decide +kernel) nd_cok nd_i68_ok (by decide) nd_f6_ok nd_k6_ok nd_s68_ok (by decide +kernel)
-- PaperParcels$Styles.lookOf(II)I
def nd_i73 : List (Nat × Instr × Nat) := [(0, .aload_n 0, 1), (1, .getfield 15, 3), (4, .iload_n 1, 1), (5, .bipush 121, 2), (7, .invokestatic 57, 3), (10, .istore_n 3, 1), (11, .iload_n 3, 1), (12, .iconst (-1), 1), (13, .if_icmp .ne 5, 3), (16, .iload_n 2, 1), (17, .ireturn, 1), (18, .aload_n 0, 1), (19, .getfield 22, 3), (22, .iload_n 3, 1), (23, .iaload, 1), (24, .iconst (-1), 1), (25, .if_icmp .eq 12, 3), (28, .aload_n 0, 1), (29, .getfield 22, 3), (32, .iload_n 3, 1), (33, .iaload, 1), (34, .goto 8, 3), (37, .iload_n 2, 1), (38, .iconst 0, 1), (39, .invokestatic 82, 3), (42, .istore 4, 2), (44, .aload_n 0, 1), (45, .getfield 25, 3), (48, .iload_n 3, 1), (49, .iaload, 1), (50, .iconst (-1), 1), (51, .if_icmp .eq 12, 3), (54, .aload_n 0, 1), (55, .getfield 25, 3), (58, .iload_n 3, 1), (59, .iaload, 1), (60, .goto 8, 3), (63, .iload_n 2, 1), (64, .iconst 1, 1), (65, .invokestatic 82, 3), (68, .istore 5, 2), (70, .aload_n 0, 1), (71, .getfield 28, 3), (74, .iload_n 3, 1), (75, .iaload, 1), (76, .iconst (-1), 1), (77, .if_icmp .eq 12, 3), (80, .aload_n 0, 1), (81, .getfield 28, 3), (84, .iload_n 3, 1), (85, .iaload, 1), (86, .goto 8, 3), (89, .iload_n 2, 1), (90, .iconst 2, 1), (91, .invokestatic 82, 3), (94, .istore 6, 2), (96, .sipush 1000, 3), (99, .iload 4, 2), (101, .imul, 1), (102, .bipush 10, 2), (104, .iload 5, 2), (106, .imul, 1), (107, .iadd, 1), (108, .iload 6, 2), (110, .iadd, 1), (111, .ireturn, 1)]
theorem nd_i73_ok : am_ic prog_11_method_10_code nd_i73 = true := by decide +kernel
def nd_s73 : List nm_S := [(57, 63, false, 782), (82, 74, true, 830)]
theorem nd_s73_ok : nd_s73.all (nm_schk nd_ct nd_ml "PaperParcels$Styles") = true := by decide +kernel
theorem nd_ok73 : am_ok nm_Ts nm_Tn nd_cl nd_mt nd_fr nd_lo 73 (am_in nd_i73) (am_fl nd_f6) (am_ct nd_k6) (am_sl nd_ml nd_s73) := nm_ok (x := 73) (ini := false) rfl (by decide +kernel) nd_cok nd_i73_ok (by decide) nd_f6_ok nd_k6_ok nd_s73_ok (by decide +kernel)
end
section
-- PaperParcels$Builder.build()Z
def nd_i70 : List (Nat × Instr × Nat) := [(0, .aload_n 0, 1), (1, .getfield 19, 3), (4, .invokevirtual 30, 3), (7, .aload_n 0, 1), (8, .iconst (-1), 1), (9, .putfield 35, 3), (12, .iconst 0, 1), (13, .istore_n 1, 1), (14, .iconst 0, 1), (15, .istore_n 2, 1), (16, .iload_n 2, 1), (17, .aload_n 0, 1), (18, .getfield 9, 3), (21, .getfield 39, 3), (24, .getfield 45, 3), (27, .if_icmp .ge 96, 3), (30, .iconst 1, 1), (31, .istore_n 3, 1), (32, .iload_n 1, 1), (33, .aload_n 0, 1), (34, .getfield 9, 3), (37, .getfield 50, 3), (40, .if_icmp .ge 28, 3), (43, .aload_n 0, 1), (44, .getfield 9, 3), (47, .getfield 53, 3), (50, .iload_n 1, 1), (51, .iaload, 1), (52, .iload_n 2, 1), (53, .if_icmp .ne 15, 3), (56, .aload_n 0, 1), (57, .iload_n 1, 1), (58, .invokevirtual 56, 3), (61, .istore_n 3, 1), (62, .iinc 1 1, 3), (65, .goto 46, 3), (68, .aload_n 0, 1), (69, .getfield 9, 3), (72, .getfield 60, 3), (75, .iload_n 2, 1), (76, .iaload, 1), (77, .iconst (-1), 1), (78, .if_icmp .eq 33, 3), (81, .aload_n 0, 1), (82, .aload_n 0, 1), (83, .getfield 23, 3), (86, .aload_n 0, 1), (87, .getfield 9, 3), (90, .getfield 60, 3), (93, .iload_n 2, 1), (94, .iaload, 1), (95, .iaload, 1), (96, .aload_n 0, 1), (97, .getfield 9, 3), (100, .getfield 39, 3), (103, .iload_n 2, 1), (104, .invokevirtual 63, 3), (107, .invokevirtual 67, 3), (110, .istore_n 3, 1), (111, .iload_n 3, 1), (112, .ifCond .ne 5, 3), (115, .iconst 0, 1), (116, .ireturn, 1), (117, .iinc 2 1, 3), (120, .goto (-104), 3), (123, .iconst 1, 1), (124, .ireturn, 1)]
theorem nd_i70_ok : am_ic prog_2_method_2_code nd_i70 = true := by decide +kernel
def nd_s70 : List nm_S := [(30, 71, false, 817), (56, 72, false, 822), (63, 18, false, 837), (67, 76, false, 838)]
theorem nd_s70_ok : nd_s70.all (nm_schk nd_ct nd_ml "PaperParcels$Builder") = true := by decide +kernel
theorem nd_ok70 : am_ok nm_Ts nm_Tn nd_cl nd_mt nd_fr nd_lo 70 (am_in nd_i70) (am_fl nd_f7) (am_ct nd_k7) (am_sl nd_ml nd_s70) := nm_ok (x := 70) (ini := false) rfl (by decide +kernel) nd_cok nd_i70_ok (by decide) nd_f7_ok nd_k7_ok nd_s70_ok (by decide +kernel)
-- PaperParcels$Builder.addElement(I)Z
def nd_i72 : List (Nat × Instr × Nat) := [(0, .aload_n 0, 1), (1, .getfield 9, 3), (4, .getfield 71, 3), (7, .iload_n 1, 1), (8, .iaload, 1), (9, .istore_n 2, 1), (10, .iload_n 2, 1), (11, .iconst (-1), 1), (12, .if_icmp .ne 7, 3), (15, .iconst (-1), 1), (16, .goto 9, 3), (19, .aload_n 0, 1), (20, .getfield 27, 3), (23, .iload_n 2, 1), (24, .iaload, 1), (25, .istore_n 3, 1), (26, .aload_n 0, 1), (27, .getfield 27, 3), (30, .iload_n 1, 1), (31, .aload_n 0, 1), (32, .getfield 19, 3), (35, .getfield 74, 3), (38, .iastore, 1), (39, .aload_n 0, 1), (40, .getfield 23, 3), (43, .iload_n 1, 1), (44, .iconst (-1), 1), (45, .iastore, 1), (46, .aload_n 0, 1), (47, .getfield 9, 3), (50, .getfield 75, 3), (53, .iload_n 1, 1), (54, .iaload, 1), (55, .lookupswitch 145 #[(105, 134), (108, 123), (112, 80), (120, 41)], 41), (96, .aload_n 0, 1), (97, .getfield 27, 3), (100, .iload_n 1, 1), (101, .iload_n 3, 1), (102, .iastore, 1), (103, .aload_n 0, 1), (104, .getfield 23, 3), (107, .iload_n 1, 1), (108, .aload_n 0, 1), (109, .getfield 15, 3), (112, .iload_n 1, 1), (113, .iload_n 2, 1), (114, .iconst (-1), 1), (115, .if_icmp .ne 8, 3), (118, .bipush 100, 2), (120, .goto 9, 3), (123, .aload_n 0, 1), (124, .getfield 23, 3), (127, .iload_n 2, 1), (128, .iaload, 1), (129, .invokevirtual 78, 3), (132, .iastore, 1), (133, .iconst 1, 1), (134, .ireturn, 1), (135, .aload_n 0, 1), (136, .aload_n 0, 1), (137, .getfield 19, 3), (140, .getfield 74, 3), (143, .putfield 35, 3), (146, .aload_n 0, 1), (147, .getfield 23, 3), (150, .iload_n 1, 1), (151, .aload_n 0, 1), (152, .getfield 15, 3), (155, .iload_n 1, 1), (156, .bipush 100, 2), (158, .invokevirtual 78, 3), (161, .iastore, 1), (162, .aload_n 0, 1), (163, .getfield 19, 3), (166, .iconst 1, 1), (167, .iload_n 3, 1), (168, .aload_n 0, 1), (169, .getfield 23, 3), (172, .iload_n 1, 1), (173, .iaload, 1), (174, .invokevirtual 84, 3), (177, .ireturn, 1), (178, .aload_n 0, 1), (179, .getfield 19, 3), (182, .iconst 3, 1), (183, .iload_n 3, 1), (184, .iconst (-1), 1), (185, .invokevirtual 84, 3), (188, .ireturn, 1), (189, .aload_n 0, 1), (190, .getfield 19, 3), (193, .iconst 4, 1), (194, .iload_n 3, 1), (195, .iconst (-1), 1), (196, .invokevirtual 84, 3), (199, .ireturn, 1), (200, .aload_n 0, 1), (201, .getfield 19, 3), (204, .iconst 0, 1), (205, .iload_n 3, 1), (206, .iconst (-1), 1), (207, .invokevirtual 84, 3), (210, .ireturn, 1)]
theorem nd_i72_ok : am_ic prog_2_method_3_code nd_i72 = true := by decide +kernel
def nd_s72 : List nm_S := [(78, 73, false, 826), (84, 75, false, 833)]
theorem nd_s72_ok : nd_s72.all (nm_schk nd_ct nd_ml "PaperParcels$Builder") = true := by decide +kernel
theorem nd_ok72 : am_ok nm_Ts nm_Tn nd_cl nd_mt nd_fr nd_lo 72 (am_in nd_i72) (am_fl nd_f7) (am_ct nd_k7) (am_sl nd_ml nd_s72) := nm_ok (x := 72) (ini := false) rfl (by decide +kernel) nd_cok nd_i72_ok (by decide) nd_f7_ok nd_k7_ok nd_s72_ok (by decide +kernel)
-- PaperParcels$Builder.addLetter(II)Z
def nd_i76 : List (Nat × Instr × Nat) := [(0, .aload_n 0, 1), (1, .getfield 19, 3), (4, .iload_n 1, 1), (5, .invokevirtual 88, 3), (8, .ifCond .ne 21, 3), (11, .aload_n 0, 1), (12, .getfield 19, 3), (15, .iconst 2, 1), (16, .aload_n 0, 1), (17, .getfield 35, 3), (20, .iload_n 1, 1), (21, .invokevirtual 84, 3), (24, .ifCond .ne 5, 3), (27, .iconst 0, 1), (28, .ireturn, 1), (29, .aload_n 0, 1), (30, .getfield 19, 3), (33, .iload_n 2, 1), (34, .invokevirtual 91, 3), (37, .iconst 1, 1), (38, .ireturn, 1)]
theorem nd_i76_ok : am_ic prog_2_method_4_code nd_i76 = true := by decide +kernel
def nd_s76 : List nm_S := [(88, 77, false, 842), (84, 75, false, 833), (91, 78, false, 846)]
theorem nd_s76_ok : nd_s76.all (nm_schk nd_ct nd_ml "PaperParcels$Builder") = true := by decide +kernel
theorem nd_ok76 : am_ok nm_Ts nm_Tn nd_cl nd_mt nd_fr nd_lo 76 (am_in nd_i76) (am_fl nd_f7) (am_ct nd_k7) (am_sl nd_ml nd_s76) := nm_ok (x := 76) (ini := false) rfl (by decide +kernel) nd_cok nd_i76_ok (by decide) nd_f7_ok nd_k7_ok nd_s76_ok (by decide +kernel)
end
section
-- PaperParcels$Reader.findFault(LPaperParcels$Row;)I
def nd_i26 : List (Nat × Instr × Nat) := [(0, .aload_n 0, 1), (1, .aload_n 0, 1), (2, .aload_n 1, 1), (3, .invokevirtual 70, 3), (6, .invokevirtual 74, 3), (9, .ifCond .eq 5, 3), (12, .iconst 1, 1), (13, .ireturn, 1), (14, .aload_n 0, 1), (15, .aload_n 0, 1), (16, .getfield 29, 3), (19, .aload_n 1, 1), (20, .invokevirtual 78, 3), (23, .istore_n 2, 1), (24, .iload_n 2, 1), (25, .ifCond .ne 13, 3), (28, .aload_n 0, 1), (29, .aload_n 0, 1), (30, .getfield 33, 3), (33, .aload_n 1, 1), (34, .invokevirtual 78, 3), (37, .istore_n 2, 1), (38, .iload_n 2, 1), (39, .ifCond .eq 5, 3), (42, .iload_n 2, 1), (43, .ireturn, 1), (44, .aload_n 0, 1), (45, .aload_n 0, 1), (46, .getfield 45, 3), (49, .invokevirtual 82, 3), (52, .invokevirtual 74, 3), (55, .ifCond .ne 20, 3), (58, .aload_n 0, 1), (59, .aload_n 0, 1), (60, .getfield 49, 3), (63, .invokevirtual 82, 3), (66, .invokestatic 86, 3), (69, .invokevirtual 74, 3), (72, .ifCond .eq 5, 3), (75, .iconst 4, 1), (76, .ireturn, 1), (77, .aload_n 0, 1), (78, .aload_n 0, 1), (79, .getfield 45, 3), (82, .bipush 116, 2), (84, .invokestatic 90, 3), (87, .invokevirtual 74, 3), (90, .ifCond .ne 22, 3), (93, .aload_n 0, 1), (94, .aload_n 0, 1), (95, .getfield 49, 3), (98, .bipush 100, 2), (100, .invokestatic 90, 3), (103, .invokestatic 86, 3), (106, .invokevirtual 74, 3), (109, .ifCond .eq 5, 3), (112, .iconst 5, 1), (113, .ireturn, 1), (114, .aload_n 0, 1), (115, .aload_n 0, 1), (116, .getfield 57, 3), (119, .invokevirtual 96, 3), (122, .invokevirtual 74, 3), (125, .ifCond .eq 6, 3), (128, .bipush 6, 2), (130, .ireturn, 1), (131, .aload_n 0, 1), (132, .getfield 57, 3), (135, .invokevirtual 98, 3), (138, .aload_n 0, 1), (139, .aload_n 0, 1), (140, .getfield 66, 3), (143, .invokevirtual 101, 3), (146, .ifCond .eq 7, 3), (149, .iconst (-1), 1), (150, .goto 4, 3), (153, .iconst 0, 1), (154, .invokevirtual 74, 3), (157, .ifCond .eq 8, 3), (160, .bipush 7, 2), (162, .goto 4, 3), (165, .iconst 0, 1), (166, .ireturn, 1)]
theorem nd_i26_ok : am_ic prog_7_method_2_code nd_i26 = true := by decide +kernel
def nd_s26 : List nm_S := [(70, 27, false, 640), (74, 33, false, 662), (78, 34, false, 666), (82, 40, false, 693), (86, 52, false, 739), (90, 53, false, 742), (96, 61, false, 773), (98, 67, false, 800), (101, 70, false, 813)]
theorem nd_s26_ok : nd_s26.all (nm_schk nd_ct nd_ml "PaperParcels$Reader") = true := by decide +kernel
theorem nd_ok26 : am_ok nm_Ts nm_Tn nd_cl nd_mt nd_fr nd_lo 26 (am_in nd_i26) (am_fl nd_f3) (am_ct nd_k3) (am_sl nd_ml nd_s26) := nm_ok (x := 26) (ini := false) rfl (by decide +kernel) nd_cok nd_i26_ok (by decide) nd_f3_ok nd_k3_ok nd_s26_ok (by decide +kernel)
-- PaperParcels$Reader.packageFault(LPaperParcels$Row;)I
def nd_i27 : List (Nat × Instr × Nat) := [(0, .aload_n 0, 1), (1, .getfield 29, 3), (4, .aload_n 1, 1), (5, .iconst 0, 1), (6, .invokevirtual 105, 3), (9, .istore_n 2, 1), (10, .iload_n 2, 1), (11, .iconst (-1), 1), (12, .if_icmp .ne 19, 3), (15, .aload_n 0, 1), (16, .getfield 33, 3), (19, .aload_n 1, 1), (20, .aload_n 0, 1), (21, .getfield 29, 3), (24, .invokevirtual 109, 3), (27, .invokevirtual 105, 3), (30, .istore_n 2, 1), (31, .iload_n 2, 1), (32, .iconst (-1), 1), (33, .if_icmp .ne 25, 3), (36, .aload_n 0, 1), (37, .getfield 33, 3), (40, .invokevirtual 109, 3), (43, .aload_n 1, 1), (44, .getfield 112, 3), (47, .if_icmp .ge 11, 3), (50, .aload_n 0, 1), (51, .getfield 33, 3), (54, .invokevirtual 109, 3), (57, .istore_n 2, 1), (58, .iload_n 2, 1), (59, .ireturn, 1)]
theorem nd_i27_ok : am_ic prog_7_method_5_code nd_i27 = true := by decide +kernel
def nd_s27 : List nm_S := [(105, 28, false, 644), (109, 32, false, 658)]
theorem nd_s27_ok : nd_s27.all (nm_schk nd_ct nd_ml "PaperParcels$Reader") = true := by decide +kernel
theorem nd_ok27 : am_ok nm_Ts nm_Tn nd_cl nd_mt nd_fr nd_lo 27 (am_in nd_i27) (am_fl nd_f3) (am_ct nd_k3) (am_sl nd_ml nd_s27) := nm_ok (x := 27) (ini := false) rfl (by decide +kernel) nd_cok nd_i27_ok (by decide) nd_f3_ok nd_k3_ok nd_s27_ok (by decide +kernel)
-- PaperParcels$Reader.isFault(I)Z
def nd_i33 : List (Nat × Instr × Nat) := [(0, .aload_n 0, 1), (1, .iload_n 1, 1), (2, .putfield 20, 3), (5, .iload_n 1, 1), (6, .iconst (-1), 1), (7, .if_icmp .eq 7, 3), (10, .iconst 1, 1), (11, .goto 4, 3), (14, .iconst 0, 1), (15, .ireturn, 1)]
theorem nd_i33_ok : am_ic prog_7_method_3_code nd_i33 = true := by decide +kernel
def nd_s33 : List nm_S := []
theorem nd_s33_ok : nd_s33.all (nm_schk nd_ct nd_ml "PaperParcels$Reader") = true := by decide +kernel
theorem nd_ok33 : am_ok nm_Ts nm_Tn nd_cl nd_mt nd_fr nd_lo 33 (am_in nd_i33) (am_fl nd_f3) (am_ct nd_k3) (am_sl nd_ml nd_s33) := nm_ok (x := 33) (ini := false) rfl (by decide +kernel) nd_cok nd_i33_ok (by decide) nd_f3_ok nd_k3_ok nd_s33_ok (by decide +kernel)
-- PaperParcels$Reader.contentFault(LPaperParcels$Part;LPaperParcels$Row;)I
def nd_i34 : List (Nat × Instr × Nat) := [(0, .aload_n 0, 1), (1, .aload_n 1, 1), (2, .aload_n 2, 1), (3, .invokevirtual 117, 3), (6, .invokevirtual 74, 3), (9, .ifCond .eq 5, 3), (12, .iconst 2, 1), (13, .ireturn, 1), (14, .aload_n 0, 1), (15, .aload_n 1, 1), (16, .aload_n 2, 1), (17, .invokevirtual 120, 3), (20, .invokevirtual 74, 3), (23, .ifCond .eq 7, 3), (26, .iconst 3, 1), (27, .goto 4, 3), (30, .iconst 0, 1), (31, .ireturn, 1)]
theorem nd_i34_ok : am_ic prog_7_method_6_code nd_i34 = true := by decide +kernel
def nd_s34 : List nm_S := [(117, 35, false, 670), (74, 33, false, 662), (120, 37, false, 680)]
theorem nd_s34_ok : nd_s34.all (nm_schk nd_ct nd_ml "PaperParcels$Reader") = true := by decide +kernel
theorem nd_ok34 : am_ok nm_Ts nm_Tn nd_cl nd_mt nd_fr nd_lo 34 (am_in nd_i34) (am_fl nd_f3) (am_ct nd_k3) (am_sl nd_ml nd_s34) := nm_ok (x := 34) (ini := false) rfl (by decide +kernel) nd_cok nd_i34_ok (by decide) nd_f3_ok nd_k3_ok nd_s34_ok (by decide +kernel)
-- PaperParcels$Reader.inBody(I)I
def nd_i52 : List (Nat × Instr × Nat) := [(0, .iload_n 0, 1), (1, .iconst (-1), 1), (2, .if_icmp .ne 7, 3), (5, .iconst (-1), 1), (6, .goto 8, 3), (9, .sipush 1000, 3), (12, .iload_n 0, 1), (13, .iadd, 1), (14, .ireturn, 1)]
theorem nd_i52_ok : am_ic prog_7_method_4_code nd_i52 = true := by decide +kernel
def nd_s52 : List nm_S := []
theorem nd_s52_ok : nd_s52.all (nm_schk nd_ct nd_ml "PaperParcels$Reader") = true := by decide +kernel
theorem nd_ok52 : am_ok nm_Ts nm_Tn nd_cl nd_mt nd_fr nd_lo 52 (am_in nd_i52) (am_fl nd_f3) (am_ct nd_k3) (am_sl nd_ml nd_s52) := nm_ok (x := 52) (ini := false) rfl (by decide +kernel) nd_cok nd_i52_ok (by decide) nd_f3_ok nd_k3_ok nd_s52_ok (by decide +kernel)
end
section
-- PaperParcels$Tree.link()V
def nd_i95 : List (Nat × Instr × Nat) := [(0, .iconst 0, 1), (1, .istore_n 1, 1), (2, .iload_n 1, 1), (3, .aload_n 0, 1), (4, .getfield 9, 3), (7, .getfield 28, 3), (10, .if_icmp .ge 42, 3), (13, .aload_n 0, 1), (14, .getfield 15, 3), (17, .iload_n 1, 1), (18, .bipush 40, 2), (20, .iastore, 1), (21, .aload_n 0, 1), (22, .getfield 19, 3), (25, .iload_n 1, 1), (26, .bipush 40, 2), (28, .iastore, 1), (29, .aload_n 0, 1), (30, .getfield 22, 3), (33, .iload_n 1, 1), (34, .iconst 1, 1), (35, .aload_n 0, 1), (36, .getfield 9, 3), (39, .getfield 34, 3), (42, .iload_n 1, 1), (43, .iaload, 1), (44, .iadd, 1), (45, .iastore, 1), (46, .iinc 1 1, 3), (49, .goto (-47), 3), (52, .aload_n 0, 1), (53, .getfield 25, 3), (56, .bipush 40, 2), (58, .iconst 0, 1), (59, .iastore, 1), (60, .aload_n 0, 1), (61, .getfield 9, 3), (64, .getfield 28, 3), (67, .iconst 1, 1), (68, .isub, 1), (69, .istore_n 1, 1), (70, .iload_n 1, 1), (71, .ifCond .lt 82, 3), (74, .aload_n 0, 1), (75, .getfield 9, 3), (78, .getfield 37, 3), (81, .iload_n 1, 1), (82, .iaload, 1), (83, .istore_n 2, 1), (84, .iload_n 2, 1), (85, .iconst (-1), 1), (86, .if_icmp .eq 37, 3), (89, .aload_n 0, 1), (90, .getfield 19, 3), (93, .iload_n 1, 1), (94, .aload_n 0, 1), (95, .getfield 15, 3), (98, .iload_n 2, 1), (99, .iaload, 1), (100, .iastore, 1), (101, .aload_n 0, 1), (102, .getfield 15, 3), (105, .iload_n 2, 1), (106, .iload_n 1, 1), (107, .iastore, 1), (108, .aload_n 0, 1), (109, .getfield 22, 3), (112, .iload_n 2, 1), (113, .dup2, 1), (114, .iaload, 1), (115, .aload_n 0, 1), (116, .getfield 22, 3), (119, .iload_n 1, 1), (120, .iaload, 1), (121, .iadd, 1), (122, .iastore, 1), (123, .aload_n 0, 1), (124, .getfield 25, 3), (127, .iload_n 1, 1), (128, .aload_n 0, 1), (129, .getfield 22, 3), (132, .iload_n 1, 1), (133, .iaload, 1), (134, .aload_n 0, 1), (135, .getfield 25, 3), (138, .aload_n 0, 1), (139, .getfield 19, 3), (142, .iload_n 1, 1), (143, .iaload, 1), (144, .iaload, 1), (145, .iadd, 1), (146, .iastore, 1), (147, .iinc 1 (-1), 3), (150, .goto (-80), 3), (153, .return_, 1)]
theorem nd_i95_ok : am_ic prog_12_method_2_code nd_i95 = true := by decide +kernel
def nd_s95 : List nm_S := []
theorem nd_s95_ok : nd_s95.all (nm_schk nd_ct nd_ml "PaperParcels$Tree") = true := by decide +kernel
theorem nd_ok95 : am_ok nm_Ts nm_Tn nd_cl nd_mt nd_fr nd_lo 95 (am_in nd_i95) (am_fl nd_f9) (am_ct nd_k9) (am_sl nd_ml nd_s95) := nm_ok (x := 95) (ini := false) rfl (by decide +kernel) nd_cok nd_i95_ok (by decide) nd_f9_ok nd_k9_ok nd_s95_ok (by decide +kernel)
end
section
-- PaperParcels$Script.drop()V
def nd_i81 : List (Nat × Instr × Nat) := [(0, .aload_n 0, 1), (1, .iconst 0, 1), (2, .putfield 54, 3), (5, .aload_n 0, 1), (6, .iconst 0, 1), (7, .putfield 58, 3), (10, .return_, 1)]
theorem nd_i81_ok : am_ic prog_10_method_2_code nd_i81 = true := by decide +kernel
def nd_s81 : List nm_S := []
theorem nd_s81_ok : nd_s81.all (nm_schk nd_ct nd_ml "PaperParcels$Script") = true := by decide +kernel
theorem nd_ok81 : am_ok nm_Ts nm_Tn nd_cl nd_mt nd_fr nd_lo 81 (am_in nd_i81) (am_fl nd_f8) (am_ct nd_k8) (am_sl nd_ml nd_s81) := nm_ok (x := 81) (ini := false) rfl (by decide +kernel) nd_cok nd_i81_ok (by decide) nd_f8_ok nd_k8_ok nd_s81_ok (by decide +kernel)
-- PaperParcels$Script.find()I
def nd_i94 : List (Nat × Instr × Nat) := [(0, .aload_n 0, 1), (1, .getfield 14, 3), (4, .invokevirtual 62, 3), (7, .aload_n 0, 1), (8, .getfield 20, 3), (11, .invokevirtual 62, 3), (14, .aload_n 0, 1), (15, .invokevirtual 65, 3), (18, .aload_n 0, 1), (19, .invokevirtual 68, 3), (22, .aload_n 0, 1), (23, .iconst 1, 1), (24, .putfield 54, 3), (27, .aload_n 0, 1), (28, .invokevirtual 71, 3), (31, .aload_n 0, 1), (32, .getfield 42, 3), (35, .iconst 0, 1), (36, .aaload, 1), (37, .iconst 0, 1), (38, .iaload, 1), (39, .ireturn, 1)]
theorem nd_i94_ok : am_ic prog_10_method_3_code nd_i94 = true := by decide +kernel
def nd_s94 : List nm_S := [(62, 95, false, 963), (65, 96, false, 967), (68, 81, false, 997), (71, 103, false, 998)]
theorem nd_s94_ok : nd_s94.all (nm_schk nd_ct nd_ml "PaperParcels$Script") = true := by decide +kernel
theorem nd_ok94 : am_ok nm_Ts nm_Tn nd_cl nd_mt nd_fr nd_lo 94 (am_in nd_i94) (am_fl nd_f8) (am_ct nd_k8) (am_sl nd_ml nd_s94) := nm_ok (x := 94) (ini := false) rfl (by decide +kernel) nd_cok nd_i94_ok (by decide) nd_f8_ok nd_k8_ok nd_s94_ok (by decide +kernel)
-- PaperParcels$Script.fillCosts()V
def nd_i96 : List (Nat × Instr × Nat) := [(0, .aload_n 0, 1), (1, .getfield 45, 3), (4, .bipush 40, 2), (6, .aaload, 1), (7, .bipush 40, 2), (9, .iconst 0, 1), (10, .iastore, 1), (11, .iconst 0, 1), (12, .istore_n 1, 1), (13, .iload_n 1, 1), (14, .aload_n 0, 1), (15, .getfield 20, 3), (18, .getfield 74, 3), (21, .getfield 77, 3), (24, .if_icmp .ge 27, 3), (27, .aload_n 0, 1), (28, .getfield 45, 3), (31, .bipush 40, 2), (33, .aaload, 1), (34, .iload_n 1, 1), (35, .aload_n 0, 1), (36, .getfield 20, 3), (39, .getfield 80, 3), (42, .iload_n 1, 1), (43, .iaload, 1), (44, .iastore, 1), (45, .iinc 1 1, 3), (48, .goto (-35), 3), (51, .aload_n 0, 1), (52, .getfield 14, 3), (55, .getfield 74, 3), (58, .getfield 77, 3), (61, .iconst 1, 1), (62, .isub, 1), (63, .istore_n 1, 1), (64, .iload_n 1, 1), (65, .ifCond .lt 134, 3), (68, .aload_n 0, 1), (69, .getfield 45, 3), (72, .iload_n 1, 1), (73, .aaload, 1), (74, .bipush 40, 2), (76, .aload_n 0, 1), (77, .getfield 14, 3), (80, .getfield 80, 3), (83, .iload_n 1, 1), (84, .iaload, 1), (85, .iastore, 1), (86, .aload_n 0, 1), (87, .getfield 20, 3), (90, .getfield 74, 3), (93, .getfield 77, 3), (96, .iconst 1, 1), (97, .isub, 1), (98, .istore_n 2, 1), (99, .iload_n 2, 1), (100, .ifCond .lt 93, 3), (103, .aload_n 0, 1), (104, .iload_n 1, 1), (105, .iload_n 2, 1), (106, .invokevirtual 83, 3), (109, .aload_n 0, 1), (110, .iload_n 1, 1), (111, .iload_n 2, 1), (112, .invokevirtual 87, 3), (115, .invokestatic 90, 3), (118, .istore_n 3, 1), (119, .aload_n 0, 1), (120, .iload_n 1, 1), (121, .iload_n 2, 1), (122, .invokevirtual 95, 3), (125, .ifCond .eq 53, 3), (128, .aload_n 0, 1), (129, .getfield 42, 3), (132, .iload_n 1, 1), (133, .aaload, 1), (134, .iload_n 2, 1), (135, .aload_n 0, 1), (136, .iload_n 1, 1), (137, .iload_n 2, 1), (138, .invokevirtual 99, 3), (141, .aload_n 0, 1), (142, .getfield 45, 3), (145, .aload_n 0, 1), (146, .getfield 14, 3), (149, .getfield 102, 3), (152, .iload_n 1, 1), (153, .iaload, 1), (154, .aaload, 1), (155, .aload_n 0, 1), (156, .getfield 20, 3), (159, .getfield 102, 3), (162, .iload_n 2, 1), (163, .iaload, 1), (164, .iaload, 1), (165, .iadd, 1), (166, .iastore, 1), (167, .iload_n 3, 1), (168, .aload_n 0, 1), (169, .iload_n 1, 1), (170, .iload_n 2, 1), (171, .invokevirtual 105, 3), (174, .invokestatic 90, 3), (177, .istore_n 3, 1), (178, .aload_n 0, 1), (179, .getfield 45, 3), (182, .iload_n 1, 1), (183, .aaload, 1), (184, .iload_n 2, 1), (185, .iload_n 3, 1), (186, .iastore, 1), (187, .iinc 2 (-1), 3), (190, .goto (-91), 3), (193, .iinc 1 (-1), 3), (196, .goto (-132), 3), (199, .return_, 1)]
theorem nd_i96_ok : am_ic prog_10_method_4_code nd_i96 = true := by decide +kernel
def nd_s96 : List nm_S := [(83, 97, false, 971), (87, 98, false, 975), (90, 31, false, 979), (95, 99, false, 980), (99, 100, false, 984), (105, 102, false, 993)]
theorem nd_s96_ok : nd_s96.all (nm_schk nd_ct nd_ml "PaperParcels$Script") = true := by decide +kernel
theorem nd_ok96 : am_ok nm_Ts nm_Tn nd_cl nd_mt nd_fr nd_lo 96 (am_in nd_i96) (am_fl nd_f8) (am_ct nd_k8) (am_sl nd_ml nd_s96) := nm_ok (x := 96) (ini := false) rfl (by decide +kernel) nd_cok nd_i96_ok (by decide) nd_f8_ok nd_k8_ok nd_s96_ok (by decide +kernel)
-- PaperParcels$Script.costTakingOut(II)I
def nd_i97 : List (Nat × Instr × Nat) := [(0, .aload_n 0, 1), (1, .getfield 14, 3), (4, .getfield 108, 3), (7, .iload_n 1, 1), (8, .iaload, 1), (9, .aload_n 0, 1), (10, .getfield 45, 3), (13, .aload_n 0, 1), (14, .getfield 14, 3), (17, .getfield 111, 3), (20, .iload_n 1, 1), (21, .iaload, 1), (22, .aaload, 1), (23, .iload_n 2, 1), (24, .iaload, 1), (25, .iadd, 1), (26, .ireturn, 1)]
theorem nd_i97_ok : am_ic prog_10_method_5_code nd_i97 = true := by decide +kernel
def nd_s97 : List nm_S := []
theorem nd_s97_ok : nd_s97.all (nm_schk nd_ct nd_ml "PaperParcels$Script") = true := by decide +kernel
theorem nd_ok97 : am_ok nm_Ts nm_Tn nd_cl nd_mt nd_fr nd_lo 97 (am_in nd_i97) (am_fl nd_f8) (am_ct nd_k8) (am_sl nd_ml nd_s97) := nm_ok (x := 97) (ini := false) rfl (by decide +kernel) nd_cok nd_i97_ok (by decide) nd_f8_ok nd_k8_ok nd_s97_ok (by decide +kernel)
-- PaperParcels$Script.costPuttingIn(II)I
def nd_i98 : List (Nat × Instr × Nat) := [(0, .aload_n 0, 1), (1, .getfield 20, 3), (4, .getfield 108, 3), (7, .iload_n 2, 1), (8, .iaload, 1), (9, .aload_n 0, 1), (10, .getfield 45, 3), (13, .iload_n 1, 1), (14, .aaload, 1), (15, .aload_n 0, 1), (16, .getfield 20, 3), (19, .getfield 111, 3), (22, .iload_n 2, 1), (23, .iaload, 1), (24, .iaload, 1), (25, .iadd, 1), (26, .ireturn, 1)]
theorem nd_i98_ok : am_ic prog_10_method_6_code nd_i98 = true := by decide +kernel
def nd_s98 : List nm_S := []
theorem nd_s98_ok : nd_s98.all (nm_schk nd_ct nd_ml "PaperParcels$Script") = true := by decide +kernel
theorem nd_ok98 : am_ok nm_Ts nm_Tn nd_cl nd_mt nd_fr nd_lo 98 (am_in nd_i98) (am_fl nd_f8) (am_ct nd_k8) (am_sl nd_ml nd_s98) := nm_ok (x := 98) (ini := false) rfl (by decide +kernel) nd_cok nd_i98_ok (by decide) nd_f8_ok nd_k8_ok nd_s98_ok (by decide +kernel)
-- PaperParcels$Script.sameKind(II)Z
def nd_i99 : List (Nat × Instr × Nat) := [(0, .aload_n 0, 1), (1, .getfield 14, 3), (4, .getfield 74, 3), (7, .getfield 114, 3), (10, .iload_n 1, 1), (11, .iaload, 1), (12, .aload_n 0, 1), (13, .getfield 20, 3), (16, .getfield 74, 3), (19, .getfield 114, 3), (22, .iload_n 2, 1), (23, .iaload, 1), (24, .if_icmp .ne 7, 3), (27, .iconst 1, 1), (28, .goto 4, 3), (31, .iconst 0, 1), (32, .ireturn, 1)]
theorem nd_i99_ok : am_ic prog_10_method_8_code nd_i99 = true := by decide +kernel
def nd_s99 : List nm_S := []
theorem nd_s99_ok : nd_s99.all (nm_schk nd_ct nd_ml "PaperParcels$Script") = true := by decide +kernel
theorem nd_ok99 : am_ok nm_Ts nm_Tn nd_cl nd_mt nd_fr nd_lo 99 (am_in nd_i99) (am_fl nd_f8) (am_ct nd_k8) (am_sl nd_ml nd_s99) := nm_ok (x := 99) (ini := false) rfl (by decide +kernel) nd_cok nd_i99_ok (by decide) nd_f8_ok nd_k8_ok nd_s99_ok (by decide +kernel)
-- PaperParcels$Script.costOfChange(II)I
def nd_i100 : List (Nat × Instr × Nat) := [(0, .aload_n 0, 1), (1, .iload_n 1, 1), (2, .iload_n 2, 1), (3, .invokevirtual 117, 3), (6, .ifCond .ne 5, 3), (9, .iconst 2, 1), (10, .ireturn, 1), (11, .aload_n 0, 1), (12, .getfield 14, 3), (15, .getfield 74, 3), (18, .getfield 120, 3), (21, .iload_n 1, 1), (22, .iaload, 1), (23, .aload_n 0, 1), (24, .getfield 20, 3), (27, .getfield 74, 3), (30, .getfield 120, 3), (33, .iload_n 2, 1), (34, .iaload, 1), (35, .if_icmp .ne 7, 3), (38, .iconst 0, 1), (39, .goto 4, 3), (42, .iconst 1, 1), (43, .ireturn, 1)]
theorem nd_i100_ok : am_ic prog_10_method_9_code nd_i100 = true := by decide +kernel
def nd_s100 : List nm_S := [(117, 101, false, 988)]
theorem nd_s100_ok : nd_s100.all (nm_schk nd_ct nd_ml "PaperParcels$Script") = true := by decide +kernel
theorem nd_ok100 : am_ok nm_Ts nm_Tn nd_cl nd_mt nd_fr nd_lo 100 (am_in nd_i100) (am_fl nd_f8) (am_ct nd_k8) (am_sl nd_ml nd_s100) := nm_ok (x := 100) (ini := false) rfl (by decide +kernel) nd_cok nd_i100_ok (by decide) nd_f8_ok nd_k8_ok nd_s100_ok (by decide +kernel)
-- PaperParcels$Script.sameSigns(II)Z
def nd_i101 : List (Nat × Instr × Nat) := [(0, .aload_n 0, 1), (1, .getfield 14, 3), (4, .getfield 74, 3), (7, .getfield 123, 3), (10, .iload_n 1, 1), (11, .iaload, 1), (12, .istore_n 3, 1), (13, .iload_n 3, 1), (14, .aload_n 0, 1), (15, .getfield 20, 3), (18, .getfield 74, 3), (21, .getfield 123, 3), (24, .iload_n 2, 1), (25, .iaload, 1), (26, .if_icmp .eq 5, 3), (29, .iconst 0, 1), (30, .ireturn, 1), (31, .iconst 0, 1), (32, .istore 4, 2), (34, .iload 4, 2), (36, .iload_n 3, 1), (37, .if_icmp .ge 40, 3), (40, .aload_n 0, 1), (41, .getfield 14, 3), (44, .getfield 74, 3), (47, .iload_n 1, 1), (48, .iload 4, 2), (50, .invokevirtual 126, 3), (53, .aload_n 0, 1), (54, .getfield 20, 3), (57, .getfield 74, 3), (60, .iload_n 2, 1), (61, .iload 4, 2), (63, .invokevirtual 126, 3), (66, .if_icmp .eq 5, 3), (69, .iconst 0, 1), (70, .ireturn, 1), (71, .iinc 4 1, 3), (74, .goto (-40), 3), (77, .iconst 1, 1), (78, .ireturn, 1)]
theorem nd_i101_ok : am_ic prog_10_method_10_code nd_i101 = true := by decide +kernel
def nd_s101 : List nm_S := [(126, 91, false, 992)]
theorem nd_s101_ok : nd_s101.all (nm_schk nd_ct nd_ml "PaperParcels$Script") = true := by decide +kernel
theorem nd_ok101 : am_ok nm_Ts nm_Tn nd_cl nd_mt nd_fr nd_lo 101 (am_in nd_i101) (am_fl nd_f8) (am_ct nd_k8) (am_sl nd_ml nd_s101) := nm_ok (x := 101) (ini := false) rfl (by decide +kernel) nd_cok nd_i101_ok (by decide) nd_f8_ok nd_k8_ok nd_s101_ok (by decide +kernel)
-- PaperParcels$Script.costTogether(II)I
def nd_i102 : List (Nat × Instr × Nat) := [(0, .aload_n 0, 1), (1, .getfield 42, 3), (4, .iload_n 1, 1), (5, .aaload, 1), (6, .iload_n 2, 1), (7, .iaload, 1), (8, .aload_n 0, 1), (9, .getfield 45, 3), (12, .aload_n 0, 1), (13, .getfield 14, 3), (16, .getfield 111, 3), (19, .iload_n 1, 1), (20, .iaload, 1), (21, .aaload, 1), (22, .aload_n 0, 1), (23, .getfield 20, 3), (26, .getfield 111, 3), (29, .iload_n 2, 1), (30, .iaload, 1), (31, .iaload, 1), (32, .iadd, 1), (33, .ireturn, 1)]
theorem nd_i102_ok : am_ic prog_10_method_7_code nd_i102 = true := by decide +kernel
def nd_s102 : List nm_S := []
theorem nd_s102_ok : nd_s102.all (nm_schk nd_ct nd_ml "PaperParcels$Script") = true := by decide +kernel
theorem nd_ok102 : am_ok nm_Ts nm_Tn nd_cl nd_mt nd_fr nd_lo 102 (am_in nd_i102) (am_fl nd_f8) (am_ct nd_k8) (am_sl nd_ml nd_s102) := nm_ok (x := 102) (ini := false) rfl (by decide +kernel) nd_cok nd_i102_ok (by decide) nd_f8_ok nd_k8_ok nd_s102_ok (by decide +kernel)
-- PaperParcels$Script.addSteps()V
def nd_i103 : List (Nat × Instr × Nat) := [(0, .iconst 0, 1), (1, .istore_n 1, 1), (2, .iconst 0, 1), (3, .istore_n 2, 1), (4, .aload_n 0, 1), (5, .iload_n 1, 1), (6, .iload_n 2, 1), (7, .invokevirtual 129, 3), (10, .aload_n 0, 1), (11, .getfield 14, 3), (14, .getfield 102, 3), (17, .iload_n 1, 1), (18, .iaload, 1), (19, .istore_n 3, 1), (20, .aload_n 0, 1), (21, .getfield 20, 3), (24, .getfield 102, 3), (27, .iload_n 2, 1), (28, .iaload, 1), (29, .istore 4, 2), (31, .iconst 0, 1), (32, .istore 5, 2), (34, .iload 5, 2), (36, .sipush 160, 3), (39, .if_icmp .ge 193, 3), (42, .iload_n 3, 1), (43, .bipush 40, 2), (45, .if_icmp .ne 69, 3), (48, .iload 4, 2), (50, .bipush 40, 2), (52, .if_icmp .ne 62, 3), (55, .iload_n 1, 1), (56, .ifCond .eq 7, 3), (59, .iload_n 2, 1), (60, .ifCond .ne 4, 3), (63, .return_, 1), (64, .aload_n 0, 1), (65, .getfield 14, 3), (68, .getfield 111, 3), (71, .iload_n 1, 1), (72, .iaload, 1), (73, .istore_n 3, 1), (74, .aload_n 0, 1), (75, .getfield 20, 3), (78, .getfield 111, 3), (81, .iload_n 2, 1), (82, .iaload, 1), (83, .istore 4, 2), (85, .aload_n 0, 1), (86, .getfield 14, 3), (89, .getfield 74, 3), (92, .getfield 133, 3), (95, .iload_n 1, 1), (96, .iaload, 1), (97, .istore_n 1, 1), (98, .aload_n 0, 1), (99, .getfield 20, 3), (102, .getfield 74, 3), (105, .getfield 133, 3), (108, .iload_n 2, 1), (109, .iaload, 1), (110, .istore_n 2, 1), (111, .goto 115, 3), (114, .aload_n 0, 1), (115, .iload_n 3, 1), (116, .iload 4, 2), (118, .invokevirtual 136, 3), (121, .ifCond .eq 38, 3), (124, .iload_n 3, 1), (125, .istore_n 1, 1), (126, .iload 4, 2), (128, .istore_n 2, 1), (129, .aload_n 0, 1), (130, .iload_n 1, 1), (131, .iload_n 2, 1), (132, .invokevirtual 129, 3), (135, .aload_n 0, 1), (136, .getfield 14, 3), (139, .getfield 102, 3), (142, .iload_n 1, 1), (143, .iaload, 1), (144, .istore_n 3, 1), (145, .aload_n 0, 1), (146, .getfield 20, 3), (149, .getfield 102, 3), (152, .iload_n 2, 1), (153, .iaload, 1), (154, .istore 4, 2), (156, .goto 70, 3), (159, .iload_n 3, 1), (160, .bipush 40, 2), (162, .if_icmp .eq 43, 3), (165, .aload_n 0, 1), (166, .getfield 45, 3), (169, .iload_n 3, 1), (170, .aaload, 1), (171, .iload 4, 2), (173, .iaload, 1), (174, .aload_n 0, 1), (175, .iload_n 3, 1), (176, .iload 4, 2), (178, .invokevirtual 83, 3), (181, .if_icmp .ne 24, 3), (184, .aload_n 0, 1), (185, .iload_n 3, 1), (186, .iconst (-1), 1), (187, .iconst (-1), 1), (188, .iconst (-1), 1), (189, .invokevirtual 139, 3), (192, .aload_n 0, 1), (193, .getfield 14, 3), (196, .getfield 111, 3), (199, .iload_n 3, 1), (200, .iaload, 1), (201, .istore_n 3, 1), (202, .goto 24, 3), (205, .aload_n 0, 1), (206, .iconst (-1), 1), (207, .iload 4, 2), (209, .iload_n 1, 1), (210, .iload_n 3, 1), (211, .invokevirtual 139, 3), (214, .aload_n 0, 1), (215, .getfield 20, 3), (218, .getfield 111, 3), (221, .iload 4, 2), (223, .iaload, 1), (224, .istore 4, 2), (226, .iinc 5 1, 3), (229, .goto (-195), 3), (232, .return_, 1)]
theorem nd_i103_ok : am_ic prog_10_method_11_code nd_i103 = true := by decide +kernel
def nd_s103 : List nm_S := [(129, 104, false, 1002), (136, 106, false, 1010), (83, 97, false, 971), (139, 105, false, 1006)]
theorem nd_s103_ok : nd_s103.all (nm_schk nd_ct nd_ml "PaperParcels$Script") = true := by decide +kernel
theorem nd_ok103 : am_ok nm_Ts nm_Tn nd_cl nd_mt nd_fr nd_lo 103 (am_in nd_i103) (am_fl nd_f8) (am_ct nd_k8) (am_sl nd_ml nd_s103) := nm_ok (x := 103) (ini := false) rfl (by decide +kernel) nd_cok nd_i103_ok (by decide) nd_f8_ok nd_k8_ok nd_s103_ok (by decide +kernel)
-- PaperParcels$Script.addChange(II)V
def nd_i104 : List (Nat × Instr × Nat) := [(0, .aload_n 0, 1), (1, .iload_n 1, 1), (2, .iload_n 2, 1), (3, .invokevirtual 99, 3), (6, .ifCond .eq 11, 3), (9, .aload_n 0, 1), (10, .iload_n 1, 1), (11, .iload_n 2, 1), (12, .iconst (-1), 1), (13, .iconst (-1), 1), (14, .invokevirtual 139, 3), (17, .return_, 1)]
theorem nd_i104_ok : am_ic prog_10_method_12_code nd_i104 = true := by decide +kernel
def nd_s104 : List nm_S := [(99, 100, false, 984), (139, 105, false, 1006)]
theorem nd_s104_ok : nd_s104.all (nm_schk nd_ct nd_ml "PaperParcels$Script") = true := by decide +kernel
theorem nd_ok104 : am_ok nm_Ts nm_Tn nd_cl nd_mt nd_fr nd_lo 104 (am_in nd_i104) (am_fl nd_f8) (am_ct nd_k8) (am_sl nd_ml nd_s104) := nm_ok (x := 104) (ini := false) rfl (by decide +kernel) nd_cok nd_i104_ok (by decide) nd_f8_ok nd_k8_ok nd_s104_ok (by decide +kernel)
-- PaperParcels$Script.addStep(IIII)V
def nd_i105 : List (Nat × Instr × Nat) := [(0, .aload_n 0, 1), (1, .getfield 58, 3), (4, .bipush 80, 2), (6, .if_icmp .ge 54, 3), (9, .aload_n 0, 1), (10, .getfield 27, 3), (13, .aload_n 0, 1), (14, .getfield 58, 3), (17, .iload_n 1, 1), (18, .iastore, 1), (19, .aload_n 0, 1), (20, .getfield 31, 3), (23, .aload_n 0, 1), (24, .getfield 58, 3), (27, .iload_n 2, 1), (28, .iastore, 1), (29, .aload_n 0, 1), (30, .getfield 34, 3), (33, .aload_n 0, 1), (34, .getfield 58, 3), (37, .iload_n 3, 1), (38, .iastore, 1), (39, .aload_n 0, 1), (40, .getfield 37, 3), (43, .aload_n 0, 1), (44, .getfield 58, 3), (47, .iload 4, 2), (49, .iastore, 1), (50, .aload_n 0, 1), (51, .dup, 1), (52, .getfield 58, 3), (55, .iconst 1, 1), (56, .iadd, 1), (57, .putfield 58, 3), (60, .return_, 1)]
theorem nd_i105_ok : am_ic prog_10_method_14_code nd_i105 = true := by decide +kernel
def nd_s105 : List nm_S := []
theorem nd_s105_ok : nd_s105.all (nm_schk nd_ct nd_ml "PaperParcels$Script") = true := by decide +kernel
theorem nd_ok105 : am_ok nm_Ts nm_Tn nd_cl nd_mt nd_fr nd_lo 105 (am_in nd_i105) (am_fl nd_f8) (am_ct nd_k8) (am_sl nd_ml nd_s105) := nm_ok (x := 105) (ini := false) rfl (by decide +kernel) nd_cok nd_i105_ok (by decide) nd_f8_ok nd_k8_ok nd_s105_ok (by decide +kernel)
-- PaperParcels$Script.isLeastTogether(II)Z
def nd_i106 : List (Nat × Instr × Nat) := [(0, .iload_n 1, 1), (1, .bipush 40, 2), (3, .if_icmp .eq 39, 3), (6, .iload_n 2, 1), (7, .bipush 40, 2), (9, .if_icmp .eq 33, 3), (12, .aload_n 0, 1), (13, .iload_n 1, 1), (14, .iload_n 2, 1), (15, .invokevirtual 95, 3), (18, .ifCond .eq 24, 3), (21, .aload_n 0, 1), (22, .getfield 45, 3), (25, .iload_n 1, 1), (26, .aaload, 1), (27, .iload_n 2, 1), (28, .iaload, 1), (29, .aload_n 0, 1), (30, .iload_n 1, 1), (31, .iload_n 2, 1), (32, .invokevirtual 105, 3), (35, .if_icmp .ne 7, 3), (38, .iconst 1, 1), (39, .goto 4, 3), (42, .iconst 0, 1), (43, .ireturn, 1)]
theorem nd_i106_ok : am_ic prog_10_method_13_code nd_i106 = true := by decide +kernel
def nd_s106 : List nm_S := [(95, 99, false, 980), (105, 102, false, 993)]
theorem nd_s106_ok : nd_s106.all (nm_schk nd_ct nd_ml "PaperParcels$Script") = true := by decide +kernel
theorem nd_ok106 : am_ok nm_Ts nm_Tn nd_cl nd_mt nd_fr nd_lo 106 (am_in nd_i106) (am_fl nd_f8) (am_ct nd_k8) (am_sl nd_ml nd_s106) := nm_ok (x := 106) (ini := false) rfl (by decide +kernel) nd_cok nd_i106_ok (by decide) nd_f8_ok nd_k8_ok nd_s106_ok (by decide +kernel)
-- PaperParcels$Script.carryOut(I)V
def nd_i109 : List (Nat × Instr × Nat) := [(0, .aload_n 0, 1), (1, .iload_n 1, 1), (2, .putfield 143, 3), (5, .aload_n 0, 1), (6, .getfield 48, 3), (9, .iconst (-1), 1), (10, .invokestatic 146, 3), (13, .iconst 0, 1), (14, .istore_n 2, 1), (15, .iload_n 2, 1), (16, .aload_n 0, 1), (17, .getfield 143, 3), (20, .if_icmp .ge 51, 3), (23, .aload_n 0, 1), (24, .getfield 27, 3), (27, .iload_n 2, 1), (28, .iaload, 1), (29, .iconst (-1), 1), (30, .if_icmp .eq 35, 3), (33, .aload_n 0, 1), (34, .getfield 48, 3), (37, .aload_n 0, 1), (38, .getfield 27, 3), (41, .iload_n 2, 1), (42, .iaload, 1), (43, .aload_n 0, 1), (44, .getfield 31, 3), (47, .iload_n 2, 1), (48, .iaload, 1), (49, .iconst (-1), 1), (50, .if_icmp .ne 8, 3), (53, .bipush (-2), 2), (55, .goto 9, 3), (58, .aload_n 0, 1), (59, .getfield 31, 3), (62, .iload_n 2, 1), (63, .iaload, 1), (64, .iastore, 1), (65, .iinc 2 1, 3), (68, .goto (-53), 3), (71, .aload_n 0, 1), (72, .getfield 23, 3), (75, .invokevirtual 152, 3), (78, .aload_n 0, 1), (79, .invokevirtual 155, 3), (82, .return_, 1)]
theorem nd_i109_ok : am_ic prog_10_method_15_code nd_i109 = true := by decide +kernel
def nd_s109 : List nm_S := [(146, 41, false, 1032), (152, 71, false, 1033), (155, 110, false, 1034)]
theorem nd_s109_ok : nd_s109.all (nm_schk nd_ct nd_ml "PaperParcels$Script") = true := by decide +kernel
theorem nd_ok109 : am_ok nm_Ts nm_Tn nd_cl nd_mt nd_fr nd_lo 109 (am_in nd_i109) (am_fl nd_f8) (am_ct nd_k8) (am_sl nd_ml nd_s109) := nm_ok (x := 109) (ini := false) rfl (by decide +kernel) nd_cok nd_i109_ok (by decide) nd_f8_ok nd_k8_ok nd_s109_ok (by decide +kernel)
-- PaperParcels$Script.copyRows()V
def nd_i110 : List (Nat × Instr × Nat) := [(0, .iconst (-1), 1), (1, .istore_n 1, 1), (2, .iconst 0, 1), (3, .istore_n 2, 1), (4, .iload_n 2, 1), (5, .aload_n 0, 1), (6, .getfield 14, 3), (9, .getfield 74, 3), (12, .getfield 77, 3), (15, .if_icmp .ge 96, 3), (18, .aload_n 0, 1), (19, .getfield 14, 3), (22, .getfield 74, 3), (25, .getfield 133, 3), (28, .iload_n 2, 1), (29, .iaload, 1), (30, .istore_n 3, 1), (31, .iload_n 3, 1), (32, .iconst (-1), 1), (33, .if_icmp .eq 25, 3), (36, .aload_n 0, 1), (37, .getfield 48, 3), (40, .iload_n 3, 1), (41, .iaload, 1), (42, .bipush (-2), 2), (44, .if_icmp .ne 14, 3), (47, .aload_n 0, 1), (48, .getfield 48, 3), (51, .iload_n 2, 1), (52, .bipush (-2), 2), (54, .iastore, 1), (55, .goto 50, 3), (58, .aload_n 0, 1), (59, .iload_n 1, 1), (60, .iload_n 3, 1), (61, .invokevirtual 158, 3), (64, .aload_n 0, 1), (65, .iload_n 3, 1), (66, .iload_n 2, 1), (67, .invokevirtual 161, 3), (70, .iload_n 3, 1), (71, .istore_n 1, 1), (72, .aload_n 0, 1), (73, .getfield 48, 3), (76, .iload_n 2, 1), (77, .iaload, 1), (78, .bipush (-2), 2), (80, .if_icmp .eq 25, 3), (83, .aload_n 0, 1), (84, .iload_n 2, 1), (85, .iload_n 3, 1), (86, .iconst (-1), 1), (87, .if_icmp .ne 7, 3), (90, .iconst (-1), 1), (91, .goto 9, 3), (94, .aload_n 0, 1), (95, .getfield 51, 3), (98, .iload_n 3, 1), (99, .iaload, 1), (100, .invokevirtual 164, 3), (103, .iload_n 2, 1), (104, .istore_n 1, 1), (105, .iinc 2 1, 3), (108, .goto (-104), 3), (111, .aload_n 0, 1), (112, .iload_n 1, 1), (113, .iconst (-1), 1), (114, .invokevirtual 158, 3), (117, .return_, 1)]
theorem nd_i110_ok : am_ic prog_10_method_16_code nd_i110 = true := by decide +kernel
def nd_s110 : List nm_S := [(158, 111, false, 1038), (161, 112, false, 1042), (164, 114, false, 1051)]
theorem nd_s110_ok : nd_s110.all (nm_schk nd_ct nd_ml "PaperParcels$Script") = true := by decide +kernel
theorem nd_ok110 : am_ok nm_Ts nm_Tn nd_cl nd_mt nd_fr nd_lo 110 (am_in nd_i110) (am_fl nd_f8) (am_ct nd_k8) (am_sl nd_ml nd_s110) := nm_ok (x := 110) (ini := false) rfl (by decide +kernel) nd_cok nd_i110_ok (by decide) nd_f8_ok nd_k8_ok nd_s110_ok (by decide +kernel)
-- PaperParcels$Script.endRows(II)V
def nd_i111 : List (Nat × Instr × Nat) := [(0, .iload_n 1, 1), (1, .istore_n 3, 1), (2, .iconst 0, 1), (3, .istore 4, 2), (5, .iload 4, 2), (7, .bipush 40, 2), (9, .if_icmp .ge 39, 3), (12, .iload_n 3, 1), (13, .iload_n 2, 1), (14, .if_icmp .eq 34, 3), (17, .iload_n 3, 1), (18, .iconst (-1), 1), (19, .if_icmp .eq 29, 3), (22, .aload_n 0, 1), (23, .iload_n 3, 1), (24, .bipush 40, 2), (26, .invokevirtual 161, 3), (29, .aload_n 0, 1), (30, .getfield 14, 3), (33, .getfield 74, 3), (36, .getfield 133, 3), (39, .iload_n 3, 1), (40, .iaload, 1), (41, .istore_n 3, 1), (42, .iinc 4 1, 3), (45, .goto (-40), 3), (48, .return_, 1)]
theorem nd_i111_ok : am_ic prog_10_method_18_code nd_i111 = true := by decide +kernel
def nd_s111 : List nm_S := [(161, 112, false, 1042)]
theorem nd_s111_ok : nd_s111.all (nm_schk nd_ct nd_ml "PaperParcels$Script") = true := by decide +kernel
theorem nd_ok111 : am_ok nm_Ts nm_Tn nd_cl nd_mt nd_fr nd_lo 111 (am_in nd_i111) (am_fl nd_f8) (am_ct nd_k8) (am_sl nd_ml nd_s111) := nm_ok (x := 111) (ini := false) rfl (by decide +kernel) nd_cok nd_i111_ok (by decide) nd_f8_ok nd_k8_ok nd_s111_ok (by decide +kernel)
-- PaperParcels$Script.putIn(II)V
def nd_i112 : List (Nat × Instr × Nat) := [(0, .iconst 0, 1), (1, .istore_n 3, 1), (2, .iload_n 3, 1), (3, .aload_n 0, 1), (4, .getfield 143, 3), (7, .if_icmp .ge 50, 3), (10, .iload_n 1, 1), (11, .iconst (-1), 1), (12, .if_icmp .eq 45, 3), (15, .aload_n 0, 1), (16, .getfield 34, 3), (19, .iload_n 3, 1), (20, .iaload, 1), (21, .iload_n 1, 1), (22, .if_icmp .ne 29, 3), (25, .aload_n 0, 1), (26, .getfield 37, 3), (29, .iload_n 3, 1), (30, .iaload, 1), (31, .iload_n 2, 1), (32, .if_icmp .ne 19, 3), (35, .aload_n 0, 1), (36, .aload_n 0, 1), (37, .getfield 31, 3), (40, .iload_n 3, 1), (41, .iaload, 1), (42, .aload_n 0, 1), (43, .getfield 51, 3), (46, .iload_n 1, 1), (47, .iaload, 1), (48, .invokevirtual 171, 3), (51, .iinc 3 1, 3), (54, .goto (-52), 3), (57, .return_, 1)]
theorem nd_i112_ok : am_ic prog_10_method_19_code nd_i112 = true := by decide +kernel
def nd_s112 : List nm_S := [(171, 113, false, 1046)]
theorem nd_s112_ok : nd_s112.all (nm_schk nd_ct nd_ml "PaperParcels$Script") = true := by decide +kernel
theorem nd_ok112 : am_ok nm_Ts nm_Tn nd_cl nd_mt nd_fr nd_lo 112 (am_in nd_i112) (am_fl nd_f8) (am_ct nd_k8) (am_sl nd_ml nd_s112) := nm_ok (x := 112) (ini := false) rfl (by decide +kernel) nd_cok nd_i112_ok (by decide) nd_f8_ok nd_k8_ok nd_s112_ok (by decide +kernel)
-- PaperParcels$Script.copyFresh(II)V
def nd_i113 : List (Nat × Instr × Nat) := [(0, .aload_n 0, 1), (1, .getfield 23, 3), (4, .getfield 77, 3), (7, .iload_n 1, 1), (8, .isub, 1), (9, .istore_n 3, 1), (10, .aload_n 0, 1), (11, .getfield 23, 3), (14, .aload_n 0, 1), (15, .getfield 20, 3), (18, .getfield 74, 3), (21, .iload_n 1, 1), (22, .iload_n 2, 1), (23, .invokevirtual 167, 3), (26, .iload_n 1, 1), (27, .iconst 1, 1), (28, .iadd, 1), (29, .istore 4, 2), (31, .iload 4, 2), (33, .aload_n 0, 1), (34, .getfield 20, 3), (37, .getfield 74, 3), (40, .getfield 77, 3), (43, .if_icmp .ge 57, 3), (46, .aload_n 0, 1), (47, .getfield 20, 3), (50, .getfield 74, 3), (53, .getfield 133, 3), (56, .iload 4, 2), (58, .iaload, 1), (59, .iload_n 1, 1), (60, .if_icmp .lt 40, 3), (63, .aload_n 0, 1), (64, .getfield 23, 3), (67, .aload_n 0, 1), (68, .getfield 20, 3), (71, .getfield 74, 3), (74, .iload 4, 2), (76, .aload_n 0, 1), (77, .getfield 20, 3), (80, .getfield 74, 3), (83, .getfield 133, 3), (86, .iload 4, 2), (88, .iaload, 1), (89, .iload_n 3, 1), (90, .iadd, 1), (91, .invokevirtual 167, 3), (94, .iinc 4 1, 3), (97, .goto (-66), 3), (100, .return_, 1)]
theorem nd_i113_ok : am_ic prog_10_method_20_code nd_i113 = true := by decide +kernel
def nd_s113 : List nm_S := [(167, 80, false, 1050)]
theorem nd_s113_ok : nd_s113.all (nm_schk nd_ct nd_ml "PaperParcels$Script") = true := by decide +kernel
theorem nd_ok113 : am_ok nm_Ts nm_Tn nd_cl nd_mt nd_fr nd_lo 113 (am_in nd_i113) (am_fl nd_f8) (am_ct nd_k8) (am_sl nd_ml nd_s113) := nm_ok (x := 113) (ini := false) rfl (by decide +kernel) nd_cok nd_i113_ok (by decide) nd_f8_ok nd_k8_ok nd_s113_ok (by decide +kernel)
-- PaperParcels$Script.copyOld(II)V
def nd_i114 : List (Nat × Instr × Nat) := [(0, .aload_n 0, 1), (1, .getfield 51, 3), (4, .iload_n 1, 1), (5, .aload_n 0, 1), (6, .getfield 23, 3), (9, .getfield 77, 3), (12, .iastore, 1), (13, .aload_n 0, 1), (14, .getfield 48, 3), (17, .iload_n 1, 1), (18, .iaload, 1), (19, .iconst (-1), 1), (20, .if_icmp .ne 22, 3), (23, .aload_n 0, 1), (24, .getfield 23, 3), (27, .aload_n 0, 1), (28, .getfield 14, 3), (31, .getfield 74, 3), (34, .iload_n 1, 1), (35, .iload_n 2, 1), (36, .invokevirtual 167, 3), (39, .goto 24, 3), (42, .aload_n 0, 1), (43, .getfield 23, 3), (46, .aload_n 0, 1), (47, .getfield 20, 3), (50, .getfield 74, 3), (53, .aload_n 0, 1), (54, .getfield 48, 3), (57, .iload_n 1, 1), (58, .iaload, 1), (59, .iload_n 2, 1), (60, .invokevirtual 167, 3), (63, .return_, 1)]
theorem nd_i114_ok : am_ic prog_10_method_17_code nd_i114 = true := by decide +kernel
def nd_s114 : List nm_S := [(167, 80, false, 1050)]
theorem nd_s114_ok : nd_s114.all (nm_schk nd_ct nd_ml "PaperParcels$Script") = true := by decide +kernel
theorem nd_ok114 : am_ok nm_Ts nm_Tn nd_cl nd_mt nd_fr nd_lo 114 (am_in nd_i114) (am_fl nd_f8) (am_ct nd_k8) (am_sl nd_ml nd_s114) := nm_ok (x := 114) (ini := false) rfl (by decide +kernel) nd_cok nd_i114_ok (by decide) nd_f8_ok nd_k8_ok nd_s114_ok (by decide +kernel)
end
section
-- PaperParcels$Emitter.compose(LPaperParcels$Paper;I)Z
def nd_i116 : List (Nat × Instr × Nat) := [(0, .aload_n 0, 1), (1, .aload_n 1, 1), (2, .invokevirtual 33, 3), (5, .ifCond .ne 5, 3), (8, .iconst 0, 1), (9, .ireturn, 1), (10, .aload_n 0, 1), (11, .invokevirtual 37, 3), (14, .aload_n 0, 1), (15, .aload_n 1, 1), (16, .invokevirtual 40, 3), (19, .aload_n 0, 1), (20, .getfield 20, 3), (23, .getfield 44, 3), (26, .ifCond .ne 13, 3), (29, .aload_n 0, 1), (30, .getfield 23, 3), (33, .getfield 44, 3), (36, .ifCond .eq 5, 3), (39, .iconst 0, 1), (40, .ireturn, 1), (41, .aload_n 0, 1), (42, .getfield 14, 3), (45, .invokevirtual 48, 3), (48, .aload_n 0, 1), (49, .bipush 83, 2), (51, .aload_n 0, 1), (52, .getfield 20, 3), (55, .iload_n 2, 1), (56, .invokevirtual 51, 3), (59, .aload_n 0, 1), (60, .bipush 67, 2), (62, .aload_n 0, 1), (63, .getfield 23, 3), (66, .iload_n 2, 1), (67, .invokevirtual 51, 3), (70, .aload_n 0, 1), (71, .getfield 14, 3), (74, .getfield 44, 3), (77, .ifCond .ne 7, 3), (80, .iconst 1, 1), (81, .goto 4, 3), (84, .iconst 0, 1), (85, .ireturn, 1)]
theorem nd_i116_ok : am_ic prog_4_method_2_code nd_i116 = true := by decide +kernel
def nd_s116 : List nm_S := [(33, 117, false, 1067), (37, 120, false, 1078), (40, 134, false, 1150), (48, 15, false, 1082), (51, 140, false, 1179)]
theorem nd_s116_ok : nd_s116.all (nm_schk nd_ct nd_ml "PaperParcels$Emitter") = true := by decide +kernel
theorem nd_ok116 : am_ok nm_Ts nm_Tn nd_cl nd_mt nd_fr nd_lo 116 (am_in nd_i116) (am_fl nd_f10) (am_ct nd_k10) (am_sl nd_ml nd_s116) := nm_ok (x := 116) (ini := false) rfl (by decide +kernel) nd_cok nd_i116_ok (by decide) nd_f10_ok nd_k10_ok nd_s116_ok (by decide +kernel)
-- PaperParcels$Emitter.gatherLooks(LPaperParcels$Paper;)Z
def nd_i117 : List (Nat × Instr × Nat) := [(0, .aload_n 0, 1), (1, .iconst 0, 1), (2, .putfield 55, 3), (5, .iconst 0, 1), (6, .istore_n 2, 1), (7, .iload_n 2, 1), (8, .aload_n 1, 1), (9, .getfield 59, 3), (12, .if_icmp .ge 67, 3), (15, .aload_n 1, 1), (16, .iload_n 2, 1), (17, .invokestatic 64, 3), (20, .ifCond .eq 53, 3), (23, .aload_n 0, 1), (24, .aload_n 1, 1), (25, .getfield 68, 3), (28, .iload_n 2, 1), (29, .iaload, 1), (30, .invokevirtual 71, 3), (33, .iconst (-1), 1), (34, .if_icmp .ne 39, 3), (37, .aload_n 0, 1), (38, .getfield 55, 3), (41, .bipush 26, 2), (43, .if_icmp .ne 5, 3), (46, .iconst 0, 1), (47, .ireturn, 1), (48, .aload_n 0, 1), (49, .getfield 29, 3), (52, .aload_n 0, 1), (53, .getfield 55, 3), (56, .aload_n 1, 1), (57, .getfield 68, 3), (60, .iload_n 2, 1), (61, .iaload, 1), (62, .iastore, 1), (63, .aload_n 0, 1), (64, .dup, 1), (65, .getfield 55, 3), (68, .iconst 1, 1), (69, .iadd, 1), (70, .putfield 55, 3), (73, .iinc 2 1, 3), (76, .goto (-69), 3), (79, .iconst 1, 1), (80, .ireturn, 1)]
theorem nd_i117_ok : am_ic prog_4_method_3_code nd_i117 = true := by decide +kernel
def nd_s117 : List nm_S := [(64, 118, false, 1071), (71, 119, false, 1074)]
theorem nd_s117_ok : nd_s117.all (nm_schk nd_ct nd_ml "PaperParcels$Emitter") = true := by decide +kernel
theorem nd_ok117 : am_ok nm_Ts nm_Tn nd_cl nd_mt nd_fr nd_lo 117 (am_in nd_i117) (am_fl nd_f10) (am_ct nd_k10) (am_sl nd_ml nd_s117) := nm_ok (x := 117) (ini := false) rfl (by decide +kernel) nd_cok nd_i117_ok (by decide) nd_f10_ok nd_k10_ok nd_s117_ok (by decide +kernel)
-- PaperParcels$Emitter.needsLook(LPaperParcels$Paper;I)Z
def nd_i118 : List (Nat × Instr × Nat) := [(0, .aload_n 0, 1), (1, .getfield 75, 3), (4, .iload_n 1, 1), (5, .iaload, 1), (6, .istore_n 2, 1), (7, .aload_n 0, 1), (8, .getfield 78, 3), (11, .iload_n 1, 1), (12, .iaload, 1), (13, .iconst 2, 1), (14, .if_icmp .ne 29, 3), (17, .iload_n 2, 1), (18, .iconst (-1), 1), (19, .if_icmp .eq 24, 3), (22, .aload_n 0, 1), (23, .getfield 68, 3), (26, .iload_n 1, 1), (27, .iaload, 1), (28, .aload_n 0, 1), (29, .getfield 68, 3), (32, .iload_n 2, 1), (33, .iaload, 1), (34, .if_icmp .eq 7, 3), (37, .iconst 1, 1), (38, .goto 4, 3), (41, .iconst 0, 1), (42, .ireturn, 1), (43, .aload_n 0, 1), (44, .getfield 78, 3), (47, .iload_n 1, 1), (48, .iaload, 1), (49, .iconst 1, 1), (50, .if_icmp .ne 18, 3), (53, .aload_n 0, 1), (54, .getfield 68, 3), (57, .iload_n 1, 1), (58, .iaload, 1), (59, .bipush 100, 2), (61, .if_icmp .eq 7, 3), (64, .iconst 1, 1), (65, .goto 4, 3), (68, .iconst 0, 1), (69, .ireturn, 1)]
theorem nd_i118_ok : am_ic prog_4_method_4_code nd_i118 = true := by decide +kernel
def nd_s118 : List nm_S := []
theorem nd_s118_ok : nd_s118.all (nm_schk nd_ct nd_ml "PaperParcels$Emitter") = true := by decide +kernel
theorem nd_ok118 : am_ok nm_Ts nm_Tn nd_cl nd_mt nd_fr nd_lo 118 (am_in nd_i118) (am_fl nd_f10) (am_ct nd_k10) (am_sl nd_ml nd_s118) := nm_ok (x := 118) (ini := false) rfl (by decide +kernel) nd_cok nd_i118_ok (by decide) nd_f10_ok nd_k10_ok nd_s118_ok (by decide +kernel)
-- PaperParcels$Emitter.styleFor(I)I
def nd_i119 : List (Nat × Instr × Nat) := [(0, .iconst 0, 1), (1, .istore_n 2, 1), (2, .iload_n 2, 1), (3, .aload_n 0, 1), (4, .getfield 55, 3), (7, .if_icmp .ge 21, 3), (10, .aload_n 0, 1), (11, .getfield 29, 3), (14, .iload_n 2, 1), (15, .iaload, 1), (16, .iload_n 1, 1), (17, .if_icmp .ne 5, 3), (20, .iload_n 2, 1), (21, .ireturn, 1), (22, .iinc 2 1, 3), (25, .goto (-23), 3), (28, .iconst (-1), 1), (29, .ireturn, 1)]
theorem nd_i119_ok : am_ic prog_4_method_5_code nd_i119 = true := by decide +kernel
def nd_s119 : List nm_S := []
theorem nd_s119_ok : nd_s119.all (nm_schk nd_ct nd_ml "PaperParcels$Emitter") = true := by decide +kernel
theorem nd_ok119 : am_ok nm_Ts nm_Tn nd_cl nd_mt nd_fr nd_lo 119 (am_in nd_i119) (am_fl nd_f10) (am_ct nd_k10) (am_sl nd_ml nd_s119) := nm_ok (x := 119) (ini := false) rfl (by decide +kernel) nd_cok nd_i119_ok (by decide) nd_f10_ok nd_k10_ok nd_s119_ok (by decide +kernel)
-- PaperParcels$Emitter.putSheet()V
def nd_i120 : List (Nat × Instr × Nat) := [(0, .aload_n 0, 1), (1, .getfield 20, 3), (4, .invokevirtual 48, 3), (7, .aload_n 0, 1), (8, .getfield 55, 3), (11, .ifCond .ne 13, 3), (14, .aload_n 0, 1), (15, .getfield 20, 3), (18, .ldc 81, 2), (20, .invokevirtual 83, 3), (23, .return_, 1), (24, .aload_n 0, 1), (25, .getfield 20, 3), (28, .ldc 87, 2), (30, .invokevirtual 83, 3), (33, .iconst 0, 1), (34, .istore_n 1, 1), (35, .iload_n 1, 1), (36, .aload_n 0, 1), (37, .getfield 55, 3), (40, .if_icmp .ge 14, 3), (43, .aload_n 0, 1), (44, .iload_n 1, 1), (45, .invokevirtual 89, 3), (48, .iinc 1 1, 3), (51, .goto (-16), 3), (54, .aload_n 0, 1), (55, .getfield 20, 3), (58, .ldc 92, 2), (60, .invokevirtual 83, 3), (63, .return_, 1)]
theorem nd_i120_ok : am_ic prog_4_method_6_code nd_i120 = true := by decide +kernel
def nd_s120 : List nm_S := [(48, 15, false, 1082), (83, 121, false, 1084), (89, 133, false, 1138)]
theorem nd_s120_ok : nd_s120.all (nm_schk nd_ct nd_ml "PaperParcels$Emitter") = true := by decide +kernel
theorem nd_ok120 : am_ok nm_Ts nm_Tn nd_cl nd_mt nd_fr nd_lo 120 (am_in nd_i120) (am_fl nd_f10) (am_ct nd_k10) (am_sl nd_ml nd_s120) := nm_ok (x := 120) (ini := false) rfl (by decide +kernel) nd_cok nd_i120_ok (by decide) nd_f10_ok nd_k10_ok nd_s120_ok (by decide +kernel)
-- PaperParcels$Emitter.putStyle(I)V
def nd_i133 : List (Nat × Instr × Nat) := [(0, .aload_n 0, 1), (1, .getfield 29, 3), (4, .iload_n 1, 1), (5, .iaload, 1), (6, .iconst 1, 1), (7, .invokestatic 94, 3), (10, .istore_n 2, 1), (11, .aload_n 0, 1), (12, .getfield 20, 3), (15, .ldc 98, 2), (17, .invokevirtual 83, 3), (20, .aload_n 0, 1), (21, .getfield 20, 3), (24, .bipush 65, 2), (26, .iload_n 1, 1), (27, .iadd, 1), (28, .invokevirtual 100, 3), (31, .aload_n 0, 1), (32, .getfield 20, 3), (35, .ldc 103, 2), (37, .invokevirtual 83, 3), (40, .aload_n 0, 1), (41, .getfield 20, 3), (44, .bipush 48, 2), (46, .aload_n 0, 1), (47, .getfield 29, 3), (50, .iload_n 1, 1), (51, .iaload, 1), (52, .iconst 0, 1), (53, .invokestatic 94, 3), (56, .iadd, 1), (57, .invokevirtual 100, 3), (60, .aload_n 0, 1), (61, .getfield 20, 3), (64, .ldc 105, 2), (66, .invokevirtual 83, 3), (69, .iload_n 2, 1), (70, .bipush 9, 2), (72, .if_icmp .le 17, 3), (75, .aload_n 0, 1), (76, .getfield 20, 3), (79, .bipush 48, 2), (81, .iload_n 2, 1), (82, .bipush 10, 2), (84, .idiv, 1), (85, .iadd, 1), (86, .invokevirtual 100, 3), (89, .aload_n 0, 1), (90, .getfield 20, 3), (93, .bipush 48, 2), (95, .iload_n 2, 1), (96, .bipush 10, 2), (98, .irem, 1), (99, .iadd, 1), (100, .invokevirtual 100, 3), (103, .aload_n 0, 1), (104, .getfield 20, 3), (107, .ldc 107, 2), (109, .invokevirtual 83, 3), (112, .aload_n 0, 1), (113, .getfield 20, 3), (116, .bipush 48, 2), (118, .aload_n 0, 1), (119, .getfield 29, 3), (122, .iload_n 1, 1), (123, .iaload, 1), (124, .iconst 2, 1), (125, .invokestatic 94, 3), (128, .iadd, 1), (129, .invokevirtual 100, 3), (132, .aload_n 0, 1), (133, .getfield 20, 3), (136, .ldc 109, 2), (138, .invokevirtual 83, 3), (141, .return_, 1)]
theorem nd_i133_ok : am_ic prog_4_method_7_code nd_i133 = true := by decide +kernel
def nd_s133 : List nm_S := [(94, 74, true, 1142), (83, 121, false, 1084), (100, 13, false, 1144)]
theorem nd_s133_ok : nd_s133.all (nm_schk nd_ct nd_ml "PaperParcels$Emitter") = true := by decide +kernel
theorem nd_ok133 : am_ok nm_Ts nm_Tn nd_cl nd_mt nd_fr nd_lo 133 (am_in nd_i133) (am_fl nd_f10) (am_ct nd_k10) (am_sl nd_ml nd_s133) := nm_ok (x := 133) (ini := false) rfl (by decide +kernel) nd_cok nd_i133_ok (by decide) nd_f10_ok nd_k10_ok nd_s133_ok (by decide +kernel)
-- PaperParcels$Emitter.putBody(LPaperParcels$Paper;)V
def nd_i134 : List (Nat × Instr × Nat) := [(0, .aload_n 0, 1), (1, .getfield 23, 3), (4, .invokevirtual 48, 3), (7, .iconst (-1), 1), (8, .istore_n 2, 1), (9, .iconst 0, 1), (10, .istore_n 3, 1), (11, .iload_n 3, 1), (12, .aload_n 1, 1), (13, .getfield 59, 3), (16, .if_icmp .ge 67, 3), (19, .aload_n 0, 1), (20, .aload_n 1, 1), (21, .iload_n 2, 1), (22, .aload_n 1, 1), (23, .getfield 75, 3), (26, .iload_n 3, 1), (27, .iaload, 1), (28, .invokevirtual 111, 3), (31, .aload_n 1, 1), (32, .getfield 75, 3), (35, .iload_n 3, 1), (36, .iaload, 1), (37, .istore_n 2, 1), (38, .aload_n 1, 1), (39, .getfield 78, 3), (42, .iload_n 3, 1), (43, .iaload, 1), (44, .iconst 2, 1), (45, .if_icmp .ne 12, 3), (48, .aload_n 0, 1), (49, .aload_n 1, 1), (50, .iload_n 3, 1), (51, .invokevirtual 115, 3), (54, .goto 23, 3), (57, .aload_n 0, 1), (58, .aload_n 1, 1), (59, .iload_n 3, 1), (60, .invokevirtual 119, 3), (63, .aload_n 1, 1), (64, .iload_n 3, 1), (65, .invokevirtual 122, 3), (68, .ifCond .eq 7, 3), (71, .iload_n 2, 1), (72, .goto 4, 3), (75, .iload_n 3, 1), (76, .istore_n 2, 1), (77, .iinc 3 1, 3), (80, .goto (-69), 3), (83, .aload_n 0, 1), (84, .aload_n 1, 1), (85, .iload_n 2, 1), (86, .iconst (-1), 1), (87, .invokevirtual 111, 3), (90, .return_, 1)]
theorem nd_i134_ok : am_ic prog_4_method_8_code nd_i134 = true := by decide +kernel
def nd_s134 : List nm_S := [(48, 15, false, 1082), (111, 135, false, 1154), (115, 137, false, 1165), (119, 138, false, 1169), (122, 139, false, 1174)]
theorem nd_s134_ok : nd_s134.all (nm_schk nd_ct nd_ml "PaperParcels$Emitter") = true := by decide +kernel
theorem nd_ok134 : am_ok nm_Ts nm_Tn nd_cl nd_mt nd_fr nd_lo 134 (am_in nd_i134) (am_fl nd_f10) (am_ct nd_k10) (am_sl nd_ml nd_s134) := nm_ok (x := 134) (ini := false) rfl (by decide +kernel) nd_cok nd_i134_ok (by decide) nd_f10_ok nd_k10_ok nd_s134_ok (by decide +kernel)
-- PaperParcels$Emitter.putEnds(LPaperParcels$Paper;II)V
def nd_i135 : List (Nat × Instr × Nat) := [(0, .iload_n 2, 1), (1, .istore 4, 2), (3, .iconst 0, 1), (4, .istore 5, 2), (6, .iload 5, 2), (8, .aload_n 1, 1), (9, .getfield 59, 3), (12, .if_icmp .ge 37, 3), (15, .iload 4, 2), (17, .iload_n 3, 1), (18, .if_icmp .eq 31, 3), (21, .iload 4, 2), (23, .iconst (-1), 1), (24, .if_icmp .eq 25, 3), (27, .aload_n 0, 1), (28, .aload_n 1, 1), (29, .iload 4, 2), (31, .invokevirtual 126, 3), (34, .aload_n 1, 1), (35, .getfield 75, 3), (38, .iload 4, 2), (40, .iaload, 1), (41, .istore 4, 2), (43, .iinc 5 1, 3), (46, .goto (-40), 3), (49, .return_, 1)]
theorem nd_i135_ok : am_ic prog_4_method_9_code nd_i135 = true := by decide +kernel
def nd_s135 : List nm_S := [(126, 136, false, 1158)]
theorem nd_s135_ok : nd_s135.all (nm_schk nd_ct nd_ml "PaperParcels$Emitter") = true := by decide +kernel
theorem nd_ok135 : am_ok nm_Ts nm_Tn nd_cl nd_mt nd_fr nd_lo 135 (am_in nd_i135) (am_fl nd_f10) (am_ct nd_k10) (am_sl nd_ml nd_s135) := nm_ok (x := 135) (ini := false) rfl (by decide +kernel) nd_cok nd_i135_ok (by decide) nd_f10_ok nd_k10_ok nd_s135_ok (by decide +kernel)
-- PaperParcels$Emitter.putEnd(LPaperParcels$Paper;I)V
def nd_i136 : List (Nat × Instr × Nat) := [(0, .aload_n 0, 1), (1, .getfield 23, 3), (4, .ldc 139, 2), (6, .invokevirtual 83, 3), (9, .aload_n 0, 1), (10, .getfield 23, 3), (13, .ldc 129, 2), (15, .aload_n 1, 1), (16, .getfield 78, 3), (19, .iload_n 2, 1), (20, .iaload, 1), (21, .invokevirtual 131, 3), (24, .invokevirtual 100, 3), (27, .aload_n 0, 1), (28, .getfield 23, 3), (31, .bipush 62, 2), (33, .invokevirtual 100, 3), (36, .return_, 1)]
theorem nd_i136_ok : am_ic prog_4_method_11_code nd_i136 = true := by decide +kernel
def nd_s136 : List nm_S := [(83, 121, false, 1084), (100, 13, false, 1144)]
theorem nd_s136_ok : nd_s136.all (nm_schk nd_ct nd_ml "PaperParcels$Emitter") = true := by decide +kernel
theorem nd_ok136 : am_ok nm_Ts nm_Tn nd_cl nd_mt nd_fr nd_lo 136 (am_in nd_i136) (am_fl nd_f10) (am_ct nd_k10) (am_sl nd_ml nd_s136) := nm_ok (x := 136) (ini := false) rfl (by decide +kernel) nd_cok nd_i136_ok (by decide) nd_f10_ok nd_k10_ok nd_s136_ok (by decide +kernel)
-- PaperParcels$Emitter.putRun(LPaperParcels$Paper;I)V
def nd_i137 : List (Nat × Instr × Nat) := [(0, .aload_n 1, 1), (1, .iload_n 2, 1), (2, .invokestatic 64, 3), (5, .istore_n 3, 1), (6, .iload_n 3, 1), (7, .ifCond .eq 9, 3), (10, .aload_n 0, 1), (11, .aload_n 1, 1), (12, .iload_n 2, 1), (13, .invokevirtual 119, 3), (16, .iconst 0, 1), (17, .istore 4, 2), (19, .iload 4, 2), (21, .aload_n 1, 1), (22, .getfield 141, 3), (25, .iload_n 2, 1), (26, .iaload, 1), (27, .if_icmp .ge 23, 3), (30, .aload_n 0, 1), (31, .getfield 23, 3), (34, .aload_n 1, 1), (35, .iload_n 2, 1), (36, .iload 4, 2), (38, .invokevirtual 144, 3), (41, .invokevirtual 100, 3), (44, .iinc 4 1, 3), (47, .goto (-28), 3), (50, .iload_n 3, 1), (51, .ifCond .eq 9, 3), (54, .aload_n 0, 1), (55, .aload_n 1, 1), (56, .iload_n 2, 1), (57, .invokevirtual 126, 3), (60, .return_, 1)]
theorem nd_i137_ok : am_ic prog_4_method_12_code nd_i137 = true := by decide +kernel
def nd_s137 : List nm_S := [(64, 118, false, 1071), (119, 138, false, 1169), (144, 91, false, 1178), (100, 13, false, 1144), (126, 136, false, 1158)]
theorem nd_s137_ok : nd_s137.all (nm_schk nd_ct nd_ml "PaperParcels$Emitter") = true := by decide +kernel
theorem nd_ok137 : am_ok nm_Ts nm_Tn nd_cl nd_mt nd_fr nd_lo 137 (am_in nd_i137) (am_fl nd_f10) (am_ct nd_k10) (am_sl nd_ml nd_s137) := nm_ok (x := 137) (ini := false) rfl (by decide +kernel) nd_cok nd_i137_ok (by decide) nd_f10_ok nd_k10_ok nd_s137_ok (by decide +kernel)
-- PaperParcels$Emitter.putBegin(LPaperParcels$Paper;I)V
def nd_i138 : List (Nat × Instr × Nat) := [(0, .aload_n 0, 1), (1, .getfield 23, 3), (4, .bipush 60, 2), (6, .invokevirtual 100, 3), (9, .aload_n 0, 1), (10, .getfield 23, 3), (13, .ldc 129, 2), (15, .aload_n 1, 1), (16, .getfield 78, 3), (19, .iload_n 2, 1), (20, .iaload, 1), (21, .invokevirtual 131, 3), (24, .invokevirtual 100, 3), (27, .aload_n 1, 1), (28, .iload_n 2, 1), (29, .invokestatic 64, 3), (32, .ifCond .eq 41, 3), (35, .aload_n 0, 1), (36, .getfield 23, 3), (39, .ldc 137, 2), (41, .invokevirtual 83, 3), (44, .aload_n 0, 1), (45, .getfield 23, 3), (48, .bipush 65, 2), (50, .aload_n 0, 1), (51, .aload_n 1, 1), (52, .getfield 68, 3), (55, .iload_n 2, 1), (56, .iaload, 1), (57, .invokevirtual 71, 3), (60, .iadd, 1), (61, .invokevirtual 100, 3), (64, .aload_n 0, 1), (65, .getfield 23, 3), (68, .bipush 34, 2), (70, .invokevirtual 100, 3), (73, .aload_n 1, 1), (74, .getfield 78, 3), (77, .iload_n 2, 1), (78, .iaload, 1), (79, .iconst 2, 1), (80, .if_icmp .eq 20, 3), (83, .aload_n 1, 1), (84, .iload_n 2, 1), (85, .invokevirtual 122, 3), (88, .ifCond .eq 12, 3), (91, .aload_n 0, 1), (92, .getfield 23, 3), (95, .bipush 47, 2), (97, .invokevirtual 100, 3), (100, .aload_n 0, 1), (101, .getfield 23, 3), (104, .bipush 62, 2), (106, .invokevirtual 100, 3), (109, .return_, 1)]
theorem nd_i138_ok : am_ic prog_4_method_10_code nd_i138 = true := by decide +kernel
def nd_s138 : List nm_S := [(100, 13, false, 1144), (64, 118, false, 1071), (83, 121, false, 1084), (71, 119, false, 1074), (122, 139, false, 1174)]
theorem nd_s138_ok : nd_s138.all (nm_schk nd_ct nd_ml "PaperParcels$Emitter") = true := by decide +kernel
theorem nd_ok138 : am_ok nm_Ts nm_Tn nd_cl nd_mt nd_fr nd_lo 138 (am_in nd_i138) (am_fl nd_f10) (am_ct nd_k10) (am_sl nd_ml nd_s138) := nm_ok (x := 138) (ini := false) rfl (by decide +kernel) nd_cok nd_i138_ok (by decide) nd_f10_ok nd_k10_ok nd_s138_ok (by decide +kernel)
-- PaperParcels$Emitter.putPart(ILPaperParcels$Row;I)V
def nd_i140 : List (Nat × Instr × Nat) := [(0, .aload_n 0, 1), (1, .getfield 26, 3), (4, .invokevirtual 48, 3), (7, .iload_n 3, 1), (8, .iconst 1, 1), (9, .if_icmp .ne 11, 3), (12, .aload_n 0, 1), (13, .aload_n 2, 1), (14, .invokevirtual 147, 3), (17, .goto 11, 3), (20, .aload_n 0, 1), (21, .getfield 26, 3), (24, .aload_n 2, 1), (25, .invokevirtual 151, 3), (28, .aload_n 0, 1), (29, .getfield 14, 3), (32, .iload_n 1, 1), (33, .invokevirtual 100, 3), (36, .aload_n 0, 1), (37, .getfield 14, 3), (40, .bipush 48, 2), (42, .iload_n 3, 1), (43, .iadd, 1), (44, .invokevirtual 100, 3), (47, .aload_n 0, 1), (48, .getfield 14, 3), (51, .bipush 48, 2), (53, .aload_n 0, 1), (54, .getfield 26, 3), (57, .getfield 154, 3), (60, .bipush 100, 2), (62, .idiv, 1), (63, .iadd, 1), (64, .invokevirtual 100, 3), (67, .aload_n 0, 1), (68, .getfield 14, 3), (71, .bipush 48, 2), (73, .aload_n 0, 1), (74, .getfield 26, 3), (77, .getfield 154, 3), (80, .bipush 10, 2), (82, .idiv, 1), (83, .bipush 10, 2), (85, .irem, 1), (86, .iadd, 1), (87, .invokevirtual 100, 3), (90, .aload_n 0, 1), (91, .getfield 14, 3), (94, .bipush 48, 2), (96, .aload_n 0, 1), (97, .getfield 26, 3), (100, .getfield 154, 3), (103, .bipush 10, 2), (105, .irem, 1), (106, .iadd, 1), (107, .invokevirtual 100, 3), (110, .aload_n 0, 1), (111, .getfield 14, 3), (114, .aload_n 0, 1), (115, .getfield 26, 3), (118, .invokevirtual 151, 3), (121, .aload_n 2, 1), (122, .invokevirtual 157, 3), (125, .istore 4, 2), (127, .bipush 12, 2), (129, .istore 5, 2), (131, .iload 5, 2), (133, .ifCond .lt 27, 3), (136, .aload_n 0, 1), (137, .getfield 14, 3), (140, .iload 4, 2), (142, .iload 5, 2), (144, .ishr, 1), (145, .bipush 15, 2), (147, .iand, 1), (148, .invokestatic 161, 3), (151, .invokevirtual 100, 3), (154, .iinc 5 (-4), 3), (157, .goto (-26), 3), (160, .return_, 1)]
theorem nd_i140_ok : am_ic prog_4_method_13_code nd_i140 = true := by decide +kernel
def nd_s140 : List nm_S := [(48, 15, false, 1082), (147, 141, false, 1183), (151, 144, false, 1194), (100, 13, false, 1144), (157, 38, false, 1198), (161, 39, true, 1199)]
theorem nd_s140_ok : nd_s140.all (nm_schk nd_ct nd_ml "PaperParcels$Emitter") = true := by decide +kernel
theorem nd_ok140 : am_ok nm_Ts nm_Tn nd_cl nd_mt nd_fr nd_lo 140 (am_in nd_i140) (am_fl nd_f10) (am_ct nd_k10) (am_sl nd_ml nd_s140) := nm_ok (x := 140) (ini := false) rfl (by decide +kernel) nd_cok nd_i140_ok (by decide) nd_f10_ok nd_k10_ok nd_s140_ok (by decide +kernel)
-- PaperParcels$Emitter.pack(LPaperParcels$Row;)V
def nd_i141 : List (Nat × Instr × Nat) := [(0, .iconst 0, 1), (1, .istore_n 2, 1), (2, .iload_n 2, 1), (3, .aload_n 1, 1), (4, .getfield 154, 3), (7, .if_icmp .ge 101, 3), (10, .aload_n 1, 1), (11, .iload_n 2, 1), (12, .invokestatic 164, 3), (15, .istore_n 3, 1), (16, .iload_n 3, 1), (17, .iconst (-1), 1), (18, .if_icmp .ne 18, 3), (21, .aload_n 0, 1), (22, .getfield 26, 3), (25, .aload_n 1, 1), (26, .iload_n 2, 1), (27, .invokevirtual 168, 3), (30, .invokevirtual 100, 3), (33, .goto 69, 3), (36, .aload_n 1, 1), (37, .iload_n 2, 1), (38, .iload_n 3, 1), (39, .invokestatic 171, 3), (42, .istore 4, 2), (44, .aload_n 0, 1), (45, .getfield 26, 3), (48, .bipush 126, 2), (50, .invokevirtual 100, 3), (53, .aload_n 0, 1), (54, .getfield 26, 3), (57, .bipush 48, 2), (59, .iload_n 3, 1), (60, .bipush 10, 2), (62, .idiv, 1), (63, .iadd, 1), (64, .invokevirtual 100, 3), (67, .aload_n 0, 1), (68, .getfield 26, 3), (71, .bipush 48, 2), (73, .iload_n 3, 1), (74, .bipush 10, 2), (76, .irem, 1), (77, .iadd, 1), (78, .invokevirtual 100, 3), (81, .aload_n 0, 1), (82, .getfield 26, 3), (85, .bipush 48, 2), (87, .iload 4, 2), (89, .iadd, 1), (90, .iconst 5, 1), (91, .isub, 1), (92, .invokevirtual 100, 3), (95, .iload_n 2, 1), (96, .iload 4, 2), (98, .iconst 1, 1), (99, .isub, 1), (100, .iadd, 1), (101, .istore_n 2, 1), (102, .iinc 2 1, 3), (105, .goto (-103), 3), (108, .return_, 1)]
theorem nd_i141_ok : am_ic prog_4_method_14_code nd_i141 = true := by decide +kernel
def nd_s141 : List nm_S := [(164, 142, false, 1187), (168, 18, false, 1193), (100, 13, false, 1144), (171, 143, false, 1190)]
theorem nd_s141_ok : nd_s141.all (nm_schk nd_ct nd_ml "PaperParcels$Emitter") = true := by decide +kernel
theorem nd_ok141 : am_ok nm_Ts nm_Tn nd_cl nd_mt nd_fr nd_lo 141 (am_in nd_i141) (am_fl nd_f10) (am_ct nd_k10) (am_sl nd_ml nd_s141) := nm_ok (x := 141) (ini := false) rfl (by decide +kernel) nd_cok nd_i141_ok (by decide) nd_f10_ok nd_k10_ok nd_s141_ok (by decide +kernel)
-- PaperParcels$Emitter.bestBack(LPaperParcels$Row;I)I
def nd_i142 : List (Nat × Instr × Nat) := [(0, .iconst (-1), 1), (1, .istore_n 2, 1), (2, .iconst 4, 1), (3, .istore_n 3, 1), (4, .iconst 1, 1), (5, .istore 4, 2), (7, .iload 4, 2), (9, .bipush 99, 2), (11, .if_icmp .gt 36, 3), (14, .iload 4, 2), (16, .iload_n 1, 1), (17, .if_icmp .gt 30, 3), (20, .aload_n 0, 1), (21, .iload_n 1, 1), (22, .iload 4, 2), (24, .invokestatic 171, 3), (27, .istore 5, 2), (29, .iload 5, 2), (31, .iload_n 3, 1), (32, .if_icmp .le 9, 3), (35, .iload 5, 2), (37, .istore_n 3, 1), (38, .iload 4, 2), (40, .istore_n 2, 1), (41, .iinc 4 1, 3), (44, .goto (-37), 3), (47, .iload_n 2, 1), (48, .ireturn, 1)]
theorem nd_i142_ok : am_ic prog_4_method_15_code nd_i142 = true := by decide +kernel
def nd_s142 : List nm_S := [(171, 143, false, 1190)]
theorem nd_s142_ok : nd_s142.all (nm_schk nd_ct nd_ml "PaperParcels$Emitter") = true := by decide +kernel
theorem nd_ok142 : am_ok nm_Ts nm_Tn nd_cl nd_mt nd_fr nd_lo 142 (am_in nd_i142) (am_fl nd_f10) (am_ct nd_k10) (am_sl nd_ml nd_s142) := nm_ok (x := 142) (ini := false) rfl (by decide +kernel) nd_cok nd_i142_ok (by decide) nd_f10_ok nd_k10_ok nd_s142_ok (by decide +kernel)
-- PaperParcels$Emitter.sameFrom(LPaperParcels$Row;II)I
def nd_i143 : List (Nat × Instr × Nat) := [(0, .iconst 0, 1), (1, .istore_n 3, 1), (2, .iload_n 3, 1), (3, .bipush 14, 2), (5, .if_icmp .ge 38, 3), (8, .iload_n 1, 1), (9, .iload_n 3, 1), (10, .iadd, 1), (11, .aload_n 0, 1), (12, .getfield 154, 3), (15, .if_icmp .ge 28, 3), (18, .aload_n 0, 1), (19, .iload_n 1, 1), (20, .iload_n 3, 1), (21, .iadd, 1), (22, .invokevirtual 168, 3), (25, .aload_n 0, 1), (26, .iload_n 1, 1), (27, .iload_n 3, 1), (28, .iadd, 1), (29, .iload_n 2, 1), (30, .isub, 1), (31, .invokevirtual 168, 3), (34, .if_icmp .ne 9, 3), (37, .iinc 3 1, 3), (40, .goto (-38), 3), (43, .iload_n 3, 1), (44, .ireturn, 1)]
theorem nd_i143_ok : am_ic prog_4_method_16_code nd_i143 = true := by decide +kernel
def nd_s143 : List nm_S := [(168, 18, false, 1193)]
theorem nd_s143_ok : nd_s143.all (nm_schk nd_ct nd_ml "PaperParcels$Emitter") = true := by decide +kernel
theorem nd_ok143 : am_ok nm_Ts nm_Tn nd_cl nd_mt nd_fr nd_lo 143 (am_in nd_i143) (am_fl nd_f10) (am_ct nd_k10) (am_sl nd_ml nd_s143) := nm_ok (x := 143) (ini := false) rfl (by decide +kernel) nd_cok nd_i143_ok (by decide) nd_f10_ok nd_k10_ok nd_s143_ok (by decide +kernel)
end
section
-- PaperParcelsModel.thrown()I
def nd_i147 : List (Nat × Instr × Nat) := [(0, .aload_n 0, 1), (1, .getfield 150, 3), (4, .ireturn, 1)]
theorem nd_i147_ok : am_ic prog_14_method_2_code nd_i147 = true := by decide +kernel
def nd_s147 : List nm_S := []
theorem nd_s147_ok : nd_s147.all (nm_schk nd_ct nd_ml "PaperParcelsModel") = true := by decide +kernel
theorem nd_ok147 : am_ok nm_Ts nm_Tn nd_cl nd_mt nd_fr nd_lo 147 (am_in nd_i147) (am_fl nd_f11) (am_ct nd_k11) (am_sl nd_ml nd_s147) := nm_ok (x := 147) (ini := false) rfl (by decide +kernel) nd_cok nd_i147_ok (by decide) nd_f11_ok nd_k11_ok nd_s147_ok (by decide +kernel)
-- PaperParcelsModel.write(J)Z
def nd_i148 : List (Nat × Instr × Nat) := [(0, .aload_n 0, 1), (1, .iconst 0, 1), (2, .putfield 150, 3), (5, .iconst 0, 1), (6, .istore_n 3, 1), (7, .iconst 1, 1), (8, .istore 4, 2), (10, .iconst 0, 1), (11, .istore 5, 2), (13, .iload 5, 2), (15, .bipush 8, 2), (17, .if_icmp .ge 67, 3), (20, .lload_n 1, 1), (21, .bipush 8, 2), (23, .iload 5, 2), (25, .imul, 1), (26, .lshr, 1), (27, .ldc2_w 153, 3), (30, .land, 1), (31, .l2i, 1), (32, .istore 6, 2), (34, .iload 4, 2), (36, .ifCond .eq 26, 3), (39, .iload 6, 2), (41, .ifCond .eq 17, 3), (44, .iload 6, 2), (46, .bipush 32, 2), (48, .if_icmp .lt 14, 3), (51, .iload 6, 2), (53, .bipush 126, 2), (55, .if_icmp .gt 7, 3), (58, .iconst 1, 1), (59, .goto 4, 3), (62, .iconst 0, 1), (63, .istore 4, 2), (65, .iload_n 3, 1), (66, .iload 6, 2), (68, .ifCond .ne 7, 3), (71, .iconst 0, 1), (72, .goto 4, 3), (75, .iconst 1, 1), (76, .iadd, 1), (77, .istore_n 3, 1), (78, .iinc 5 1, 3), (81, .goto (-68), 3), (84, .iload 4, 2), (86, .ifCond .eq 15, 3), (89, .aload_n 0, 1), (90, .getfield 155, 3), (93, .iload_n 3, 1), (94, .iadd, 1), (95, .sipush 480, 3), (98, .if_icmp .le 5, 3), (101, .iconst 0, 1), (102, .ireturn, 1), (103, .iconst 0, 1), (104, .istore 5, 2), (106, .iload 5, 2), (108, .bipush 8, 2), (110, .if_icmp .ge 49, 3), (113, .lload_n 1, 1), (114, .bipush 8, 2), (116, .iload 5, 2), (118, .imul, 1), (119, .lshr, 1), (120, .ldc2_w 153, 3), (123, .land, 1), (124, .l2i, 1), (125, .istore 6, 2), (127, .iload 6, 2), (129, .ifCond .eq 24, 3), (132, .aload_n 0, 1), (133, .getfield 7, 3), (136, .aload_n 0, 1), (137, .getfield 155, 3), (140, .iload 6, 2), (142, .iastore, 1), (143, .aload_n 0, 1), (144, .dup, 1), (145, .getfield 155, 3), (148, .iconst 1, 1), (149, .iadd, 1), (150, .putfield 155, 3), (153, .iinc 5 1, 3), (156, .goto (-50), 3), (159, .iconst 1, 1), (160, .ireturn, 1)]
theorem nd_i148_ok : am_ic prog_14_method_4_code nd_i148 = true := by decide +kernel
def nd_s148 : List nm_S := []
theorem nd_s148_ok : nd_s148.all (nm_schk nd_ct nd_ml "PaperParcelsModel") = true := by decide +kernel
theorem nd_ok148 : am_ok nm_Ts nm_Tn nd_cl nd_mt nd_fr nd_lo 148 (am_in nd_i148) (am_fl nd_f11) (am_ct nd_k11) (am_sl nd_ml nd_s148) := nm_ok (x := 148) (ini := false) rfl (by decide +kernel) nd_cok nd_i148_ok (by decide) nd_f11_ok nd_k11_ok nd_s148_ok (by decide +kernel)
-- PaperParcelsModel.wipe()I
def nd_i149 : List (Nat × Instr × Nat) := [(0, .aload_n 0, 1), (1, .iconst 0, 1), (2, .putfield 150, 3), (5, .aload_n 0, 1), (6, .getfield 155, 3), (9, .istore_n 1, 1), (10, .aload_n 0, 1), (11, .iconst 0, 1), (12, .putfield 155, 3), (15, .iload_n 1, 1), (16, .ireturn, 1)]
theorem nd_i149_ok : am_ic prog_14_method_5_code nd_i149 = true := by decide +kernel
def nd_s149 : List nm_S := []
theorem nd_s149_ok : nd_s149.all (nm_schk nd_ct nd_ml "PaperParcelsModel") = true := by decide +kernel
theorem nd_ok149 : am_ok nm_Ts nm_Tn nd_cl nd_mt nd_fr nd_lo 149 (am_in nd_i149) (am_fl nd_f11) (am_ct nd_k11) (am_sl nd_ml nd_s149) := nm_ok (x := 149) (ini := false) rfl (by decide +kernel) nd_cok nd_i149_ok (by decide) nd_f11_ok nd_k11_ok nd_s149_ok (by decide +kernel)
-- PaperParcelsModel.length()I
def nd_i150 : List (Nat × Instr × Nat) := [(0, .aload_n 0, 1), (1, .iconst 0, 1), (2, .putfield 150, 3), (5, .aload_n 0, 1), (6, .getfield 155, 3), (9, .ireturn, 1)]
theorem nd_i150_ok : am_ic prog_14_method_6_code nd_i150 = true := by decide +kernel
def nd_s150 : List nm_S := []
theorem nd_s150_ok : nd_s150.all (nm_schk nd_ct nd_ml "PaperParcelsModel") = true := by decide +kernel
theorem nd_ok150 : am_ok nm_Ts nm_Tn nd_cl nd_mt nd_fr nd_lo 150 (am_in nd_i150) (am_fl nd_f11) (am_ct nd_k11) (am_sl nd_ml nd_s150) := nm_ok (x := 150) (ini := false) rfl (by decide +kernel) nd_cok nd_i150_ok (by decide) nd_f11_ok nd_k11_ok nd_s150_ok (by decide +kernel)
-- PaperParcelsModel.character(I)I
def nd_i151 : List (Nat × Instr × Nat) := [(0, .aload_n 0, 1), (1, .iconst 0, 1), (2, .putfield 150, 3), (5, .iload_n 1, 1), (6, .ifCond .lt 20, 3), (9, .iload_n 1, 1), (10, .aload_n 0, 1), (11, .getfield 155, 3), (14, .if_icmp .ge 12, 3), (17, .aload_n 0, 1), (18, .getfield 7, 3), (21, .iload_n 1, 1), (22, .iaload, 1), (23, .goto 4, 3), (26, .iconst (-1), 1), (27, .ireturn, 1)]
theorem nd_i151_ok : am_ic prog_14_method_7_code nd_i151 = true := by decide +kernel
def nd_s151 : List nm_S := []
theorem nd_s151_ok : nd_s151.all (nm_schk nd_ct nd_ml "PaperParcelsModel") = true := by decide +kernel
theorem nd_ok151 : am_ok nm_Ts nm_Tn nd_cl nd_mt nd_fr nd_lo 151 (am_in nd_i151) (am_fl nd_f11) (am_ct nd_k11) (am_sl nd_ml nd_s151) := nm_ok (x := 151) (ini := false) rfl (by decide +kernel) nd_cok nd_i151_ok (by decide) nd_f11_ok nd_k11_ok nd_s151_ok (by decide +kernel)
-- PaperParcelsModel.read(I)I
def nd_i152 : List (Nat × Instr × Nat) := [(0, .aload_n 0, 1), (1, .iload_n 1, 1), (2, .ifCond .eq 8, 3), (5, .iload_n 1, 1), (6, .iconst 1, 1), (7, .if_icmp .ne 7, 3), (10, .iconst 0, 1), (11, .goto 4, 3), (14, .iconst 1, 1), (15, .putfield 150, 3), (18, .aload_n 0, 1), (19, .getfield 150, 3), (22, .ifCond .le 5, 3), (25, .iconst 0, 1), (26, .ireturn, 1), (27, .aload_n 0, 1), (28, .iconst (-1), 1), (29, .putfield 13, 3), (32, .aload_n 0, 1), (33, .invokevirtual 317, 3), (36, .istore_n 2, 1), (37, .iload_n 2, 1), (38, .ifCond .ne 10, 3), (41, .aload_n 0, 1), (42, .invokevirtual 320, 3), (45, .goto 4, 3), (48, .iload_n 2, 1), (49, .istore_n 2, 1), (50, .iload_n 2, 1), (51, .ifCond .le 5, 3), (54, .iload_n 2, 1), (55, .ireturn, 1), (56, .aload_n 0, 1), (57, .getfield 60, 3), (60, .iload_n 1, 1), (61, .iconst 0, 1), (62, .iastore, 1), (63, .aload_n 0, 1), (64, .getfield 78, 3), (67, .iload_n 1, 1), (68, .iconst 0, 1), (69, .iastore, 1), (70, .iconst 0, 1), (71, .istore_n 3, 1), (72, .iload_n 3, 1), (73, .aload_n 0, 1), (74, .getfield 60, 3), (77, .iconst 3, 1), (78, .iaload, 1), (79, .if_icmp .ge 26, 3), (82, .aload_n 0, 1), (83, .iload_n 1, 1), (84, .iconst 3, 1), (85, .iload_n 3, 1), (86, .aload_n 0, 1), (87, .getfield 66, 3), (90, .sipush 300, 3), (93, .iload_n 3, 1), (94, .iadd, 1), (95, .iaload, 1), (96, .invokevirtual 323, 3), (99, .iinc 3 1, 3), (102, .goto (-30), 3), (105, .aload_n 0, 1), (106, .iconst 0, 1), (107, .putfield 326, 3), (110, .iconst 0, 1), (111, .ireturn, 1)]
theorem nd_i152_ok : am_ic prog_14_method_55_code nd_i152 = true := by decide +kernel
def nd_s152 : List nm_S := [(317, 153, false, 1421), (320, 173, false, 1497), (323, 198, false, 1597)]
theorem nd_s152_ok : nd_s152.all (nm_schk nd_ct nd_ml "PaperParcelsModel") = true := by decide +kernel
theorem nd_ok152 : am_ok nm_Ts nm_Tn nd_cl nd_mt nd_fr nd_lo 152 (am_in nd_i152) (am_fl nd_f11) (am_ct nd_k11) (am_sl nd_ml nd_s152) := nm_ok (x := 152) (ini := false) rfl (by decide +kernel) nd_cok nd_i152_ok (by decide) nd_f11_ok nd_k11_ok nd_s152_ok (by decide +kernel)
-- PaperParcelsModel.textFault()I
def nd_i153 : List (Nat × Instr × Nat) := [(0, .aload_n 0, 1), (1, .invokevirtual 295, 3), (4, .istore_n 1, 1), (5, .iload_n 1, 1), (6, .ifCond .lt 10, 3), (9, .aload_n 0, 1), (10, .iconst 1, 1), (11, .iload_n 1, 1), (12, .invokevirtual 286, 3), (15, .ireturn, 1), (16, .aload_n 0, 1), (17, .iconst 0, 1), (18, .invokevirtual 299, 3), (21, .istore_n 2, 1), (22, .iload_n 2, 1), (23, .ifCond .ne 11, 3), (26, .aload_n 0, 1), (27, .iconst 1, 1), (28, .invokevirtual 299, 3), (31, .goto 4, 3), (34, .iload_n 2, 1), (35, .istore_n 2, 1), (36, .iconst 0, 1), (37, .istore_n 3, 1), (38, .iload_n 3, 1), (39, .iconst 2, 1), (40, .if_icmp .ge 40, 3), (43, .iload_n 2, 1), (44, .ifCond .ne 36, 3), (47, .aload_n 0, 1), (48, .iload_n 3, 1), (49, .invokevirtual 302, 3), (52, .istore_n 1, 1), (53, .iload_n 1, 1), (54, .ifCond .lt 18, 3), (57, .aload_n 0, 1), (58, .iconst 4, 1), (59, .sipush 1000, 3), (62, .iload_n 3, 1), (63, .imul, 1), (64, .iload_n 1, 1), (65, .iadd, 1), (66, .invokevirtual 286, 3), (69, .goto 4, 3), (72, .iconst 0, 1), (73, .istore_n 2, 1), (74, .iinc 3 1, 3), (77, .goto (-39), 3), (80, .iload_n 2, 1), (81, .ireturn, 1)]
theorem nd_i153_ok : am_ic prog_14_method_53_code nd_i153 = true := by decide +kernel
def nd_s153 : List nm_S := [(295, 154, false, 1425), (286, 158, false, 1439), (299, 159, false, 1443), (302, 164, false, 1464)]
theorem nd_s153_ok : nd_s153.all (nm_schk nd_ct nd_ml "PaperParcelsModel") = true := by decide +kernel
theorem nd_ok153 : am_ok nm_Ts nm_Tn nd_cl nd_mt nd_fr nd_lo 153 (am_in nd_i153) (am_fl nd_f11) (am_ct nd_k11) (am_sl nd_ml nd_s153) := nm_ok (x := 153) (ini := false) rfl (by decide +kernel) nd_cok nd_i153_ok (by decide) nd_f11_ok nd_k11_ok nd_s153_ok (by decide +kernel)
-- PaperParcelsModel.outline()I
def nd_i154 : List (Nat × Instr × Nat) := [(0, .iconst 0, 1), (1, .istore_n 1, 1), (2, .iconst 0, 1), (3, .istore_n 2, 1), (4, .iload_n 2, 1), (5, .iconst 2, 1), (6, .if_icmp .ge 198, 3), (9, .aload_n 0, 1), (10, .iload_n 1, 1), (11, .invokevirtual 162, 3), (14, .iload_n 2, 1), (15, .ifCond .ne 8, 3), (18, .bipush 83, 2), (20, .goto 5, 3), (23, .bipush 67, 2), (25, .if_icmp .eq 5, 3), (28, .iload_n 1, 1), (29, .ireturn, 1), (30, .aload_n 0, 1), (31, .getfield 17, 3), (34, .iload_n 2, 1), (35, .aload_n 0, 1), (36, .iload_n 1, 1), (37, .iconst 1, 1), (38, .iadd, 1), (39, .invokevirtual 162, 3), (42, .bipush 48, 2), (44, .isub, 1), (45, .iastore, 1), (46, .aload_n 0, 1), (47, .getfield 17, 3), (50, .iload_n 2, 1), (51, .iaload, 1), (52, .ifCond .eq 17, 3), (55, .aload_n 0, 1), (56, .getfield 17, 3), (59, .iload_n 2, 1), (60, .iaload, 1), (61, .iconst 1, 1), (62, .if_icmp .eq 7, 3), (65, .iload_n 1, 1), (66, .iconst 1, 1), (67, .iadd, 1), (68, .ireturn, 1), (69, .aload_n 0, 1), (70, .getfield 23, 3), (73, .iload_n 2, 1), (74, .iconst 0, 1), (75, .iastore, 1), (76, .iconst 2, 1), (77, .istore_n 3, 1), (78, .iload_n 3, 1), (79, .iconst 5, 1), (80, .if_icmp .ge 52, 3), (83, .aload_n 0, 1), (84, .iload_n 1, 1), (85, .iload_n 3, 1), (86, .iadd, 1), (87, .invokevirtual 162, 3), (90, .invokestatic 158, 3), (93, .ifCond .ne 7, 3), (96, .iload_n 1, 1), (97, .iload_n 3, 1), (98, .iadd, 1), (99, .ireturn, 1), (100, .aload_n 0, 1), (101, .getfield 23, 3), (104, .iload_n 2, 1), (105, .bipush 10, 2), (107, .aload_n 0, 1), (108, .getfield 23, 3), (111, .iload_n 2, 1), (112, .iaload, 1), (113, .imul, 1), (114, .aload_n 0, 1), (115, .iload_n 1, 1), (116, .iload_n 3, 1), (117, .iadd, 1), (118, .invokevirtual 162, 3), (121, .iadd, 1), (122, .bipush 48, 2), (124, .isub, 1), (125, .iastore, 1), (126, .iinc 3 1, 3), (129, .goto (-51), 3), (132, .aload_n 0, 1), (133, .getfield 20, 3), (136, .iload_n 2, 1), (137, .iload_n 1, 1), (138, .iconst 5, 1), (139, .iadd, 1), (140, .iastore, 1), (141, .iload_n 1, 1), (142, .iconst 5, 1), (143, .iadd, 1), (144, .aload_n 0, 1), (145, .getfield 23, 3), (148, .iload_n 2, 1), (149, .iaload, 1), (150, .iadd, 1), (151, .istore_n 1, 1), (152, .iload_n 1, 1), (153, .aload_n 0, 1), (154, .getfield 155, 3), (157, .if_icmp .le 8, 3), (160, .aload_n 0, 1), (161, .getfield 155, 3), (164, .ireturn, 1), (165, .iconst 0, 1), (166, .istore_n 3, 1), (167, .iload_n 3, 1), (168, .iconst 4, 1), (169, .if_icmp .ge 26, 3), (172, .aload_n 0, 1), (173, .iload_n 1, 1), (174, .iload_n 3, 1), (175, .iadd, 1), (176, .invokevirtual 162, 3), (179, .invokestatic 166, 3), (182, .ifCond .ge 7, 3), (185, .iload_n 1, 1), (186, .iload_n 3, 1), (187, .iadd, 1), (188, .ireturn, 1), (189, .iinc 3 1, 3), (192, .goto (-25), 3), (195, .iinc 1 4, 3), (198, .iinc 2 1, 3), (201, .goto (-197), 3), (204, .iload_n 1, 1), (205, .aload_n 0, 1), (206, .getfield 155, 3), (209, .if_icmp .ge 7, 3), (212, .iload_n 1, 1), (213, .goto 4, 3), (216, .iconst (-1), 1), (217, .ireturn, 1)]
theorem nd_i154_ok : am_ic prog_14_method_13_code nd_i154 = true := by decide +kernel
def nd_s154 : List nm_S := [(162, 155, false, 1429), (158, 156, false, 1433), (166, 157, false, 1436)]
theorem nd_s154_ok : nd_s154.all (nm_schk nd_ct nd_ml "PaperParcelsModel") = true := by decide +kernel
theorem nd_ok154 : am_ok nm_Ts nm_Tn nd_cl nd_mt nd_fr nd_lo 154 (am_in nd_i154) (am_fl nd_f11) (am_ct nd_k11) (am_sl nd_ml nd_s154) := nm_ok (x := 154) (ini := false) rfl (by decide +kernel) nd_cok nd_i154_ok (by decide) nd_f11_ok nd_k11_ok nd_s154_ok (by decide +kernel)
-- PaperParcelsModel.charAt(I)I
def nd_i155 : List (Nat × Instr × Nat) := [(0, .iload_n 1, 1), (1, .aload_n 0, 1), (2, .getfield 155, 3), (5, .if_icmp .ge 12, 3), (8, .aload_n 0, 1), (9, .getfield 7, 3), (12, .iload_n 1, 1), (13, .iaload, 1), (14, .goto 4, 3), (17, .iconst (-1), 1), (18, .ireturn, 1)]
theorem nd_i155_ok : am_ic prog_14_method_8_code nd_i155 = true := by decide +kernel
def nd_s155 : List nm_S := []
theorem nd_s155_ok : nd_s155.all (nm_schk nd_ct nd_ml "PaperParcelsModel") = true := by decide +kernel
theorem nd_ok155 : am_ok nm_Ts nm_Tn nd_cl nd_mt nd_fr nd_lo 155 (am_in nd_i155) (am_fl nd_f11) (am_ct nd_k11) (am_sl nd_ml nd_s155) := nm_ok (x := 155) (ini := false) rfl (by decide +kernel) nd_cok nd_i155_ok (by decide) nd_f11_ok nd_k11_ok nd_s155_ok (by decide +kernel)
-- PaperParcelsModel.isDigit(I)Z
def nd_i156 : List (Nat × Instr × Nat) := [(0, .iload_n 0, 1), (1, .bipush 48, 2), (3, .if_icmp .lt 13, 3), (6, .iload_n 0, 1), (7, .bipush 57, 2), (9, .if_icmp .gt 7, 3), (12, .iconst 1, 1), (13, .goto 4, 3), (16, .iconst 0, 1), (17, .ireturn, 1)]
theorem nd_i156_ok : am_ic prog_14_method_9_code nd_i156 = true := by decide +kernel
def nd_s156 : List nm_S := []
theorem nd_s156_ok : nd_s156.all (nm_schk nd_ct nd_ml "PaperParcelsModel") = true := by decide +kernel
theorem nd_ok156 : am_ok nm_Ts nm_Tn nd_cl nd_mt nd_fr nd_lo 156 (am_in nd_i156) (am_fl nd_f11) (am_ct nd_k11) (am_sl nd_ml nd_s156) := nm_ok (x := 156) (ini := false) rfl (by decide +kernel) nd_cok nd_i156_ok (by decide) nd_f11_ok nd_k11_ok nd_s156_ok (by decide +kernel)
-- PaperParcelsModel.hex(I)I
def nd_i157 : List (Nat × Instr × Nat) := [(0, .iload_n 0, 1), (1, .invokestatic 158, 3), (4, .ifCond .eq 10, 3), (7, .iload_n 0, 1), (8, .bipush 48, 2), (10, .isub, 1), (11, .goto 26, 3), (14, .iload_n 0, 1), (15, .bipush 97, 2), (17, .if_icmp .lt 19, 3), (20, .iload_n 0, 1), (21, .bipush 102, 2), (23, .if_icmp .gt 13, 3), (26, .iload_n 0, 1), (27, .bipush 97, 2), (29, .isub, 1), (30, .bipush 10, 2), (32, .iadd, 1), (33, .goto 4, 3), (36, .iconst (-1), 1), (37, .ireturn, 1)]
theorem nd_i157_ok : am_ic prog_14_method_12_code nd_i157 = true := by decide +kernel
def nd_s157 : List nm_S := [(158, 156, false, 1433)]
theorem nd_s157_ok : nd_s157.all (nm_schk nd_ct nd_ml "PaperParcelsModel") = true := by decide +kernel
theorem nd_ok157 : am_ok nm_Ts nm_Tn nd_cl nd_mt nd_fr nd_lo 157 (am_in nd_i157) (am_fl nd_f11) (am_ct nd_k11) (am_sl nd_ml nd_s157) := nm_ok (x := 157) (ini := false) rfl (by decide +kernel) nd_cok nd_i157_ok (by decide) nd_f11_ok nd_k11_ok nd_s157_ok (by decide +kernel)
-- PaperParcelsModel.fail(II)I
def nd_i158 : List (Nat × Instr × Nat) := [(0, .aload_n 0, 1), (1, .iload_n 2, 1), (2, .putfield 13, 3), (5, .iload_n 1, 1), (6, .ireturn, 1)]
theorem nd_i158_ok : am_ic prog_14_method_50_code nd_i158 = true := by decide +kernel
def nd_s158 : List nm_S := []
theorem nd_s158_ok : nd_s158.all (nm_schk nd_ct nd_ml "PaperParcelsModel") = true := by decide +kernel
theorem nd_ok158 : am_ok nm_Ts nm_Tn nd_cl nd_mt nd_fr nd_lo 158 (am_in nd_i158) (am_fl nd_f11) (am_ct nd_k11) (am_sl nd_ml nd_s158) := nm_ok (x := 158) (ini := false) rfl (by decide +kernel) nd_cok nd_i158_ok (by decide) nd_f11_ok nd_k11_ok nd_s158_ok (by decide +kernel)
-- PaperParcelsModel.partFault(I)I
def nd_i159 : List (Nat × Instr × Nat) := [(0, .aload_n 0, 1), (1, .iload_n 1, 1), (2, .invokevirtual 283, 3), (5, .istore_n 2, 1), (6, .iload_n 2, 1), (7, .ifCond .lt 10, 3), (10, .aload_n 0, 1), (11, .iconst 2, 1), (12, .iload_n 2, 1), (13, .invokevirtual 286, 3), (16, .ireturn, 1), (17, .aload_n 0, 1), (18, .iload_n 1, 1), (19, .invokevirtual 289, 3), (22, .ifCond .eq 7, 3), (25, .iconst 0, 1), (26, .goto 21, 3), (29, .aload_n 0, 1), (30, .iconst 3, 1), (31, .aload_n 0, 1), (32, .getfield 20, 3), (35, .iload_n 1, 1), (36, .iaload, 1), (37, .aload_n 0, 1), (38, .getfield 23, 3), (41, .iload_n 1, 1), (42, .iaload, 1), (43, .iadd, 1), (44, .invokevirtual 286, 3), (47, .ireturn, 1)]
theorem nd_i159_ok : am_ic prog_14_method_51_code nd_i159 = true := by decide +kernel
def nd_s159 : List nm_S := [(283, 160, false, 1447), (286, 158, false, 1439), (289, 162, false, 1455)]
theorem nd_s159_ok : nd_s159.all (nm_schk nd_ct nd_ml "PaperParcelsModel") = true := by decide +kernel
theorem nd_ok159 : am_ok nm_Ts nm_Tn nd_cl nd_mt nd_fr nd_lo 159 (am_in nd_i159) (am_fl nd_f11) (am_ct nd_k11) (am_sl nd_ml nd_s159) := nm_ok (x := 159) (ini := false) rfl (by decide +kernel) nd_cok nd_i159_ok (by decide) nd_f11_ok nd_k11_ok nd_s159_ok (by decide +kernel)
-- PaperParcelsModel.unpack(I)I
def nd_i160 : List (Nat × Instr × Nat) := [(0, .aload_n 0, 1), (1, .getfield 20, 3), (4, .iload_n 1, 1), (5, .iaload, 1), (6, .aload_n 0, 1), (7, .getfield 23, 3), (10, .iload_n 1, 1), (11, .iaload, 1), (12, .iadd, 1), (13, .istore_n 2, 1), (14, .iconst 0, 1), (15, .istore_n 3, 1), (16, .aload_n 0, 1), (17, .getfield 20, 3), (20, .iload_n 1, 1), (21, .iaload, 1), (22, .istore 4, 2), (24, .iload 4, 2), (26, .iload_n 2, 1), (27, .if_icmp .ge 169, 3), (30, .aload_n 0, 1), (31, .getfield 17, 3), (34, .iload_n 1, 1), (35, .iaload, 1), (36, .iconst 1, 1), (37, .if_icmp .ne 19, 3), (40, .aload_n 0, 1), (41, .getfield 7, 3), (44, .iload 4, 2), (46, .iaload, 1), (47, .bipush 126, 2), (49, .if_icmp .ne 7, 3), (52, .iconst 1, 1), (53, .goto 4, 3), (56, .iconst 0, 1), (57, .istore 5, 2), (59, .iload 5, 2), (61, .ifCond .eq 14, 3), (64, .aload_n 0, 1), (65, .iload 4, 2), (67, .iload_n 2, 1), (68, .iload_n 3, 1), (69, .invokevirtual 169, 3), (72, .goto 4, 3), (75, .iconst 0, 1), (76, .istore 6, 2), (78, .iload 5, 2), (80, .ifCond .eq 12, 3), (83, .iload 6, 2), (85, .sipush 1000, 3), (88, .idiv, 1), (89, .goto 4, 3), (92, .iconst 1, 1), (93, .istore 7, 2), (95, .iload 7, 2), (97, .ifCond .eq 13, 3), (100, .iload_n 3, 1), (101, .iload 7, 2), (103, .iadd, 1), (104, .sipush 300, 3), (107, .if_icmp .le 6, 3), (110, .iload 4, 2), (112, .ireturn, 1), (113, .iconst 0, 1), (114, .istore 8, 2), (116, .iload 8, 2), (118, .iload 7, 2), (120, .if_icmp .ge 58, 3), (123, .aload_n 0, 1), (124, .getfield 26, 3), (127, .sipush 300, 3), (130, .iload_n 1, 1), (131, .imul, 1), (132, .iload_n 3, 1), (133, .iadd, 1), (134, .iload 5, 2), (136, .ifCond .eq 25, 3), (139, .aload_n 0, 1), (140, .getfield 26, 3), (143, .sipush 300, 3), (146, .iload_n 1, 1), (147, .imul, 1), (148, .iload_n 3, 1), (149, .iadd, 1), (150, .iload 6, 2), (152, .sipush 1000, 3), (155, .irem, 1), (156, .isub, 1), (157, .iaload, 1), (158, .goto 10, 3), (161, .aload_n 0, 1), (162, .getfield 7, 3), (165, .iload 4, 2), (167, .iaload, 1), (168, .iastore, 1), (169, .iinc 3 1, 3), (172, .iinc 8 1, 3), (175, .goto (-59), 3), (178, .iload 4, 2), (180, .iload 5, 2), (182, .ifCond .eq 7, 3), (185, .iconst 4, 1), (186, .goto 4, 3), (189, .iconst 1, 1), (190, .iadd, 1), (191, .istore 4, 2), (193, .goto (-169), 3), (196, .aload_n 0, 1), (197, .getfield 29, 3), (200, .iload_n 1, 1), (201, .iload_n 3, 1), (202, .iastore, 1), (203, .iconst (-1), 1), (204, .ireturn, 1)]
theorem nd_i160_ok : am_ic prog_14_method_15_code nd_i160 = true := by decide +kernel
def nd_s160 : List nm_S := [(169, 161, false, 1451)]
theorem nd_s160_ok : nd_s160.all (nm_schk nd_ct nd_ml "PaperParcelsModel") = true := by decide +kernel
theorem nd_ok160 : am_ok nm_Ts nm_Tn nd_cl nd_mt nd_fr nd_lo 160 (am_in nd_i160) (am_fl nd_f11) (am_ct nd_k11) (am_sl nd_ml nd_s160) := nm_ok (x := 160) (ini := false) rfl (by decide +kernel) nd_cok nd_i160_ok (by decide) nd_f11_ok nd_k11_ok nd_s160_ok (by decide +kernel)
-- PaperParcelsModel.reference(III)I
def nd_i161 : List (Nat × Instr × Nat) := [(0, .iload_n 1, 1), (1, .iconst 3, 1), (2, .iadd, 1), (3, .iload_n 2, 1), (4, .if_icmp .ge 45, 3), (7, .aload_n 0, 1), (8, .getfield 7, 3), (11, .iload_n 1, 1), (12, .iconst 1, 1), (13, .iadd, 1), (14, .iaload, 1), (15, .invokestatic 158, 3), (18, .ifCond .eq 31, 3), (21, .aload_n 0, 1), (22, .getfield 7, 3), (25, .iload_n 1, 1), (26, .iconst 2, 1), (27, .iadd, 1), (28, .iaload, 1), (29, .invokestatic 158, 3), (32, .ifCond .eq 17, 3), (35, .aload_n 0, 1), (36, .getfield 7, 3), (39, .iload_n 1, 1), (40, .iconst 3, 1), (41, .iadd, 1), (42, .iaload, 1), (43, .invokestatic 158, 3), (46, .ifCond .ne 5, 3), (49, .iconst 0, 1), (50, .ireturn, 1), (51, .bipush 10, 2), (53, .aload_n 0, 1), (54, .getfield 7, 3), (57, .iload_n 1, 1), (58, .iconst 1, 1), (59, .iadd, 1), (60, .iaload, 1), (61, .bipush 48, 2), (63, .isub, 1), (64, .imul, 1), (65, .aload_n 0, 1), (66, .getfield 7, 3), (69, .iload_n 1, 1), (70, .iconst 2, 1), (71, .iadd, 1), (72, .iaload, 1), (73, .iadd, 1), (74, .bipush 48, 2), (76, .isub, 1), (77, .istore 4, 2), (79, .iload 4, 2), (81, .ifCond .eq 9, 3), (84, .iload 4, 2), (86, .iload_n 3, 1), (87, .if_icmp .le 7, 3), (90, .iconst 0, 1), (91, .goto 23, 3), (94, .iload 4, 2), (96, .sipush 1000, 3), (99, .aload_n 0, 1), (100, .getfield 7, 3), (103, .iload_n 1, 1), (104, .iconst 3, 1), (105, .iadd, 1), (106, .iaload, 1), (107, .bipush 48, 2), (109, .isub, 1), (110, .iconst 5, 1), (111, .iadd, 1), (112, .imul, 1), (113, .iadd, 1), (114, .ireturn, 1)]
theorem nd_i161_ok : am_ic prog_14_method_14_code nd_i161 = true := by decide +kernel
def nd_s161 : List nm_S := [(158, 156, false, 1433)]
theorem nd_s161_ok : nd_s161.all (nm_schk nd_ct nd_ml "PaperParcelsModel") = true := by decide +kernel
theorem nd_ok161 : am_ok nm_Ts nm_Tn nd_cl nd_mt nd_fr nd_lo 161 (am_in nd_i161) (am_fl nd_f11) (am_ct nd_k11) (am_sl nd_ml nd_s161) := nm_ok (x := 161) (ini := false) rfl (by decide +kernel) nd_cok nd_i161_ok (by decide) nd_f11_ok nd_k11_ok nd_s161_ok (by decide +kernel)
-- PaperParcelsModel.isChecked(I)Z
def nd_i162 : List (Nat × Instr × Nat) := [(0, .ldc 174, 2), (2, .istore_n 2, 1), (3, .iconst 0, 1), (4, .istore_n 3, 1), (5, .iload_n 3, 1), (6, .aload_n 0, 1), (7, .getfield 29, 3), (10, .iload_n 1, 1), (11, .iaload, 1), (12, .if_icmp .ge 26, 3), (15, .iload_n 2, 1), (16, .aload_n 0, 1), (17, .getfield 26, 3), (20, .sipush 300, 3), (23, .iload_n 1, 1), (24, .imul, 1), (25, .iload_n 3, 1), (26, .iadd, 1), (27, .iaload, 1), (28, .invokestatic 175, 3), (31, .istore_n 2, 1), (32, .iinc 3 1, 3), (35, .goto (-30), 3), (38, .iconst 0, 1), (39, .istore_n 3, 1), (40, .iconst 0, 1), (41, .istore 4, 2), (43, .iload 4, 2), (45, .iconst 4, 1), (46, .if_icmp .ge 39, 3), (49, .bipush 16, 2), (51, .iload_n 3, 1), (52, .imul, 1), (53, .aload_n 0, 1), (54, .getfield 7, 3), (57, .aload_n 0, 1), (58, .getfield 20, 3), (61, .iload_n 1, 1), (62, .iaload, 1), (63, .aload_n 0, 1), (64, .getfield 23, 3), (67, .iload_n 1, 1), (68, .iaload, 1), (69, .iadd, 1), (70, .iload 4, 2), (72, .iadd, 1), (73, .iaload, 1), (74, .invokestatic 166, 3), (77, .iadd, 1), (78, .istore_n 3, 1), (79, .iinc 4 1, 3), (82, .goto (-39), 3), (85, .iload_n 2, 1), (86, .iload_n 3, 1), (87, .if_icmp .ne 7, 3), (90, .iconst 1, 1), (91, .goto 4, 3), (94, .iconst 0, 1), (95, .ireturn, 1)]
theorem nd_i162_ok : am_ic prog_14_method_17_code nd_i162 = true := by decide +kernel
def nd_s162 : List nm_S := [(175, 163, false, 1460), (166, 157, false, 1436)]
theorem nd_s162_ok : nd_s162.all (nm_schk nd_ct nd_ml "PaperParcelsModel") = true := by decide +kernel
theorem nd_ok162 : am_ok nm_Ts nm_Tn nd_cl nd_mt nd_fr nd_lo 162 (am_in nd_i162) (am_fl nd_f11) (am_ct nd_k11) (am_sl nd_ml nd_s162) := nm_ok (x := 162) (ini := false) rfl (by decide +kernel) nd_cok nd_i162_ok (by decide) nd_f11_ok nd_k11_ok nd_s162_ok (by decide +kernel)
-- PaperParcelsModel.checked(II)I
def nd_i163 : List (Nat × Instr × Nat) := [(0, .iload_n 0, 1), (1, .iload_n 1, 1), (2, .sipush 256, 3), (5, .imul, 1), (6, .ixor, 1), (7, .istore_n 2, 1), (8, .iconst 0, 1), (9, .istore_n 3, 1), (10, .iload_n 3, 1), (11, .bipush 8, 2), (13, .if_icmp .ge 33, 3), (16, .iload_n 2, 1), (17, .ldc 173, 2), (19, .iand, 1), (20, .ifCond .eq 16, 3), (23, .iload_n 2, 1), (24, .iconst 2, 1), (25, .imul, 1), (26, .ldc 174, 2), (28, .iand, 1), (29, .sipush 4129, 3), (32, .ixor, 1), (33, .goto 6, 3), (36, .iload_n 2, 1), (37, .iconst 2, 1), (38, .imul, 1), (39, .istore_n 2, 1), (40, .iinc 3 1, 3), (43, .goto (-33), 3), (46, .iload_n 2, 1), (47, .ireturn, 1)]
theorem nd_i163_ok : am_ic prog_14_method_16_code nd_i163 = true := by decide +kernel
def nd_s163 : List nm_S := []
theorem nd_s163_ok : nd_s163.all (nm_schk nd_ct nd_ml "PaperParcelsModel") = true := by decide +kernel
theorem nd_ok163 : am_ok nm_Ts nm_Tn nd_cl nd_mt nd_fr nd_lo 163 (am_in nd_i163) (am_fl nd_f11) (am_ct nd_k11) (am_sl nd_ml nd_s163) := nm_ok (x := 163) (ini := false) rfl (by decide +kernel) nd_cok nd_i163_ok (by decide) nd_f11_ok nd_k11_ok nd_s163_ok (by decide +kernel)
-- PaperParcelsModel.scan(I)I
def nd_i164 : List (Nat × Instr × Nat) := [(0, .aload_n 0, 1), (1, .getfield 32, 3), (4, .iload_n 1, 1), (5, .iconst 0, 1), (6, .iastore, 1), (7, .aload_n 0, 1), (8, .iconst 0, 1), (9, .putfield 202, 3), (12, .aload_n 0, 1), (13, .iconst 0, 1), (14, .putfield 189, 3), (17, .aload_n 0, 1), (18, .iconst 1, 1), (19, .putfield 185, 3), (22, .iconst 0, 1), (23, .istore_n 2, 1), (24, .iload_n 2, 1), (25, .sipush 300, 3), (28, .if_icmp .ge 22, 3), (31, .aload_n 0, 1), (32, .getfield 44, 3), (35, .sipush 300, 3), (38, .iload_n 1, 1), (39, .imul, 1), (40, .iload_n 2, 1), (41, .iadd, 1), (42, .iconst (-1), 1), (43, .iastore, 1), (44, .iinc 2 1, 3), (47, .goto (-23), 3), (50, .aload_n 0, 1), (51, .iload_n 1, 1), (52, .aload_n 0, 1), (53, .getfield 189, 3), (56, .invokevirtual 192, 3), (59, .istore_n 2, 1), (60, .iload_n 2, 1), (61, .bipush 60, 2), (63, .if_icmp .ne 34, 3), (66, .aload_n 0, 1), (67, .getfield 202, 3), (70, .ifCond .le 27, 3), (73, .aload_n 0, 1), (74, .iload_n 1, 1), (75, .aload_n 0, 1), (76, .getfield 189, 3), (79, .iconst 1, 1), (80, .iadd, 1), (81, .invokevirtual 192, 3), (84, .bipush 47, 2), (86, .if_icmp .ne 11, 3), (89, .aload_n 0, 1), (90, .iload_n 1, 1), (91, .invokevirtual 211, 3), (94, .goto 94, 3), (97, .iload_n 2, 1), (98, .bipush 60, 2), (100, .if_icmp .ne 11, 3), (103, .aload_n 0, 1), (104, .iload_n 1, 1), (105, .invokevirtual 214, 3), (108, .goto 80, 3), (111, .aload_n 0, 1), (112, .getfield 202, 3), (115, .ifCond .eq 26, 3), (118, .iload_n 2, 1), (119, .iconst (-1), 1), (120, .if_icmp .eq 21, 3), (123, .iload_n 2, 1), (124, .bipush 62, 2), (126, .if_icmp .eq 15, 3), (129, .iload_n 2, 1), (130, .bipush 38, 2), (132, .if_icmp .eq 9, 3), (135, .iload_n 2, 1), (136, .bipush 126, 2), (138, .if_icmp .ne 14, 3), (141, .aload_n 0, 1), (142, .aload_n 0, 1), (143, .getfield 189, 3), (146, .invokevirtual 195, 3), (149, .goto 39, 3), (152, .aload_n 0, 1), (153, .getfield 44, 3), (156, .sipush 300, 3), (159, .iload_n 1, 1), (160, .imul, 1), (161, .aload_n 0, 1), (162, .getfield 189, 3), (165, .iadd, 1), (166, .aload_n 0, 1), (167, .getfield 47, 3), (170, .aload_n 0, 1), (171, .getfield 202, 3), (174, .iconst 1, 1), (175, .isub, 1), (176, .iaload, 1), (177, .iastore, 1), (178, .aload_n 0, 1), (179, .dup, 1), (180, .getfield 189, 3), (183, .iconst 1, 1), (184, .iadd, 1), (185, .putfield 189, 3), (188, .aload_n 0, 1), (189, .getfield 185, 3), (192, .ifCond .eq 10, 3), (195, .aload_n 0, 1), (196, .getfield 202, 3), (199, .ifCond .gt (-149), 3), (202, .aload_n 0, 1), (203, .getfield 185, 3), (206, .ifCond .eq 20, 3), (209, .aload_n 0, 1), (210, .getfield 189, 3), (213, .aload_n 0, 1), (214, .getfield 29, 3), (217, .iload_n 1, 1), (218, .iaload, 1), (219, .if_icmp .ne 7, 3), (222, .iconst (-1), 1), (223, .goto 7, 3), (226, .aload_n 0, 1), (227, .getfield 189, 3), (230, .ireturn, 1)]
theorem nd_i164_ok : am_ic prog_14_method_24_code nd_i164 = true := by decide +kernel
def nd_s164 : List nm_S := [(192, 165, false, 1468), (211, 166, false, 1472), (214, 168, false, 1480), (195, 167, false, 1476)]
theorem nd_s164_ok : nd_s164.all (nm_schk nd_ct nd_ml "PaperParcelsModel") = true := by decide +kernel
theorem nd_ok164 : am_ok nm_Ts nm_Tn nd_cl nd_mt nd_fr nd_lo 164 (am_in nd_i164) (am_fl nd_f11) (am_ct nd_k11) (am_sl nd_ml nd_s164) := nm_ok (x := 164) (ini := false) rfl (by decide +kernel) nd_cok nd_i164_ok (by decide) nd_f11_ok nd_k11_ok nd_s164_ok (by decide +kernel)
-- PaperParcelsModel.in(II)I
def nd_i165 : List (Nat × Instr × Nat) := [(0, .iload_n 2, 1), (1, .aload_n 0, 1), (2, .getfield 29, 3), (5, .iload_n 1, 1), (6, .iaload, 1), (7, .if_icmp .ge 18, 3), (10, .aload_n 0, 1), (11, .getfield 26, 3), (14, .sipush 300, 3), (17, .iload_n 1, 1), (18, .imul, 1), (19, .iload_n 2, 1), (20, .iadd, 1), (21, .iaload, 1), (22, .goto 4, 3), (25, .iconst (-1), 1), (26, .ireturn, 1)]
theorem nd_i165_ok : am_ic prog_14_method_18_code nd_i165 = true := by decide +kernel
def nd_s165 : List nm_S := []
theorem nd_s165_ok : nd_s165.all (nm_schk nd_ct nd_ml "PaperParcelsModel") = true := by decide +kernel
theorem nd_ok165 : am_ok nm_Ts nm_Tn nd_cl nd_mt nd_fr nd_lo 165 (am_in nd_i165) (am_fl nd_f11) (am_ct nd_k11) (am_sl nd_ml nd_s165) := nm_ok (x := 165) (ini := false) rfl (by decide +kernel) nd_cok nd_i165_ok (by decide) nd_f11_ok nd_k11_ok nd_s165_ok (by decide +kernel)
-- PaperParcelsModel.passEnd(I)V
def nd_i166 : List (Nat × Instr × Nat) := [(0, .aload_n 0, 1), (1, .getfield 189, 3), (4, .istore_n 2, 1), (5, .aload_n 0, 1), (6, .iload_n 1, 1), (7, .iload_n 2, 1), (8, .iconst 2, 1), (9, .iadd, 1), (10, .invokevirtual 192, 3), (13, .aload_n 0, 1), (14, .getfield 35, 3), (17, .bipush 30, 2), (19, .iload_n 1, 1), (20, .imul, 1), (21, .aload_n 0, 1), (22, .getfield 47, 3), (25, .aload_n 0, 1), (26, .getfield 202, 3), (29, .iconst 1, 1), (30, .isub, 1), (31, .iaload, 1), (32, .iadd, 1), (33, .iaload, 1), (34, .if_icmp .eq 13, 3), (37, .aload_n 0, 1), (38, .iload_n 2, 1), (39, .iconst 2, 1), (40, .iadd, 1), (41, .invokevirtual 195, 3), (44, .goto 43, 3), (47, .aload_n 0, 1), (48, .iload_n 1, 1), (49, .iload_n 2, 1), (50, .iconst 3, 1), (51, .iadd, 1), (52, .invokevirtual 192, 3), (55, .bipush 62, 2), (57, .if_icmp .eq 13, 3), (60, .aload_n 0, 1), (61, .iload_n 2, 1), (62, .iconst 3, 1), (63, .iadd, 1), (64, .invokevirtual 195, 3), (67, .goto 20, 3), (70, .aload_n 0, 1), (71, .dup, 1), (72, .getfield 202, 3), (75, .iconst 1, 1), (76, .isub, 1), (77, .putfield 202, 3), (80, .aload_n 0, 1), (81, .iload_n 2, 1), (82, .iconst 4, 1), (83, .iadd, 1), (84, .putfield 189, 3), (87, .return_, 1)]
theorem nd_i166_ok : am_ic prog_14_method_23_code nd_i166 = true := by decide +kernel
def nd_s166 : List nm_S := [(192, 165, false, 1468), (195, 167, false, 1476)]
theorem nd_s166_ok : nd_s166.all (nm_schk nd_ct nd_ml "PaperParcelsModel") = true := by decide +kernel
theorem nd_ok166 : am_ok nm_Ts nm_Tn nd_cl nd_mt nd_fr nd_lo 166 (am_in nd_i166) (am_fl nd_f11) (am_ct nd_k11) (am_sl nd_ml nd_s166) := nm_ok (x := 166) (ini := false) rfl (by decide +kernel) nd_cok nd_i166_ok (by decide) nd_f11_ok nd_k11_ok nd_s166_ok (by decide +kernel)
-- PaperParcelsModel.stop(I)V
def nd_i167 : List (Nat × Instr × Nat) := [(0, .aload_n 0, 1), (1, .iconst 0, 1), (2, .putfield 185, 3), (5, .aload_n 0, 1), (6, .iload_n 1, 1), (7, .putfield 189, 3), (10, .return_, 1)]
theorem nd_i167_ok : am_ic prog_14_method_20_code nd_i167 = true := by decide +kernel
def nd_s167 : List nm_S := []
theorem nd_s167_ok : nd_s167.all (nm_schk nd_ct nd_ml "PaperParcelsModel") = true := by decide +kernel
theorem nd_ok167 : am_ok nm_Ts nm_Tn nd_cl nd_mt nd_fr nd_lo 167 (am_in nd_i167) (am_fl nd_f11) (am_ct nd_k11) (am_sl nd_ml nd_s167) := nm_ok (x := 167) (ini := false) rfl (by decide +kernel) nd_cok nd_i167_ok (by decide) nd_f11_ok nd_k11_ok nd_s167_ok (by decide +kernel)
-- PaperParcelsModel.passBeginning(I)V
def nd_i168 : List (Nat × Instr × Nat) := [(0, .aload_n 0, 1), (1, .getfield 189, 3), (4, .istore_n 2, 1), (5, .aload_n 0, 1), (6, .getfield 32, 3), (9, .iload_n 1, 1), (10, .iaload, 1), (11, .bipush 30, 2), (13, .if_icmp .eq 12, 3), (16, .aload_n 0, 1), (17, .getfield 202, 3), (20, .bipush 8, 2), (22, .if_icmp .ne 9, 3), (25, .aload_n 0, 1), (26, .iload_n 2, 1), (27, .invokevirtual 195, 3), (30, .return_, 1), (31, .aload_n 0, 1), (32, .iload_n 1, 1), (33, .iload_n 2, 1), (34, .iconst 1, 1), (35, .iadd, 1), (36, .invokevirtual 192, 3), (39, .invokestatic 182, 3), (42, .ifCond .ne 11, 3), (45, .aload_n 0, 1), (46, .iload_n 2, 1), (47, .iconst 1, 1), (48, .iadd, 1), (49, .invokevirtual 195, 3), (52, .return_, 1), (53, .aload_n 0, 1), (54, .iload_n 2, 1), (55, .iconst 2, 1), (56, .iadd, 1), (57, .putfield 189, 3), (60, .iconst 0, 1), (61, .istore_n 3, 1), (62, .aload_n 0, 1), (63, .getfield 185, 3), (66, .ifCond .eq 29, 3), (69, .aload_n 0, 1), (70, .iload_n 1, 1), (71, .aload_n 0, 1), (72, .getfield 189, 3), (75, .invokevirtual 192, 3), (78, .bipush 32, 2), (80, .if_icmp .ne 15, 3), (83, .iload_n 3, 1), (84, .aload_n 0, 1), (85, .iload_n 1, 1), (86, .iload_n 3, 1), (87, .invokevirtual 205, 3), (90, .ior, 1), (91, .istore_n 3, 1), (92, .goto (-30), 3), (95, .aload_n 0, 1), (96, .getfield 185, 3), (99, .ifCond .ne 4, 3), (102, .return_, 1), (103, .aload_n 0, 1), (104, .aload_n 0, 1), (105, .iload_n 1, 1), (106, .aload_n 0, 1), (107, .getfield 189, 3), (110, .invokevirtual 192, 3), (113, .bipush 47, 2), (115, .if_icmp .ne 7, 3), (118, .iconst 1, 1), (119, .goto 4, 3), (122, .iconst 0, 1), (123, .putfield 208, 3), (126, .aload_n 0, 1), (127, .dup, 1), (128, .getfield 189, 3), (131, .aload_n 0, 1), (132, .getfield 208, 3), (135, .ifCond .eq 7, 3), (138, .iconst 1, 1), (139, .goto 4, 3), (142, .iconst 0, 1), (143, .iadd, 1), (144, .putfield 189, 3), (147, .aload_n 0, 1), (148, .iload_n 1, 1), (149, .aload_n 0, 1), (150, .getfield 189, 3), (153, .invokevirtual 192, 3), (156, .bipush 62, 2), (158, .if_icmp .eq 12, 3), (161, .aload_n 0, 1), (162, .aload_n 0, 1), (163, .getfield 189, 3), (166, .invokevirtual 195, 3), (169, .return_, 1), (170, .aload_n 0, 1), (171, .dup, 1), (172, .getfield 189, 3), (175, .iconst 1, 1), (176, .iadd, 1), (177, .putfield 189, 3), (180, .aload_n 0, 1), (181, .getfield 32, 3), (184, .iload_n 1, 1), (185, .iaload, 1), (186, .istore 4, 2), (188, .aload_n 0, 1), (189, .getfield 35, 3), (192, .bipush 30, 2), (194, .iload_n 1, 1), (195, .imul, 1), (196, .iload 4, 2), (198, .iadd, 1), (199, .aload_n 0, 1), (200, .iload_n 1, 1), (201, .iload_n 2, 1), (202, .iconst 1, 1), (203, .iadd, 1), (204, .invokevirtual 192, 3), (207, .iastore, 1), (208, .aload_n 0, 1), (209, .getfield 38, 3), (212, .bipush 30, 2), (214, .iload_n 1, 1), (215, .imul, 1), (216, .iload 4, 2), (218, .iadd, 1), (219, .iload_n 2, 1), (220, .iastore, 1), (221, .aload_n 0, 1), (222, .getfield 41, 3), (225, .bipush 30, 2), (227, .iload_n 1, 1), (228, .imul, 1), (229, .iload 4, 2), (231, .iadd, 1), (232, .aload_n 0, 1), (233, .getfield 202, 3), (236, .ifCond .ne 7, 3), (239, .iconst (-1), 1), (240, .goto 14, 3), (243, .aload_n 0, 1), (244, .getfield 47, 3), (247, .aload_n 0, 1), (248, .getfield 202, 3), (251, .iconst 1, 1), (252, .isub, 1), (253, .iaload, 1), (254, .iastore, 1), (255, .aload_n 0, 1), (256, .getfield 32, 3), (259, .iload_n 1, 1), (260, .dup2, 1), (261, .iaload, 1), (262, .iconst 1, 1), (263, .iadd, 1), (264, .iastore, 1), (265, .aload_n 0, 1), (266, .getfield 208, 3), (269, .ifCond .ne 24, 3), (272, .aload_n 0, 1), (273, .getfield 47, 3), (276, .aload_n 0, 1), (277, .getfield 202, 3), (280, .iload 4, 2), (282, .iastore, 1), (283, .aload_n 0, 1), (284, .dup, 1), (285, .getfield 202, 3), (288, .iconst 1, 1), (289, .iadd, 1), (290, .putfield 202, 3), (293, .return_, 1)]
theorem nd_i168_ok : am_ic prog_14_method_22_code nd_i168 = true := by decide +kernel
def nd_s168 : List nm_S := [(195, 167, false, 1476), (192, 165, false, 1468), (182, 169, false, 1484), (205, 170, false, 1487)]
theorem nd_s168_ok : nd_s168.all (nm_schk nd_ct nd_ml "PaperParcelsModel") = true := by decide +kernel
theorem nd_ok168 : am_ok nm_Ts nm_Tn nd_cl nd_mt nd_fr nd_lo 168 (am_in nd_i168) (am_fl nd_f11) (am_ct nd_k11) (am_sl nd_ml nd_s168) := nm_ok (x := 168) (ini := false) rfl (by decide +kernel) nd_cok nd_i168_ok (by decide) nd_f11_ok nd_k11_ok nd_s168_ok (by decide +kernel)
-- PaperParcelsModel.isSmall(I)Z
def nd_i169 : List (Nat × Instr × Nat) := [(0, .iload_n 0, 1), (1, .bipush 97, 2), (3, .if_icmp .lt 13, 3), (6, .iload_n 0, 1), (7, .bipush 122, 2), (9, .if_icmp .gt 7, 3), (12, .iconst 1, 1), (13, .goto 4, 3), (16, .iconst 0, 1), (17, .ireturn, 1)]
theorem nd_i169_ok : am_ic prog_14_method_11_code nd_i169 = true := by decide +kernel
def nd_s169 : List nm_S := []
theorem nd_s169_ok : nd_s169.all (nm_schk nd_ct nd_ml "PaperParcelsModel") = true := by decide +kernel
theorem nd_ok169 : am_ok nm_Ts nm_Tn nd_cl nd_mt nd_fr nd_lo 169 (am_in nd_i169) (am_fl nd_f11) (am_ct nd_k11) (am_sl nd_ml nd_s169) := nm_ok (x := 169) (ini := false) rfl (by decide +kernel) nd_cok nd_i169_ok (by decide) nd_f11_ok nd_k11_ok nd_s169_ok (by decide +kernel)
-- PaperParcelsModel.passAttribute(II)I
def nd_i170 : List (Nat × Instr × Nat) := [(0, .aload_n 0, 1), (1, .getfield 189, 3), (4, .istore_n 3, 1), (5, .aload_n 0, 1), (6, .iload_n 1, 1), (7, .iload_n 3, 1), (8, .iconst 1, 1), (9, .iadd, 1), (10, .invokevirtual 192, 3), (13, .istore 4, 2), (15, .iload 4, 2), (17, .invokestatic 182, 3), (20, .ifCond .eq 16, 3), (23, .iload_n 2, 1), (24, .iload 4, 2), (26, .bipush 97, 2), (28, .isub, 1), (29, .ishr, 1), (30, .iconst 1, 1), (31, .iand, 1), (32, .iconst 1, 1), (33, .if_icmp .ne 13, 3), (36, .aload_n 0, 1), (37, .iload_n 3, 1), (38, .iconst 1, 1), (39, .iadd, 1), (40, .invokevirtual 195, 3), (43, .goto 96, 3), (46, .aload_n 0, 1), (47, .iload_n 1, 1), (48, .iload_n 3, 1), (49, .iconst 2, 1), (50, .iadd, 1), (51, .invokevirtual 192, 3), (54, .bipush 61, 2), (56, .if_icmp .eq 13, 3), (59, .aload_n 0, 1), (60, .iload_n 3, 1), (61, .iconst 2, 1), (62, .iadd, 1), (63, .invokevirtual 195, 3), (66, .goto 73, 3), (69, .aload_n 0, 1), (70, .iload_n 1, 1), (71, .iload_n 3, 1), (72, .iconst 3, 1), (73, .iadd, 1), (74, .invokevirtual 192, 3), (77, .bipush 34, 2), (79, .if_icmp .eq 13, 3), (82, .aload_n 0, 1), (83, .iload_n 3, 1), (84, .iconst 3, 1), (85, .iadd, 1), (86, .invokevirtual 195, 3), (89, .goto 50, 3), (92, .iinc 3 4, 3), (95, .aload_n 0, 1), (96, .iload_n 1, 1), (97, .iload_n 3, 1), (98, .invokevirtual 192, 3), (101, .invokestatic 199, 3), (104, .ifCond .eq 9, 3), (107, .iinc 3 1, 3), (110, .goto (-15), 3), (113, .aload_n 0, 1), (114, .iload_n 1, 1), (115, .iload_n 3, 1), (116, .invokevirtual 192, 3), (119, .bipush 34, 2), (121, .if_icmp .ne 13, 3), (124, .aload_n 0, 1), (125, .iload_n 3, 1), (126, .iconst 1, 1), (127, .iadd, 1), (128, .putfield 189, 3), (131, .goto 8, 3), (134, .aload_n 0, 1), (135, .iload_n 3, 1), (136, .invokevirtual 195, 3), (139, .aload_n 0, 1), (140, .getfield 185, 3), (143, .ifCond .eq 13, 3), (146, .iconst 1, 1), (147, .iload 4, 2), (149, .bipush 97, 2), (151, .isub, 1), (152, .ishl, 1), (153, .goto 4, 3), (156, .iconst 0, 1), (157, .ireturn, 1)]
theorem nd_i170_ok : am_ic prog_14_method_21_code nd_i170 = true := by decide +kernel
def nd_s170 : List nm_S := [(192, 165, false, 1468), (182, 169, false, 1484), (195, 167, false, 1476), (199, 171, false, 1491)]
theorem nd_s170_ok : nd_s170.all (nm_schk nd_ct nd_ml "PaperParcelsModel") = true := by decide +kernel
theorem nd_ok170 : am_ok nm_Ts nm_Tn nd_cl nd_mt nd_fr nd_lo 170 (am_in nd_i170) (am_fl nd_f11) (am_ct nd_k11) (am_sl nd_ml nd_s170) := nm_ok (x := 170) (ini := false) rfl (by decide +kernel) nd_cok nd_i170_ok (by decide) nd_f11_ok nd_k11_ok nd_s170_ok (by decide +kernel)
-- PaperParcelsModel.isPlain(I)Z
def nd_i171 : List (Nat × Instr × Nat) := [(0, .iload_n 0, 1), (1, .invokestatic 158, 3), (4, .ifCond .ne 17, 3), (7, .iload_n 0, 1), (8, .invokestatic 179, 3), (11, .ifCond .ne 10, 3), (14, .iload_n 0, 1), (15, .invokestatic 182, 3), (18, .ifCond .eq 7, 3), (21, .iconst 1, 1), (22, .goto 4, 3), (25, .iconst 0, 1), (26, .ireturn, 1)]
theorem nd_i171_ok : am_ic prog_14_method_19_code nd_i171 = true := by decide +kernel
def nd_s171 : List nm_S := [(158, 156, false, 1433), (179, 172, false, 1494), (182, 169, false, 1484)]
theorem nd_s171_ok : nd_s171.all (nm_schk nd_ct nd_ml "PaperParcelsModel") = true := by decide +kernel
theorem nd_ok171 : am_ok nm_Ts nm_Tn nd_cl nd_mt nd_fr nd_lo 171 (am_in nd_i171) (am_fl nd_f11) (am_ct nd_k11) (am_sl nd_ml nd_s171) := nm_ok (x := 171) (ini := false) rfl (by decide +kernel) nd_cok nd_i171_ok (by decide) nd_f11_ok nd_k11_ok nd_s171_ok (by decide +kernel)
end
section
-- PaperParcelsModel.isCapital(I)Z
def nd_i172 : List (Nat × Instr × Nat) := [(0, .iload_n 0, 1), (1, .bipush 65, 2), (3, .if_icmp .lt 13, 3), (6, .iload_n 0, 1), (7, .bipush 90, 2), (9, .if_icmp .gt 7, 3), (12, .iconst 1, 1), (13, .goto 4, 3), (16, .iconst 0, 1), (17, .ireturn, 1)]
theorem nd_i172_ok : am_ic prog_14_method_10_code nd_i172 = true := by decide +kernel
def nd_s172 : List nm_S := []
theorem nd_s172_ok : nd_s172.all (nm_schk nd_ct nd_ml "PaperParcelsModel") = true := by decide +kernel
theorem nd_ok172 : am_ok nm_Ts nm_Tn nd_cl nd_mt nd_fr nd_lo 172 (am_in nd_i172) (am_fl nd_f11) (am_ct nd_k11) (am_sl nd_ml nd_s172) := nm_ok (x := 172) (ini := false) rfl (by decide +kernel) nd_cok nd_i172_ok (by decide) nd_f11_ok nd_k11_ok nd_s172_ok (by decide +kernel)
-- PaperParcelsModel.documentFault()I
def nd_i173 : List (Nat × Instr × Nat) := [(0, .aload_n 0, 1), (1, .iconst 0, 1), (2, .invokevirtual 305, 3), (5, .istore_n 1, 1), (6, .iload_n 1, 1), (7, .ifCond .ne 11, 3), (10, .aload_n 0, 1), (11, .iconst 1, 1), (12, .invokevirtual 305, 3), (15, .goto 4, 3), (18, .iload_n 1, 1), (19, .istore_n 1, 1), (20, .iload_n 1, 1), (21, .ifCond .ne 37, 3), (24, .aload_n 0, 1), (25, .invokevirtual 308, 3), (28, .istore_n 2, 1), (29, .iload_n 2, 1), (30, .ifCond .ge 10, 3), (33, .aload_n 0, 1), (34, .invokevirtual 311, 3), (37, .goto 4, 3), (40, .iload_n 2, 1), (41, .istore_n 2, 1), (42, .iload_n 2, 1), (43, .ifCond .lt 13, 3), (46, .aload_n 0, 1), (47, .bipush 6, 2), (49, .iload_n 2, 1), (50, .invokevirtual 286, 3), (53, .goto 4, 3), (56, .iconst 0, 1), (57, .istore_n 1, 1), (58, .iload_n 1, 1), (59, .ifCond .ne 30, 3), (62, .aload_n 0, 1), (63, .invokevirtual 314, 3), (66, .aload_n 0, 1), (67, .getfield 60, 3), (70, .iconst 3, 1), (71, .iaload, 1), (72, .bipush 40, 2), (74, .if_icmp .le 13, 3), (77, .aload_n 0, 1), (78, .bipush 7, 2), (80, .iconst 0, 1), (81, .invokevirtual 286, 3), (84, .goto 4, 3), (87, .iconst 0, 1), (88, .istore_n 1, 1), (89, .iload_n 1, 1), (90, .ireturn, 1)]
theorem nd_i173_ok : am_ic prog_14_method_54_code nd_i173 = true := by decide +kernel
def nd_s173 : List nm_S := [(305, 174, false, 1501), (308, 184, false, 1541), (311, 188, false, 1557), (286, 158, false, 1439), (314, 189, false, 1561)]
theorem nd_s173_ok : nd_s173.all (nm_schk nd_ct nd_ml "PaperParcelsModel") = true := by decide +kernel
theorem nd_ok173 : am_ok nm_Ts nm_Tn nd_cl nd_mt nd_fr nd_lo 173 (am_in nd_i173) (am_fl nd_f11) (am_ct nd_k11) (am_sl nd_ml nd_s173) := nm_ok (x := 173) (ini := false) rfl (by decide +kernel) nd_cok nd_i173_ok (by decide) nd_f11_ok nd_k11_ok nd_s173_ok (by decide +kernel)
-- PaperParcelsModel.elementFault(I)I
def nd_i174 : List (Nat × Instr × Nat) := [(0, .iconst 0, 1), (1, .istore_n 2, 1), (2, .iload_n 2, 1), (3, .aload_n 0, 1), (4, .getfield 32, 3), (7, .iload_n 1, 1), (8, .iaload, 1), (9, .if_icmp .ge 33, 3), (12, .aload_n 0, 1), (13, .iload_n 1, 1), (14, .iload_n 2, 1), (15, .invokevirtual 292, 3), (18, .istore_n 3, 1), (19, .iload_n 3, 1), (20, .ifCond .lt 16, 3), (23, .aload_n 0, 1), (24, .iconst 5, 1), (25, .sipush 1000, 3), (28, .iload_n 1, 1), (29, .imul, 1), (30, .iload_n 3, 1), (31, .iadd, 1), (32, .invokevirtual 286, 3), (35, .ireturn, 1), (36, .iinc 2 1, 3), (39, .goto (-37), 3), (42, .iconst 0, 1), (43, .ireturn, 1)]
theorem nd_i174_ok : am_ic prog_14_method_52_code nd_i174 = true := by decide +kernel
def nd_s174 : List nm_S := [(292, 175, false, 1505), (286, 158, false, 1439)]
theorem nd_s174_ok : nd_s174.all (nm_schk nd_ct nd_ml "PaperParcelsModel") = true := by decide +kernel
theorem nd_ok174 : am_ok nm_Ts nm_Tn nd_cl nd_mt nd_fr nd_lo 174 (am_in nd_i174) (am_fl nd_f11) (am_ct nd_k11) (am_sl nd_ml nd_s174) := nm_ok (x := 174) (ini := false) rfl (by decide +kernel) nd_cok nd_i174_ok (by decide) nd_f11_ok nd_k11_ok nd_s174_ok (by decide +kernel)
-- PaperParcelsModel.misfit(II)I
def nd_i175 : List (Nat × Instr × Nat) := [(0, .aload_n 0, 1), (1, .getfield 35, 3), (4, .bipush 30, 2), (6, .iload_n 1, 1), (7, .imul, 1), (8, .iload_n 2, 1), (9, .iadd, 1), (10, .iaload, 1), (11, .istore_n 3, 1), (12, .aload_n 0, 1), (13, .getfield 38, 3), (16, .bipush 30, 2), (18, .iload_n 1, 1), (19, .imul, 1), (20, .iload_n 2, 1), (21, .iadd, 1), (22, .iaload, 1), (23, .istore 4, 2), (25, .aload_n 0, 1), (26, .iload_n 1, 1), (27, .iload_n 2, 1), (28, .invokevirtual 227, 3), (31, .ifCond .ne 6, 3), (34, .iload 4, 2), (36, .ireturn, 1), (37, .aload_n 0, 1), (38, .iload_n 1, 1), (39, .iload_n 2, 1), (40, .invokevirtual 231, 3), (43, .istore 5, 2), (45, .iload 5, 2), (47, .ifCond .lt 6, 3), (50, .iload 5, 2), (52, .ireturn, 1), (53, .iload_n 3, 1), (54, .bipush 115, 2), (56, .if_icmp .ne 17, 3), (59, .aload_n 0, 1), (60, .iload_n 1, 1), (61, .iload_n 2, 1), (62, .bipush 110, 2), (64, .invokevirtual 234, 3), (67, .ifCond .ge 6, 3), (70, .iload 4, 2), (72, .ireturn, 1), (73, .iload_n 3, 1), (74, .bipush 112, 2), (76, .if_icmp .eq 9, 3), (79, .iload_n 3, 1), (80, .bipush 120, 2), (82, .if_icmp .ne 7, 3), (85, .iconst (-1), 1), (86, .goto 9, 3), (89, .aload_n 0, 1), (90, .iload_n 1, 1), (91, .iload_n 2, 1), (92, .invokevirtual 237, 3), (95, .istore 6, 2), (97, .iload 6, 2), (99, .ifCond .lt 6, 3), (102, .iload 6, 2), (104, .ireturn, 1), (105, .iload_n 3, 1), (106, .bipush 108, 2), (108, .if_icmp .ne 16, 3), (111, .aload_n 0, 1), (112, .iload_n 1, 1), (113, .iload_n 2, 1), (114, .bipush 105, 2), (116, .bipush 105, 2), (118, .invokevirtual 240, 3), (121, .ifCond .eq 22, 3), (124, .iload_n 3, 1), (125, .bipush 105, 2), (127, .if_icmp .ne 20, 3), (130, .aload_n 0, 1), (131, .iload_n 1, 1), (132, .iload_n 2, 1), (133, .bipush 112, 2), (135, .bipush 108, 2), (137, .invokevirtual 240, 3), (140, .ifCond .ne 7, 3), (143, .iconst 1, 1), (144, .goto 4, 3), (147, .iconst 0, 1), (148, .istore 7, 2), (150, .iload 7, 2), (152, .ifCond .eq 8, 3), (155, .iload 4, 2), (157, .goto 4, 3), (160, .iconst (-1), 1), (161, .ireturn, 1)]
theorem nd_i175_ok : am_ic prog_14_method_33_code nd_i175 = true := by decide +kernel
def nd_s175 : List nm_S := [(227, 176, false, 1509), (231, 178, false, 1517), (234, 181, false, 1529), (237, 182, false, 1533), (240, 183, false, 1537)]
theorem nd_s175_ok : nd_s175.all (nm_schk nd_ct nd_ml "PaperParcelsModel") = true := by decide +kernel
theorem nd_ok175 : am_ok nm_Ts nm_Tn nd_cl nd_mt nd_fr nd_lo 175 (am_in nd_i175) (am_fl nd_f11) (am_ct nd_k11) (am_sl nd_ml nd_s175) := nm_ok (x := 175) (ini := false) rfl (by decide +kernel) nd_cok nd_i175_ok (by decide) nd_f11_ok nd_k11_ok nd_s175_ok (by decide +kernel)
-- PaperParcelsModel.stands(II)Z
def nd_i176 : List (Nat × Instr × Nat) := [(0, .aload_n 0, 1), (1, .getfield 35, 3), (4, .bipush 30, 2), (6, .iload_n 1, 1), (7, .imul, 1), (8, .iload_n 2, 1), (9, .iadd, 1), (10, .iaload, 1), (11, .istore_n 3, 1), (12, .aload_n 0, 1), (13, .iload_n 1, 1), (14, .iload_n 2, 1), (15, .invokevirtual 217, 3), (18, .istore 4, 2), (20, .iload_n 1, 1), (21, .ifCond .ne 41, 3), (24, .iload 4, 2), (26, .ifCond .ne 17, 3), (29, .iload_n 3, 1), (30, .bipush 116, 2), (32, .if_icmp .ne 7, 3), (35, .iconst 1, 1), (36, .goto 25, 3), (39, .iconst 0, 1), (40, .goto 21, 3), (43, .iload 4, 2), (45, .bipush 116, 2), (47, .if_icmp .ne 13, 3), (50, .iload_n 3, 1), (51, .bipush 115, 2), (53, .if_icmp .ne 7, 3), (56, .iconst 1, 1), (57, .goto 4, 3), (60, .iconst 0, 1), (61, .ireturn, 1), (62, .iload 4, 2), (64, .ifCond .ne 15, 3), (67, .iload_n 3, 1), (68, .bipush 100, 2), (70, .if_icmp .ne 7, 3), (73, .iconst 1, 1), (74, .goto 4, 3), (77, .iconst 0, 1), (78, .ireturn, 1), (79, .iload_n 3, 1), (80, .bipush 112, 2), (82, .if_icmp .eq 9, 3), (85, .iload_n 3, 1), (86, .bipush 108, 2), (88, .if_icmp .ne 23, 3), (91, .iload 4, 2), (93, .bipush 100, 2), (95, .if_icmp .eq 10, 3), (98, .iload 4, 2), (100, .bipush 105, 2), (102, .if_icmp .ne 7, 3), (105, .iconst 1, 1), (106, .goto 4, 3), (109, .iconst 0, 1), (110, .ireturn, 1), (111, .iload_n 3, 1), (112, .bipush 105, 2), (114, .if_icmp .ne 18, 3), (117, .iload 4, 2), (119, .bipush 108, 2), (121, .if_icmp .ne 7, 3), (124, .iconst 1, 1), (125, .goto 32, 3), (128, .iconst 0, 1), (129, .goto 28, 3), (132, .iload_n 3, 1), (133, .bipush 120, 2), (135, .if_icmp .ne 21, 3), (138, .iload 4, 2), (140, .bipush 112, 2), (142, .if_icmp .eq 10, 3), (145, .iload 4, 2), (147, .bipush 120, 2), (149, .if_icmp .ne 7, 3), (152, .iconst 1, 1), (153, .goto 4, 3), (156, .iconst 0, 1), (157, .ireturn, 1)]
theorem nd_i176_ok : am_ic prog_14_method_26_code nd_i176 = true := by decide +kernel
def nd_s176 : List nm_S := [(217, 177, false, 1513)]
theorem nd_s176_ok : nd_s176.all (nm_schk nd_ct nd_ml "PaperParcelsModel") = true := by decide +kernel
theorem nd_ok176 : am_ok nm_Ts nm_Tn nd_cl nd_mt nd_fr nd_lo 176 (am_in nd_i176) (am_fl nd_f11) (am_ct nd_k11) (am_sl nd_ml nd_s176) := nm_ok (x := 176) (ini := false) rfl (by decide +kernel) nd_cok nd_i176_ok (by decide) nd_f11_ok nd_k11_ok nd_s176_ok (by decide +kernel)
-- PaperParcelsModel.kindOver(II)I
def nd_i177 : List (Nat × Instr × Nat) := [(0, .aload_n 0, 1), (1, .getfield 41, 3), (4, .bipush 30, 2), (6, .iload_n 1, 1), (7, .imul, 1), (8, .iload_n 2, 1), (9, .iadd, 1), (10, .iaload, 1), (11, .istore_n 3, 1), (12, .iload_n 3, 1), (13, .ifCond .ge 7, 3), (16, .iconst 0, 1), (17, .goto 14, 3), (20, .aload_n 0, 1), (21, .getfield 35, 3), (24, .bipush 30, 2), (26, .iload_n 1, 1), (27, .imul, 1), (28, .iload_n 3, 1), (29, .iadd, 1), (30, .iaload, 1), (31, .ireturn, 1)]
theorem nd_i177_ok : am_ic prog_14_method_25_code nd_i177 = true := by decide +kernel
def nd_s177 : List nm_S := []
theorem nd_s177_ok : nd_s177.all (nm_schk nd_ct nd_ml "PaperParcelsModel") = true := by decide +kernel
theorem nd_ok177 : am_ok nm_Ts nm_Tn nd_cl nd_mt nd_fr nd_lo 177 (am_in nd_i177) (am_fl nd_f11) (am_ct nd_k11) (am_sl nd_ml nd_s177) := nm_ok (x := 177) (ini := false) rfl (by decide +kernel) nd_cok nd_i177_ok (by decide) nd_f11_ok nd_k11_ok nd_s177_ok (by decide +kernel)
-- PaperParcelsModel.badAttribute(II)I
def nd_i178 : List (Nat × Instr × Nat) := [(0, .aload_n 0, 1), (1, .getfield 38, 3), (4, .bipush 30, 2), (6, .iload_n 1, 1), (7, .imul, 1), (8, .iload_n 2, 1), (9, .iadd, 1), (10, .iaload, 1), (11, .iconst 2, 1), (12, .iadd, 1), (13, .istore_n 3, 1), (14, .aload_n 0, 1), (15, .iload_n 1, 1), (16, .iload_n 3, 1), (17, .invokevirtual 192, 3), (20, .bipush 32, 2), (22, .if_icmp .ne 47, 3), (25, .aload_n 0, 1), (26, .iload_n 1, 1), (27, .iload_n 3, 1), (28, .iconst 4, 1), (29, .iadd, 1), (30, .invokevirtual 220, 3), (33, .istore 4, 2), (35, .aload_n 0, 1), (36, .iload_n 1, 1), (37, .iload_n 2, 1), (38, .aload_n 0, 1), (39, .iload_n 1, 1), (40, .iload_n 3, 1), (41, .iconst 1, 1), (42, .iadd, 1), (43, .invokevirtual 192, 3), (46, .iload_n 3, 1), (47, .iconst 4, 1), (48, .iadd, 1), (49, .iload 4, 2), (51, .invokevirtual 223, 3), (54, .ifCond .ne 7, 3), (57, .iload_n 3, 1), (58, .iconst 1, 1), (59, .iadd, 1), (60, .ireturn, 1), (61, .iload 4, 2), (63, .iconst 1, 1), (64, .iadd, 1), (65, .istore_n 3, 1), (66, .goto (-52), 3), (69, .iconst (-1), 1), (70, .ireturn, 1)]
theorem nd_i178_ok : am_ic prog_14_method_30_code nd_i178 = true := by decide +kernel
def nd_s178 : List nm_S := [(192, 165, false, 1468), (220, 179, false, 1521), (223, 180, false, 1525)]
theorem nd_s178_ok : nd_s178.all (nm_schk nd_ct nd_ml "PaperParcelsModel") = true := by decide +kernel
theorem nd_ok178 : am_ok nm_Ts nm_Tn nd_cl nd_mt nd_fr nd_lo 178 (am_in nd_i178) (am_fl nd_f11) (am_ct nd_k11) (am_sl nd_ml nd_s178) := nm_ok (x := 178) (ini := false) rfl (by decide +kernel) nd_cok nd_i178_ok (by decide) nd_f11_ok nd_k11_ok nd_s178_ok (by decide +kernel)
-- PaperParcelsModel.pastValue(II)I
def nd_i179 : List (Nat × Instr × Nat) := [(0, .iload_n 2, 1), (1, .istore_n 3, 1), (2, .aload_n 0, 1), (3, .iload_n 1, 1), (4, .iload_n 3, 1), (5, .invokevirtual 192, 3), (8, .bipush 34, 2), (10, .if_icmp .eq 9, 3), (13, .iinc 3 1, 3), (16, .goto (-14), 3), (19, .iload_n 3, 1), (20, .ireturn, 1)]
theorem nd_i179_ok : am_ic prog_14_method_29_code nd_i179 = true := by decide +kernel
def nd_s179 : List nm_S := [(192, 165, false, 1468)]
theorem nd_s179_ok : nd_s179.all (nm_schk nd_ct nd_ml "PaperParcelsModel") = true := by decide +kernel
theorem nd_ok179 : am_ok nm_Ts nm_Tn nd_cl nd_mt nd_fr nd_lo 179 (am_in nd_i179) (am_fl nd_f11) (am_ct nd_k11) (am_sl nd_ml nd_s179) := nm_ok (x := 179) (ini := false) rfl (by decide +kernel) nd_cok nd_i179_ok (by decide) nd_f11_ok nd_k11_ok nd_s179_ok (by decide +kernel)
-- PaperParcelsModel.may(IIIII)Z
def nd_i180 : List (Nat × Instr × Nat) := [(0, .aload_n 0, 1), (1, .getfield 35, 3), (4, .bipush 30, 2), (6, .iload_n 1, 1), (7, .imul, 1), (8, .iload_n 2, 1), (9, .iadd, 1), (10, .iaload, 1), (11, .istore 6, 2), (13, .aload_n 0, 1), (14, .iload_n 1, 1), (15, .iload 4, 2), (17, .invokevirtual 192, 3), (20, .istore 7, 2), (22, .iload 5, 2), (24, .iload 4, 2), (26, .isub, 1), (27, .iconst 1, 1), (28, .if_icmp .ne 7, 3), (31, .iconst 1, 1), (32, .goto 4, 3), (35, .iconst 0, 1), (36, .istore 8, 2), (38, .iload_n 1, 1), (39, .iconst 1, 1), (40, .if_icmp .ne 42, 3), (43, .iload 6, 2), (45, .bipush 112, 2), (47, .if_icmp .eq 10, 3), (50, .iload 6, 2), (52, .bipush 120, 2), (54, .if_icmp .ne 26, 3), (57, .iload_n 3, 1), (58, .bipush 121, 2), (60, .if_icmp .ne 20, 3), (63, .iload 8, 2), (65, .ifCond .eq 15, 3), (68, .iload 7, 2), (70, .invokestatic 179, 3), (73, .ifCond .eq 7, 3), (76, .iconst 1, 1), (77, .goto 4, 3), (80, .iconst 0, 1), (81, .ireturn, 1), (82, .iload 6, 2), (84, .bipush 115, 2), (86, .if_icmp .eq 5, 3), (89, .iconst 0, 1), (90, .ireturn, 1), (91, .iload_n 3, 1), (92, .bipush 110, 2), (94, .if_icmp .eq 9, 3), (97, .iload_n 3, 1), (98, .bipush 102, 2), (100, .if_icmp .ne 22, 3), (103, .iload 8, 2), (105, .ifCond .eq 15, 3), (108, .iload 7, 2), (110, .invokestatic 179, 3), (113, .ifCond .eq 7, 3), (116, .iconst 1, 1), (117, .goto 4, 3), (120, .iconst 0, 1), (121, .ireturn, 1), (122, .iload_n 3, 1), (123, .bipush 98, 2), (125, .if_icmp .ne 28, 3), (128, .iload 8, 2), (130, .ifCond .eq 21, 3), (133, .iload 7, 2), (135, .bipush 48, 2), (137, .if_icmp .eq 10, 3), (140, .iload 7, 2), (142, .bipush 49, 2), (144, .if_icmp .ne 7, 3), (147, .iconst 1, 1), (148, .goto 4, 3), (151, .iconst 0, 1), (152, .ireturn, 1), (153, .iload_n 3, 1), (154, .bipush 122, 2), (156, .if_icmp .ne 53, 3), (159, .iload 7, 2), (161, .invokestatic 158, 3), (164, .ifCond .eq 43, 3), (167, .iload 7, 2), (169, .bipush 48, 2), (171, .if_icmp .eq 36, 3), (174, .iload 8, 2), (176, .ifCond .ne 27, 3), (179, .iload 5, 2), (181, .iload 4, 2), (183, .isub, 1), (184, .iconst 2, 1), (185, .if_icmp .ne 22, 3), (188, .aload_n 0, 1), (189, .iload_n 1, 1), (190, .iload 4, 2), (192, .iconst 1, 1), (193, .iadd, 1), (194, .invokevirtual 192, 3), (197, .invokestatic 158, 3), (200, .ifCond .eq 7, 3), (203, .iconst 1, 1), (204, .goto 4, 3), (207, .iconst 0, 1), (208, .ireturn, 1), (209, .iload_n 3, 1), (210, .bipush 107, 2), (212, .if_icmp .ne 20, 3), (215, .iload 8, 2), (217, .ifCond .eq 15, 3), (220, .iload 7, 2), (222, .invokestatic 158, 3), (225, .ifCond .eq 7, 3), (228, .iconst 1, 1), (229, .goto 4, 3), (232, .iconst 0, 1), (233, .ireturn, 1)]
theorem nd_i180_ok : am_ic prog_14_method_27_code nd_i180 = true := by decide +kernel
def nd_s180 : List nm_S := [(192, 165, false, 1468), (179, 172, false, 1494), (158, 156, false, 1433)]
theorem nd_s180_ok : nd_s180.all (nm_schk nd_ct nd_ml "PaperParcelsModel") = true := by decide +kernel
theorem nd_ok180 : am_ok nm_Ts nm_Tn nd_cl nd_mt nd_fr nd_lo 180 (am_in nd_i180) (am_fl nd_f11) (am_ct nd_k11) (am_sl nd_ml nd_s180) := nm_ok (x := 180) (ini := false) rfl (by decide +kernel) nd_cok nd_i180_ok (by decide) nd_f11_ok nd_k11_ok nd_s180_ok (by decide +kernel)
-- PaperParcelsModel.valueAt(III)I
def nd_i181 : List (Nat × Instr × Nat) := [(0, .aload_n 0, 1), (1, .getfield 38, 3), (4, .bipush 30, 2), (6, .iload_n 1, 1), (7, .imul, 1), (8, .iload_n 2, 1), (9, .iadd, 1), (10, .iaload, 1), (11, .iconst 2, 1), (12, .iadd, 1), (13, .istore 4, 2), (15, .iconst (-1), 1), (16, .istore 5, 2), (18, .aload_n 0, 1), (19, .iload_n 1, 1), (20, .iload 4, 2), (22, .invokevirtual 192, 3), (25, .bipush 32, 2), (27, .if_icmp .ne 43, 3), (30, .aload_n 0, 1), (31, .iload_n 1, 1), (32, .iload 4, 2), (34, .iconst 1, 1), (35, .iadd, 1), (36, .invokevirtual 192, 3), (39, .iload_n 3, 1), (40, .if_icmp .ne 10, 3), (43, .iload 4, 2), (45, .iconst 4, 1), (46, .iadd, 1), (47, .goto 5, 3), (50, .iload 5, 2), (52, .istore 5, 2), (54, .aload_n 0, 1), (55, .iload_n 1, 1), (56, .iload 4, 2), (58, .iconst 4, 1), (59, .iadd, 1), (60, .invokevirtual 220, 3), (63, .iconst 1, 1), (64, .iadd, 1), (65, .istore 4, 2), (67, .goto (-49), 3), (70, .iload 5, 2), (72, .ireturn, 1)]
theorem nd_i181_ok : am_ic prog_14_method_28_code nd_i181 = true := by decide +kernel
def nd_s181 : List nm_S := [(192, 165, false, 1468), (220, 179, false, 1521)]
theorem nd_s181_ok : nd_s181.all (nm_schk nd_ct nd_ml "PaperParcelsModel") = true := by decide +kernel
theorem nd_ok181 : am_ok nm_Ts nm_Tn nd_cl nd_mt nd_fr nd_lo 181 (am_in nd_i181) (am_fl nd_f11) (am_ct nd_k11) (am_sl nd_ml nd_s181) := nm_ok (x := 181) (ini := false) rfl (by decide +kernel) nd_cok nd_i181_ok (by decide) nd_f11_ok nd_k11_ok nd_s181_ok (by decide +kernel)
-- PaperParcelsModel.firstLetter(II)I
def nd_i182 : List (Nat × Instr × Nat) := [(0, .iconst 0, 1), (1, .istore_n 3, 1), (2, .iload_n 3, 1), (3, .aload_n 0, 1), (4, .getfield 29, 3), (7, .iload_n 1, 1), (8, .iaload, 1), (9, .if_icmp .ge 27, 3), (12, .aload_n 0, 1), (13, .getfield 44, 3), (16, .sipush 300, 3), (19, .iload_n 1, 1), (20, .imul, 1), (21, .iload_n 3, 1), (22, .iadd, 1), (23, .iaload, 1), (24, .iload_n 2, 1), (25, .if_icmp .ne 5, 3), (28, .iload_n 3, 1), (29, .ireturn, 1), (30, .iinc 3 1, 3), (33, .goto (-31), 3), (36, .iconst (-1), 1), (37, .ireturn, 1)]
theorem nd_i182_ok : am_ic prog_14_method_31_code nd_i182 = true := by decide +kernel
def nd_s182 : List nm_S := []
theorem nd_s182_ok : nd_s182.all (nm_schk nd_ct nd_ml "PaperParcelsModel") = true := by decide +kernel
theorem nd_ok182 : am_ok nm_Ts nm_Tn nd_cl nd_mt nd_fr nd_lo 182 (am_in nd_i182) (am_fl nd_f11) (am_ct nd_k11) (am_sl nd_ml nd_s182) := nm_ok (x := 182) (ini := false) rfl (by decide +kernel) nd_cok nd_i182_ok (by decide) nd_f11_ok nd_k11_ok nd_s182_ok (by decide +kernel)
-- PaperParcelsModel.has(IIII)Z
def nd_i183 : List (Nat × Instr × Nat) := [(0, .iconst 0, 1), (1, .istore 5, 2), (3, .iload_n 2, 1), (4, .iconst 1, 1), (5, .iadd, 1), (6, .istore 6, 2), (8, .iload 6, 2), (10, .aload_n 0, 1), (11, .getfield 32, 3), (14, .iload_n 1, 1), (15, .iaload, 1), (16, .if_icmp .ge 64, 3), (19, .aload_n 0, 1), (20, .getfield 35, 3), (23, .bipush 30, 2), (25, .iload_n 1, 1), (26, .imul, 1), (27, .iload 6, 2), (29, .iadd, 1), (30, .iaload, 1), (31, .istore 7, 2), (33, .iload 5, 2), (35, .ifCond .ne 32, 3), (38, .aload_n 0, 1), (39, .getfield 41, 3), (42, .bipush 30, 2), (44, .iload_n 1, 1), (45, .imul, 1), (46, .iload 6, 2), (48, .iadd, 1), (49, .iaload, 1), (50, .iload_n 2, 1), (51, .if_icmp .ne 20, 3), (54, .iload 7, 2), (56, .iload_n 3, 1), (57, .if_icmp .eq 10, 3), (60, .iload 7, 2), (62, .iload 4, 2), (64, .if_icmp .ne 7, 3), (67, .iconst 1, 1), (68, .goto 4, 3), (71, .iconst 0, 1), (72, .istore 5, 2), (74, .iinc 6 1, 3), (77, .goto (-69), 3), (80, .iload 5, 2), (82, .ireturn, 1)]
theorem nd_i183_ok : am_ic prog_14_method_32_code nd_i183 = true := by decide +kernel
def nd_s183 : List nm_S := []
theorem nd_s183_ok : nd_s183.all (nm_schk nd_ct nd_ml "PaperParcelsModel") = true := by decide +kernel
theorem nd_ok183 : am_ok nm_Ts nm_Tn nd_cl nd_mt nd_fr nd_lo 183 (am_in nd_i183) (am_fl nd_f11) (am_ct nd_k11) (am_sl nd_ml nd_s183) := nm_ok (x := 183) (ini := false) rfl (by decide +kernel) nd_cok nd_i183_ok (by decide) nd_f11_ok nd_k11_ok nd_s183_ok (by decide +kernel)
-- PaperParcelsModel.noteStyles()I
def nd_i184 : List (Nat × Instr × Nat) := [(0, .iconst 0, 1), (1, .istore_n 1, 1), (2, .iload_n 1, 1), (3, .bipush 26, 2), (5, .if_icmp .ge 16, 3), (8, .aload_n 0, 1), (9, .getfield 50, 3), (12, .iload_n 1, 1), (13, .iconst 0, 1), (14, .bastore, 1), (15, .iinc 1 1, 3), (18, .goto (-16), 3), (21, .iconst 1, 1), (22, .istore_n 1, 1), (23, .iload_n 1, 1), (24, .aload_n 0, 1), (25, .getfield 32, 3), (28, .iconst 0, 1), (29, .iaload, 1), (30, .if_icmp .ge 104, 3), (33, .aload_n 0, 1), (34, .iconst 0, 1), (35, .iload_n 1, 1), (36, .bipush 110, 2), (38, .invokevirtual 244, 3), (41, .istore_n 2, 1), (42, .aload_n 0, 1), (43, .getfield 50, 3), (46, .iload_n 2, 1), (47, .baload, 1), (48, .ifCond .eq 10, 3), (51, .aload_n 0, 1), (52, .getfield 38, 3), (55, .iload_n 1, 1), (56, .iaload, 1), (57, .ireturn, 1), (58, .aload_n 0, 1), (59, .getfield 50, 3), (62, .iload_n 2, 1), (63, .iconst 1, 1), (64, .bastore, 1), (65, .aload_n 0, 1), (66, .getfield 54, 3), (69, .iload_n 2, 1), (70, .aload_n 0, 1), (71, .iconst 0, 1), (72, .iload_n 1, 1), (73, .bipush 102, 2), (75, .invokevirtual 244, 3), (78, .iastore, 1), (79, .aload_n 0, 1), (80, .getfield 57, 3), (83, .iconst 3, 1), (84, .iload_n 2, 1), (85, .imul, 1), (86, .aload_n 0, 1), (87, .iload_n 1, 1), (88, .bipush 98, 2), (90, .invokevirtual 247, 3), (93, .iastore, 1), (94, .aload_n 0, 1), (95, .getfield 57, 3), (98, .iconst 3, 1), (99, .iload_n 2, 1), (100, .imul, 1), (101, .iconst 1, 1), (102, .iadd, 1), (103, .aload_n 0, 1), (104, .iload_n 1, 1), (105, .bipush 122, 2), (107, .invokevirtual 247, 3), (110, .iastore, 1), (111, .aload_n 0, 1), (112, .getfield 57, 3), (115, .iconst 3, 1), (116, .iload_n 2, 1), (117, .imul, 1), (118, .iconst 2, 1), (119, .iadd, 1), (120, .aload_n 0, 1), (121, .iload_n 1, 1), (122, .bipush 107, 2), (124, .invokevirtual 247, 3), (127, .iastore, 1), (128, .iinc 1 1, 3), (131, .goto (-108), 3), (134, .iconst 1, 1), (135, .istore_n 1, 1), (136, .iload_n 1, 1), (137, .aload_n 0, 1), (138, .getfield 32, 3), (141, .iconst 0, 1), (142, .iaload, 1), (143, .if_icmp .ge 38, 3), (146, .aload_n 0, 1), (147, .iconst 0, 1), (148, .iload_n 1, 1), (149, .bipush 102, 2), (151, .invokevirtual 244, 3), (154, .istore_n 2, 1), (155, .iload_n 2, 1), (156, .ifCond .lt 19, 3), (159, .aload_n 0, 1), (160, .getfield 50, 3), (163, .iload_n 2, 1), (164, .baload, 1), (165, .ifCond .ne 10, 3), (168, .aload_n 0, 1), (169, .getfield 38, 3), (172, .iload_n 1, 1), (173, .iaload, 1), (174, .ireturn, 1), (175, .iinc 1 1, 3), (178, .goto (-42), 3), (181, .iconst 1, 1), (182, .istore_n 1, 1), (183, .iload_n 1, 1), (184, .aload_n 0, 1), (185, .getfield 32, 3), (188, .iconst 0, 1), (189, .iaload, 1), (190, .if_icmp .ge 31, 3), (193, .aload_n 0, 1), (194, .aload_n 0, 1), (195, .iconst 0, 1), (196, .iload_n 1, 1), (197, .bipush 110, 2), (199, .invokevirtual 244, 3), (202, .invokevirtual 250, 3), (205, .ifCond .ne 10, 3), (208, .aload_n 0, 1), (209, .getfield 38, 3), (212, .iload_n 1, 1), (213, .iaload, 1), (214, .ireturn, 1), (215, .iinc 1 1, 3), (218, .goto (-35), 3), (221, .iconst (-1), 1), (222, .ireturn, 1)]
theorem nd_i184_ok : am_ic prog_14_method_37_code nd_i184 = true := by decide +kernel
def nd_s184 : List nm_S := [(244, 185, false, 1545), (247, 186, false, 1549), (250, 187, false, 1553)]
theorem nd_s184_ok : nd_s184.all (nm_schk nd_ct nd_ml "PaperParcelsModel") = true := by decide +kernel
theorem nd_ok184 : am_ok nm_Ts nm_Tn nd_cl nd_mt nd_fr nd_lo 184 (am_in nd_i184) (am_fl nd_f11) (am_ct nd_k11) (am_sl nd_ml nd_s184) := nm_ok (x := 184) (ini := false) rfl (by decide +kernel) nd_cok nd_i184_ok (by decide) nd_f11_ok nd_k11_ok nd_s184_ok (by decide +kernel)
-- PaperParcelsModel.capital(III)I
def nd_i185 : List (Nat × Instr × Nat) := [(0, .aload_n 0, 1), (1, .iload_n 1, 1), (2, .iload_n 2, 1), (3, .iload_n 3, 1), (4, .invokevirtual 234, 3), (7, .istore 4, 2), (9, .iload 4, 2), (11, .ifCond .ge 7, 3), (14, .iconst (-1), 1), (15, .goto 13, 3), (18, .aload_n 0, 1), (19, .iload_n 1, 1), (20, .iload 4, 2), (22, .invokevirtual 192, 3), (25, .bipush 65, 2), (27, .isub, 1), (28, .ireturn, 1)]
theorem nd_i185_ok : am_ic prog_14_method_34_code nd_i185 = true := by decide +kernel
def nd_s185 : List nm_S := [(234, 181, false, 1529), (192, 165, false, 1468)]
theorem nd_s185_ok : nd_s185.all (nm_schk nd_ct nd_ml "PaperParcelsModel") = true := by decide +kernel
theorem nd_ok185 : am_ok nm_Ts nm_Tn nd_cl nd_mt nd_fr nd_lo 185 (am_in nd_i185) (am_fl nd_f11) (am_ct nd_k11) (am_sl nd_ml nd_s185) := nm_ok (x := 185) (ini := false) rfl (by decide +kernel) nd_cok nd_i185_ok (by decide) nd_f11_ok nd_k11_ok nd_s185_ok (by decide +kernel)
-- PaperParcelsModel.number(II)I
def nd_i186 : List (Nat × Instr × Nat) := [(0, .aload_n 0, 1), (1, .iconst 0, 1), (2, .iload_n 1, 1), (3, .iload_n 2, 1), (4, .invokevirtual 234, 3), (7, .istore_n 3, 1), (8, .iload_n 3, 1), (9, .ifCond .ge 5, 3), (12, .iconst (-1), 1), (13, .ireturn, 1), (14, .aload_n 0, 1), (15, .iconst 0, 1), (16, .iload_n 3, 1), (17, .invokevirtual 192, 3), (20, .bipush 48, 2), (22, .isub, 1), (23, .istore 4, 2), (25, .aload_n 0, 1), (26, .iconst 0, 1), (27, .iload_n 3, 1), (28, .iconst 1, 1), (29, .iadd, 1), (30, .invokevirtual 192, 3), (33, .invokestatic 158, 3), (36, .ifCond .eq 23, 3), (39, .bipush 10, 2), (41, .iload 4, 2), (43, .imul, 1), (44, .aload_n 0, 1), (45, .iconst 0, 1), (46, .iload_n 3, 1), (47, .iconst 1, 1), (48, .iadd, 1), (49, .invokevirtual 192, 3), (52, .iadd, 1), (53, .bipush 48, 2), (55, .isub, 1), (56, .goto 5, 3), (59, .iload 4, 2), (61, .ireturn, 1)]
theorem nd_i186_ok : am_ic prog_14_method_35_code nd_i186 = true := by decide +kernel
def nd_s186 : List nm_S := [(234, 181, false, 1529), (192, 165, false, 1468), (158, 156, false, 1433)]
theorem nd_s186_ok : nd_s186.all (nm_schk nd_ct nd_ml "PaperParcelsModel") = true := by decide +kernel
theorem nd_ok186 : am_ok nm_Ts nm_Tn nd_cl nd_mt nd_fr nd_lo 186 (am_in nd_i186) (am_fl nd_f11) (am_ct nd_k11) (am_sl nd_ml nd_s186) := nm_ok (x := 186) (ini := false) rfl (by decide +kernel) nd_cok nd_i186_ok (by decide) nd_f11_ok nd_k11_ok nd_s186_ok (by decide +kernel)
-- PaperParcelsModel.ends(I)Z
def nd_i187 : List (Nat × Instr × Nat) := [(0, .iload_n 1, 1), (1, .istore_n 2, 1), (2, .iconst 0, 1), (3, .istore_n 3, 1), (4, .iload_n 3, 1), (5, .bipush 27, 2), (7, .if_icmp .ge 20, 3), (10, .iload_n 2, 1), (11, .ifCond .lt 16, 3), (14, .aload_n 0, 1), (15, .getfield 54, 3), (18, .iload_n 2, 1), (19, .iaload, 1), (20, .istore_n 2, 1), (21, .iinc 3 1, 3), (24, .goto (-20), 3), (27, .iload_n 2, 1), (28, .ifCond .ge 7, 3), (31, .iconst 1, 1), (32, .goto 4, 3), (35, .iconst 0, 1), (36, .ireturn, 1)]
theorem nd_i187_ok : am_ic prog_14_method_36_code nd_i187 = true := by decide +kernel
def nd_s187 : List nm_S := []
theorem nd_s187_ok : nd_s187.all (nm_schk nd_ct nd_ml "PaperParcelsModel") = true := by decide +kernel
theorem nd_ok187 : am_ok nm_Ts nm_Tn nd_cl nd_mt nd_fr nd_lo 187 (am_in nd_i187) (am_fl nd_f11) (am_ct nd_k11) (am_sl nd_ml nd_s187) := nm_ok (x := 187) (ini := false) rfl (by decide +kernel) nd_cok nd_i187_ok (by decide) nd_f11_ok nd_k11_ok nd_s187_ok (by decide +kernel)
-- PaperParcelsModel.unknownStyle()I
def nd_i188 : List (Nat × Instr × Nat) := [(0, .iconst 0, 1), (1, .istore_n 1, 1), (2, .iload_n 1, 1), (3, .aload_n 0, 1), (4, .getfield 32, 3), (7, .iconst 1, 1), (8, .iaload, 1), (9, .if_icmp .ge 45, 3), (12, .aload_n 0, 1), (13, .iconst 1, 1), (14, .iload_n 1, 1), (15, .bipush 121, 2), (17, .invokevirtual 244, 3), (20, .istore_n 2, 1), (21, .iload_n 2, 1), (22, .ifCond .lt 26, 3), (25, .aload_n 0, 1), (26, .getfield 50, 3), (29, .iload_n 2, 1), (30, .baload, 1), (31, .ifCond .ne 17, 3), (34, .sipush 1000, 3), (37, .aload_n 0, 1), (38, .getfield 38, 3), (41, .bipush 30, 2), (43, .iload_n 1, 1), (44, .iadd, 1), (45, .iaload, 1), (46, .iadd, 1), (47, .ireturn, 1), (48, .iinc 1 1, 3), (51, .goto (-49), 3), (54, .iconst (-1), 1), (55, .ireturn, 1)]
theorem nd_i188_ok : am_ic prog_14_method_38_code nd_i188 = true := by decide +kernel
def nd_s188 : List nm_S := [(244, 185, false, 1545)]
theorem nd_s188_ok : nd_s188.all (nm_schk nd_ct nd_ml "PaperParcelsModel") = true := by decide +kernel
theorem nd_ok188 : am_ok nm_Ts nm_Tn nd_cl nd_mt nd_fr nd_lo 188 (am_in nd_i188) (am_fl nd_f11) (am_ct nd_k11) (am_sl nd_ml nd_s188) := nm_ok (x := 188) (ini := false) rfl (by decide +kernel) nd_cok nd_i188_ok (by decide) nd_f11_ok nd_k11_ok nd_s188_ok (by decide +kernel)
-- PaperParcelsModel.form()V
def nd_i189 : List (Nat × Instr × Nat) := [(0, .aload_n 0, 1), (1, .getfield 60, 3), (4, .iconst 3, 1), (5, .iconst 0, 1), (6, .iastore, 1), (7, .aload_n 0, 1), (8, .getfield 78, 3), (11, .iconst 3, 1), (12, .iconst 0, 1), (13, .iastore, 1), (14, .iconst 0, 1), (15, .istore_n 1, 1), (16, .iload_n 1, 1), (17, .aload_n 0, 1), (18, .getfield 32, 3), (21, .iconst 1, 1), (22, .iaload, 1), (23, .if_icmp .ge 116, 3), (26, .aload_n 0, 1), (27, .getfield 35, 3), (30, .bipush 30, 2), (32, .iload_n 1, 1), (33, .iadd, 1), (34, .iaload, 1), (35, .istore_n 2, 1), (36, .iload_n 2, 1), (37, .bipush 120, 2), (39, .if_icmp .eq 94, 3), (42, .aload_n 0, 1), (43, .getfield 84, 3), (46, .iload_n 1, 1), (47, .aload_n 0, 1), (48, .getfield 60, 3), (51, .iconst 3, 1), (52, .iaload, 1), (53, .iastore, 1), (54, .aload_n 0, 1), (55, .getfield 41, 3), (58, .bipush 30, 2), (60, .iload_n 1, 1), (61, .iadd, 1), (62, .iaload, 1), (63, .ifCond .ge 7, 3), (66, .iconst (-1), 1), (67, .goto 17, 3), (70, .aload_n 0, 1), (71, .getfield 84, 3), (74, .aload_n 0, 1), (75, .getfield 41, 3), (78, .bipush 30, 2), (80, .iload_n 1, 1), (81, .iadd, 1), (82, .iaload, 1), (83, .iaload, 1), (84, .istore_n 3, 1), (85, .aload_n 0, 1), (86, .iconst 3, 1), (87, .iload_n 2, 1), (88, .bipush 100, 2), (90, .if_icmp .ne 7, 3), (93, .iconst 0, 1), (94, .goto 24, 3), (97, .iload_n 2, 1), (98, .bipush 112, 2), (100, .if_icmp .ne 7, 3), (103, .iconst 1, 1), (104, .goto 14, 3), (107, .iload_n 2, 1), (108, .bipush 108, 2), (110, .if_icmp .ne 7, 3), (113, .iconst 3, 1), (114, .goto 4, 3), (117, .iconst 4, 1), (118, .iload_n 3, 1), (119, .invokevirtual 269, 3), (122, .iload_n 2, 1), (123, .bipush 112, 2), (125, .if_icmp .ne 8, 3), (128, .aload_n 0, 1), (129, .iload_n 1, 1), (130, .invokevirtual 276, 3), (133, .iinc 1 1, 3), (136, .goto (-120), 3), (139, .return_, 1)]
theorem nd_i189_ok : am_ic prog_14_method_47_code nd_i189 = true := by decide +kernel
def nd_s189 : List nm_S := [(269, 190, false, 1565), (276, 191, false, 1569)]
theorem nd_s189_ok : nd_s189.all (nm_schk nd_ct nd_ml "PaperParcelsModel") = true := by decide +kernel
theorem nd_ok189 : am_ok nm_Ts nm_Tn nd_cl nd_mt nd_fr nd_lo 189 (am_in nd_i189) (am_fl nd_f11) (am_ct nd_k11) (am_sl nd_ml nd_s189) := nm_ok (x := 189) (ini := false) rfl (by decide +kernel) nd_cok nd_i189_ok (by decide) nd_f11_ok nd_k11_ok nd_s189_ok (by decide +kernel)
-- PaperParcelsModel.addNode(III)V
def nd_i190 : List (Nat × Instr × Nat) := [(0, .bipush 100, 2), (2, .iload_n 1, 1), (3, .imul, 1), (4, .aload_n 0, 1), (5, .getfield 60, 3), (8, .iload_n 1, 1), (9, .iaload, 1), (10, .iadd, 1), (11, .istore 4, 2), (13, .aload_n 0, 1), (14, .getfield 63, 3), (17, .iload 4, 2), (19, .iload_n 2, 1), (20, .iastore, 1), (21, .aload_n 0, 1), (22, .getfield 66, 3), (25, .iload 4, 2), (27, .iload_n 3, 1), (28, .iastore, 1), (29, .aload_n 0, 1), (30, .getfield 72, 3), (33, .iload 4, 2), (35, .aload_n 0, 1), (36, .getfield 78, 3), (39, .iload_n 1, 1), (40, .iaload, 1), (41, .iastore, 1), (42, .aload_n 0, 1), (43, .getfield 75, 3), (46, .iload 4, 2), (48, .iconst 0, 1), (49, .iastore, 1), (50, .iconst 0, 1), (51, .istore 5, 2), (53, .iload 5, 2), (55, .iconst 3, 1), (56, .if_icmp .ge 22, 3), (59, .aload_n 0, 1), (60, .getfield 69, 3), (63, .iconst 3, 1), (64, .iload 4, 2), (66, .imul, 1), (67, .iload 5, 2), (69, .iadd, 1), (70, .iconst (-1), 1), (71, .iastore, 1), (72, .iinc 5 1, 3), (75, .goto (-22), 3), (78, .aload_n 0, 1), (79, .getfield 60, 3), (82, .iload_n 1, 1), (83, .dup2, 1), (84, .iaload, 1), (85, .iconst 1, 1), (86, .iadd, 1), (87, .iastore, 1), (88, .return_, 1)]
theorem nd_i190_ok : am_ic prog_14_method_41_code nd_i190 = true := by decide +kernel
def nd_s190 : List nm_S := []
theorem nd_s190_ok : nd_s190.all (nm_schk nd_ct nd_ml "PaperParcelsModel") = true := by decide +kernel
theorem nd_ok190 : am_ok nm_Ts nm_Tn nd_cl nd_mt nd_fr nd_lo 190 (am_in nd_i190) (am_fl nd_f11) (am_ct nd_k11) (am_sl nd_ml nd_s190) := nm_ok (x := 190) (ini := false) rfl (by decide +kernel) nd_cok nd_i190_ok (by decide) nd_f11_ok nd_k11_ok nd_s190_ok (by decide +kernel)
-- PaperParcelsModel.formParagraph(I)V
def nd_i191 : List (Nat × Instr × Nat) := [(0, .aload_n 0, 1), (1, .getfield 60, 3), (4, .iconst 3, 1), (5, .iaload, 1), (6, .istore_n 2, 1), (7, .aload_n 0, 1), (8, .sipush 300, 3), (11, .iload_n 2, 1), (12, .iadd, 1), (13, .iconst 1, 1), (14, .isub, 1), (15, .iload_n 1, 1), (16, .invokevirtual 259, 3), (19, .iconst 0, 1), (20, .istore_n 3, 1), (21, .iload_n 3, 1), (22, .aload_n 0, 1), (23, .getfield 29, 3), (26, .iconst 1, 1), (27, .iaload, 1), (28, .if_icmp .ge 106, 3), (31, .aload_n 0, 1), (32, .getfield 44, 3), (35, .sipush 300, 3), (38, .iload_n 3, 1), (39, .iadd, 1), (40, .iaload, 1), (41, .istore 4, 2), (43, .iload 4, 2), (45, .ifCond .lt 83, 3), (48, .aload_n 0, 1), (49, .iload 4, 2), (51, .invokevirtual 263, 3), (54, .iload_n 1, 1), (55, .if_icmp .ne 73, 3), (58, .sipush 300, 3), (61, .aload_n 0, 1), (62, .getfield 60, 3), (65, .iconst 3, 1), (66, .iaload, 1), (67, .iadd, 1), (68, .iconst 1, 1), (69, .isub, 1), (70, .istore 5, 2), (72, .aload_n 0, 1), (73, .getfield 63, 3), (76, .iload 5, 2), (78, .iaload, 1), (79, .iconst 2, 1), (80, .if_icmp .ne 14, 3), (83, .aload_n 0, 1), (84, .iload 5, 2), (86, .iload 4, 2), (88, .invokevirtual 266, 3), (91, .ifCond .ne 22, 3), (94, .aload_n 0, 1), (95, .iconst 3, 1), (96, .iconst 2, 1), (97, .iload_n 2, 1), (98, .iconst 1, 1), (99, .isub, 1), (100, .invokevirtual 269, 3), (103, .aload_n 0, 1), (104, .iload 5, 2), (106, .iconst 1, 1), (107, .iadd, 1), (108, .iload 4, 2), (110, .invokevirtual 259, 3), (113, .aload_n 0, 1), (114, .iconst 3, 1), (115, .aload_n 0, 1), (116, .getfield 26, 3), (119, .sipush 300, 3), (122, .iload_n 3, 1), (123, .iadd, 1), (124, .iaload, 1), (125, .invokevirtual 273, 3), (128, .iinc 3 1, 3), (131, .goto (-110), 3), (134, .return_, 1)]
theorem nd_i191_ok : am_ic prog_14_method_46_code nd_i191 = true := by decide +kernel
def nd_s191 : List nm_S := [(259, 192, false, 1573), (263, 195, false, 1585), (266, 196, false, 1589), (269, 190, false, 1565), (273, 197, false, 1593)]
theorem nd_s191_ok : nd_s191.all (nm_schk nd_ct nd_ml "PaperParcelsModel") = true := by decide +kernel
theorem nd_ok191 : am_ok nm_Ts nm_Tn nd_cl nd_mt nd_fr nd_lo 191 (am_in nd_i191) (am_fl nd_f11) (am_ct nd_k11) (am_sl nd_ml nd_s191) := nm_ok (x := 191) (ini := false) rfl (by decide +kernel) nd_cok nd_i191_ok (by decide) nd_f11_ok nd_k11_ok nd_s191_ok (by decide +kernel)
-- PaperParcelsModel.giveLook(II)V
def nd_i192 : List (Nat × Instr × Nat) := [(0, .iconst 0, 1), (1, .istore_n 3, 1), (2, .iload_n 3, 1), (3, .iconst 3, 1), (4, .if_icmp .ge 25, 3), (7, .aload_n 0, 1), (8, .getfield 69, 3), (11, .iconst 3, 1), (12, .iload_n 1, 1), (13, .imul, 1), (14, .iload_n 3, 1), (15, .iadd, 1), (16, .aload_n 0, 1), (17, .iload_n 2, 1), (18, .iload_n 3, 1), (19, .invokevirtual 256, 3), (22, .iastore, 1), (23, .iinc 3 1, 3), (26, .goto (-24), 3), (29, .return_, 1)]
theorem nd_i192_ok : am_ic prog_14_method_45_code nd_i192 = true := by decide +kernel
def nd_s192 : List nm_S := [(256, 193, false, 1577)]
theorem nd_s192_ok : nd_s192.all (nm_schk nd_ct nd_ml "PaperParcelsModel") = true := by decide +kernel
theorem nd_ok192 : am_ok nm_Ts nm_Tn nd_cl nd_mt nd_fr nd_lo 192 (am_in nd_i192) (am_fl nd_f11) (am_ct nd_k11) (am_sl nd_ml nd_s192) := nm_ok (x := 192) (ini := false) rfl (by decide +kernel) nd_cok nd_i192_ok (by decide) nd_f11_ok nd_k11_ok nd_s192_ok (by decide +kernel)
-- PaperParcelsModel.lookOf(II)I
def nd_i193 : List (Nat × Instr × Nat) := [(0, .iload_n 1, 1), (1, .istore_n 3, 1), (2, .iconst (-1), 1), (3, .istore 4, 2), (5, .iload 4, 2), (7, .ifCond .ge 76, 3), (10, .iload_n 3, 1), (11, .ifCond .lt 72, 3), (14, .aload_n 0, 1), (15, .getfield 35, 3), (18, .bipush 30, 2), (20, .iload_n 3, 1), (21, .iadd, 1), (22, .iaload, 1), (23, .bipush 112, 2), (25, .if_icmp .eq 17, 3), (28, .aload_n 0, 1), (29, .getfield 35, 3), (32, .bipush 30, 2), (34, .iload_n 3, 1), (35, .iadd, 1), (36, .iaload, 1), (37, .bipush 120, 2), (39, .if_icmp .ne 44, 3), (42, .aload_n 0, 1), (43, .iconst 1, 1), (44, .iload_n 3, 1), (45, .bipush 121, 2), (47, .invokevirtual 244, 3), (50, .istore 5, 2), (52, .iload 5, 2), (54, .ifCond .ge 7, 3), (57, .iconst (-1), 1), (58, .goto 10, 3), (61, .aload_n 0, 1), (62, .iload 5, 2), (64, .iload_n 2, 1), (65, .invokevirtual 253, 3), (68, .istore 4, 2), (70, .aload_n 0, 1), (71, .getfield 41, 3), (74, .bipush 30, 2), (76, .iload_n 3, 1), (77, .iadd, 1), (78, .iaload, 1), (79, .istore_n 3, 1), (80, .goto (-75), 3), (83, .iload 4, 2), (85, .ifCond .lt 8, 3), (88, .iload 4, 2), (90, .goto 14, 3), (93, .iload_n 2, 1), (94, .iconst 1, 1), (95, .if_icmp .ne 8, 3), (98, .bipush 10, 2), (100, .goto 4, 3), (103, .iconst 0, 1), (104, .ireturn, 1)]
theorem nd_i193_ok : am_ic prog_14_method_40_code nd_i193 = true := by decide +kernel
def nd_s193 : List nm_S := [(244, 185, false, 1545), (253, 194, false, 1581)]
theorem nd_s193_ok : nd_s193.all (nm_schk nd_ct nd_ml "PaperParcelsModel") = true := by decide +kernel
theorem nd_ok193 : am_ok nm_Ts nm_Tn nd_cl nd_mt nd_fr nd_lo 193 (am_in nd_i193) (am_fl nd_f11) (am_ct nd_k11) (am_sl nd_ml nd_s193) := nm_ok (x := 193) (ini := false) rfl (by decide +kernel) nd_cok nd_i193_ok (by decide) nd_f11_ok nd_k11_ok nd_s193_ok (by decide +kernel)
-- PaperParcelsModel.given(II)I
def nd_i194 : List (Nat × Instr × Nat) := [(0, .iload_n 1, 1), (1, .istore_n 3, 1), (2, .iload_n 3, 1), (3, .ifCond .lt 26, 3), (6, .aload_n 0, 1), (7, .getfield 57, 3), (10, .iconst 3, 1), (11, .iload_n 3, 1), (12, .imul, 1), (13, .iload_n 2, 1), (14, .iadd, 1), (15, .iaload, 1), (16, .ifCond .ge 13, 3), (19, .aload_n 0, 1), (20, .getfield 54, 3), (23, .iload_n 3, 1), (24, .iaload, 1), (25, .istore_n 3, 1), (26, .goto (-24), 3), (29, .iload_n 3, 1), (30, .ifCond .ge 7, 3), (33, .iconst (-1), 1), (34, .goto 13, 3), (37, .aload_n 0, 1), (38, .getfield 57, 3), (41, .iconst 3, 1), (42, .iload_n 3, 1), (43, .imul, 1), (44, .iload_n 2, 1), (45, .iadd, 1), (46, .iaload, 1), (47, .ireturn, 1)]
theorem nd_i194_ok : am_ic prog_14_method_39_code nd_i194 = true := by decide +kernel
def nd_s194 : List nm_S := []
theorem nd_s194_ok : nd_s194.all (nm_schk nd_ct nd_ml "PaperParcelsModel") = true := by decide +kernel
theorem nd_ok194 : am_ok nm_Ts nm_Tn nd_cl nd_mt nd_fr nd_lo 194 (am_in nd_i194) (am_fl nd_f11) (am_ct nd_k11) (am_sl nd_ml nd_s194) := nm_ok (x := 194) (ini := false) rfl (by decide +kernel) nd_cok nd_i194_ok (by decide) nd_f11_ok nd_k11_ok nd_s194_ok (by decide +kernel)
-- PaperParcelsModel.paragraphOf(I)I
def nd_i195 : List (Nat × Instr × Nat) := [(0, .iload_n 1, 1), (1, .istore_n 2, 1), (2, .aload_n 0, 1), (3, .getfield 35, 3), (6, .bipush 30, 2), (8, .iload_n 2, 1), (9, .iadd, 1), (10, .iaload, 1), (11, .bipush 120, 2), (13, .if_icmp .ne 16, 3), (16, .aload_n 0, 1), (17, .getfield 41, 3), (20, .bipush 30, 2), (22, .iload_n 2, 1), (23, .iadd, 1), (24, .iaload, 1), (25, .istore_n 2, 1), (26, .goto (-24), 3), (29, .iload_n 2, 1), (30, .ireturn, 1)]
theorem nd_i195_ok : am_ic prog_14_method_43_code nd_i195 = true := by decide +kernel
def nd_s195 : List nm_S := []
theorem nd_s195_ok : nd_s195.all (nm_schk nd_ct nd_ml "PaperParcelsModel") = true := by decide +kernel
theorem nd_ok195 : am_ok nm_Ts nm_Tn nd_cl nd_mt nd_fr nd_lo 195 (am_in nd_i195) (am_fl nd_f11) (am_ct nd_k11) (am_sl nd_ml nd_s195) := nm_ok (x := 195) (ini := false) rfl (by decide +kernel) nd_cok nd_i195_ok (by decide) nd_f11_ok nd_k11_ok nd_s195_ok (by decide +kernel)
-- PaperParcelsModel.hasLook(II)Z
def nd_i196 : List (Nat × Instr × Nat) := [(0, .iconst 1, 1), (1, .istore_n 3, 1), (2, .iconst 0, 1), (3, .istore 4, 2), (5, .iload 4, 2), (7, .iconst 3, 1), (8, .if_icmp .ge 40, 3), (11, .iload_n 3, 1), (12, .ifCond .eq 28, 3), (15, .aload_n 0, 1), (16, .getfield 69, 3), (19, .iconst 3, 1), (20, .iload_n 1, 1), (21, .imul, 1), (22, .iload 4, 2), (24, .iadd, 1), (25, .iaload, 1), (26, .aload_n 0, 1), (27, .iload_n 2, 1), (28, .iload 4, 2), (30, .invokevirtual 256, 3), (33, .if_icmp .ne 7, 3), (36, .iconst 1, 1), (37, .goto 4, 3), (40, .iconst 0, 1), (41, .istore_n 3, 1), (42, .iinc 4 1, 3), (45, .goto (-40), 3), (48, .iload_n 3, 1), (49, .ireturn, 1)]
theorem nd_i196_ok : am_ic prog_14_method_44_code nd_i196 = true := by decide +kernel
def nd_s196 : List nm_S := [(256, 193, false, 1577)]
theorem nd_s196_ok : nd_s196.all (nm_schk nd_ct nd_ml "PaperParcelsModel") = true := by decide +kernel
theorem nd_ok196 : am_ok nm_Ts nm_Tn nd_cl nd_mt nd_fr nd_lo 196 (am_in nd_i196) (am_fl nd_f11) (am_ct nd_k11) (am_sl nd_ml nd_s196) := nm_ok (x := 196) (ini := false) rfl (by decide +kernel) nd_cok nd_i196_ok (by decide) nd_f11_ok nd_k11_ok nd_s196_ok (by decide +kernel)
end
section
-- PaperParcelsModel.addLetter(II)V
def nd_i197 : List (Nat × Instr × Nat) := [(0, .aload_n 0, 1), (1, .getfield 81, 3), (4, .sipush 700, 3), (7, .iload_n 1, 1), (8, .imul, 1), (9, .aload_n 0, 1), (10, .getfield 78, 3), (13, .iload_n 1, 1), (14, .iaload, 1), (15, .iadd, 1), (16, .iload_n 2, 1), (17, .iastore, 1), (18, .aload_n 0, 1), (19, .getfield 78, 3), (22, .iload_n 1, 1), (23, .dup2, 1), (24, .iaload, 1), (25, .iconst 1, 1), (26, .iadd, 1), (27, .iastore, 1), (28, .aload_n 0, 1), (29, .getfield 75, 3), (32, .bipush 100, 2), (34, .iload_n 1, 1), (35, .imul, 1), (36, .aload_n 0, 1), (37, .getfield 60, 3), (40, .iload_n 1, 1), (41, .iaload, 1), (42, .iadd, 1), (43, .iconst 1, 1), (44, .isub, 1), (45, .dup2, 1), (46, .iaload, 1), (47, .iconst 1, 1), (48, .iadd, 1), (49, .iastore, 1), (50, .return_, 1)]
theorem nd_i197_ok : am_ic prog_14_method_42_code nd_i197 = true := by decide +kernel
def nd_s197 : List nm_S := []
theorem nd_s197_ok : nd_s197.all (nm_schk nd_ct nd_ml "PaperParcelsModel") = true := by decide +kernel
theorem nd_ok197 : am_ok nm_Ts nm_Tn nd_cl nd_mt nd_fr nd_lo 197 (am_in nd_i197) (am_fl nd_f11) (am_ct nd_k11) (am_sl nd_ml nd_s197) := nm_ok (x := 197) (ini := false) rfl (by decide +kernel) nd_cok nd_i197_ok (by decide) nd_f11_ok nd_k11_ok nd_s197_ok (by decide +kernel)
-- PaperParcelsModel.copyNode(IIII)V
def nd_i198 : List (Nat × Instr × Nat) := [(0, .aload_n 0, 1), (1, .iload_n 1, 1), (2, .aload_n 0, 1), (3, .getfield 63, 3), (6, .bipush 100, 2), (8, .iload_n 2, 1), (9, .imul, 1), (10, .iload_n 3, 1), (11, .iadd, 1), (12, .iaload, 1), (13, .iload 4, 2), (15, .invokevirtual 269, 3), (18, .aload_n 0, 1), (19, .iload_n 1, 1), (20, .aload_n 0, 1), (21, .getfield 60, 3), (24, .iload_n 1, 1), (25, .iaload, 1), (26, .iconst 1, 1), (27, .isub, 1), (28, .iload_n 2, 1), (29, .iload_n 3, 1), (30, .invokevirtual 279, 3), (33, .return_, 1)]
theorem nd_i198_ok : am_ic prog_14_method_48_code nd_i198 = true := by decide +kernel
def nd_s198 : List nm_S := [(269, 190, false, 1565), (279, 199, false, 1601)]
theorem nd_s198_ok : nd_s198.all (nm_schk nd_ct nd_ml "PaperParcelsModel") = true := by decide +kernel
theorem nd_ok198 : am_ok nm_Ts nm_Tn nd_cl nd_mt nd_fr nd_lo 198 (am_in nd_i198) (am_fl nd_f11) (am_ct nd_k11) (am_sl nd_ml nd_s198) := nm_ok (x := 198) (ini := false) rfl (by decide +kernel) nd_cok nd_i198_ok (by decide) nd_f11_ok nd_k11_ok nd_s198_ok (by decide +kernel)
-- PaperParcelsModel.copyInside(IIII)V
def nd_i199 : List (Nat × Instr × Nat) := [(0, .bipush 100, 2), (2, .iload_n 3, 1), (3, .imul, 1), (4, .iload 4, 2), (6, .iadd, 1), (7, .istore 5, 2), (9, .iconst 0, 1), (10, .istore 6, 2), (12, .iload 6, 2), (14, .iconst 3, 1), (15, .if_icmp .ge 37, 3), (18, .aload_n 0, 1), (19, .getfield 69, 3), (22, .iconst 3, 1), (23, .bipush 100, 2), (25, .iload_n 1, 1), (26, .imul, 1), (27, .iload_n 2, 1), (28, .iadd, 1), (29, .imul, 1), (30, .iload 6, 2), (32, .iadd, 1), (33, .aload_n 0, 1), (34, .getfield 69, 3), (37, .iconst 3, 1), (38, .iload 5, 2), (40, .imul, 1), (41, .iload 6, 2), (43, .iadd, 1), (44, .iaload, 1), (45, .iastore, 1), (46, .iinc 6 1, 3), (49, .goto (-37), 3), (52, .iconst 0, 1), (53, .istore 6, 2), (55, .iload 6, 2), (57, .aload_n 0, 1), (58, .getfield 75, 3), (61, .iload 5, 2), (63, .iaload, 1), (64, .if_icmp .ge 35, 3), (67, .aload_n 0, 1), (68, .iload_n 1, 1), (69, .aload_n 0, 1), (70, .getfield 81, 3), (73, .sipush 700, 3), (76, .iload_n 3, 1), (77, .imul, 1), (78, .aload_n 0, 1), (79, .getfield 72, 3), (82, .iload 5, 2), (84, .iaload, 1), (85, .iadd, 1), (86, .iload 6, 2), (88, .iadd, 1), (89, .iaload, 1), (90, .invokevirtual 273, 3), (93, .iinc 6 1, 3), (96, .goto (-41), 3), (99, .return_, 1)]
theorem nd_i199_ok : am_ic prog_14_method_49_code nd_i199 = true := by decide +kernel
def nd_s199 : List nm_S := [(273, 197, false, 1593)]
theorem nd_s199_ok : nd_s199.all (nm_schk nd_ct nd_ml "PaperParcelsModel") = true := by decide +kernel
theorem nd_ok199 : am_ok nm_Ts nm_Tn nd_cl nd_mt nd_fr nd_lo 199 (am_in nd_i199) (am_fl nd_f11) (am_ct nd_k11) (am_sl nd_ml nd_s199) := nm_ok (x := 199) (ini := false) rfl (by decide +kernel) nd_cok nd_i199_ok (by decide) nd_f11_ok nd_k11_ok nd_s199_ok (by decide +kernel)
-- PaperParcelsModel.place()I
def nd_i200 : List (Nat × Instr × Nat) := [(0, .aload_n 0, 1), (1, .iconst 0, 1), (2, .putfield 150, 3), (5, .aload_n 0, 1), (6, .getfield 13, 3), (9, .ireturn, 1)]
theorem nd_i200_ok : am_ic prog_14_method_56_code nd_i200 = true := by decide +kernel
def nd_s200 : List nm_S := []
theorem nd_s200_ok : nd_s200.all (nm_schk nd_ct nd_ml "PaperParcelsModel") = true := by decide +kernel
theorem nd_ok200 : am_ok nm_Ts nm_Tn nd_cl nd_mt nd_fr nd_lo 200 (am_in nd_i200) (am_fl nd_f11) (am_ct nd_k11) (am_sl nd_ml nd_s200) := nm_ok (x := 200) (ini := false) rfl (by decide +kernel) nd_cok nd_i200_ok (by decide) nd_f11_ok nd_k11_ok nd_s200_ok (by decide +kernel)
-- PaperParcelsModel.nodes(I)I
def nd_i201 : List (Nat × Instr × Nat) := [(0, .aload_n 0, 1), (1, .iload_n 1, 1), (2, .invokestatic 329, 3), (5, .ifCond .eq 7, 3), (8, .iconst 0, 1), (9, .goto 4, 3), (12, .iconst 1, 1), (13, .putfield 150, 3), (16, .aload_n 0, 1), (17, .getfield 150, 3), (20, .ifCond .ne 12, 3), (23, .aload_n 0, 1), (24, .getfield 60, 3), (27, .iload_n 1, 1), (28, .iaload, 1), (29, .goto 4, 3), (32, .iconst 0, 1), (33, .ireturn, 1)]
theorem nd_i201_ok : am_ic prog_14_method_58_code nd_i201 = true := by decide +kernel
def nd_s201 : List nm_S := [(329, 202, false, 1613)]
theorem nd_s201_ok : nd_s201.all (nm_schk nd_ct nd_ml "PaperParcelsModel") = true := by decide +kernel
theorem nd_ok201 : am_ok nm_Ts nm_Tn nd_cl nd_mt nd_fr nd_lo 201 (am_in nd_i201) (am_fl nd_f11) (am_ct nd_k11) (am_sl nd_ml nd_s201) := nm_ok (x := 201) (ini := false) rfl (by decide +kernel) nd_cok nd_i201_ok (by decide) nd_f11_ok nd_k11_ok nd_s201_ok (by decide +kernel)
-- PaperParcelsModel.isSlot(I)Z
def nd_i202 : List (Nat × Instr × Nat) := [(0, .iload_n 0, 1), (1, .ifCond .lt 12, 3), (4, .iload_n 0, 1), (5, .iconst 2, 1), (6, .if_icmp .gt 7, 3), (9, .iconst 1, 1), (10, .goto 4, 3), (13, .iconst 0, 1), (14, .ireturn, 1)]
theorem nd_i202_ok : am_ic prog_14_method_57_code nd_i202 = true := by decide +kernel
def nd_s202 : List nm_S := []
theorem nd_s202_ok : nd_s202.all (nm_schk nd_ct nd_ml "PaperParcelsModel") = true := by decide +kernel
theorem nd_ok202 : am_ok nm_Ts nm_Tn nd_cl nd_mt nd_fr nd_lo 202 (am_in nd_i202) (am_fl nd_f11) (am_ct nd_k11) (am_sl nd_ml nd_s202) := nm_ok (x := 202) (ini := false) rfl (by decide +kernel) nd_cok nd_i202_ok (by decide) nd_f11_ok nd_k11_ok nd_s202_ok (by decide +kernel)
-- PaperParcelsModel.kind(II)I
def nd_i203 : List (Nat × Instr × Nat) := [(0, .aload_n 0, 1), (1, .iload_n 1, 1), (2, .iload_n 2, 1), (3, .invokevirtual 332, 3), (6, .ifCond .eq 17, 3), (9, .aload_n 0, 1), (10, .getfield 63, 3), (13, .bipush 100, 2), (15, .iload_n 1, 1), (16, .imul, 1), (17, .iload_n 2, 1), (18, .iadd, 1), (19, .iaload, 1), (20, .goto 4, 3), (23, .iconst 0, 1), (24, .ireturn, 1)]
theorem nd_i203_ok : am_ic prog_14_method_60_code nd_i203 = true := by decide +kernel
def nd_s203 : List nm_S := [(332, 204, false, 1620)]
theorem nd_s203_ok : nd_s203.all (nm_schk nd_ct nd_ml "PaperParcelsModel") = true := by decide +kernel
theorem nd_ok203 : am_ok nm_Ts nm_Tn nd_cl nd_mt nd_fr nd_lo 203 (am_in nd_i203) (am_fl nd_f11) (am_ct nd_k11) (am_sl nd_ml nd_s203) := nm_ok (x := 203) (ini := false) rfl (by decide +kernel) nd_cok nd_i203_ok (by decide) nd_f11_ok nd_k11_ok nd_s203_ok (by decide +kernel)
-- PaperParcelsModel.isNode(II)Z
def nd_i204 : List (Nat × Instr × Nat) := [(0, .aload_n 0, 1), (1, .iload_n 1, 1), (2, .invokestatic 329, 3), (5, .ifCond .ne 7, 3), (8, .iconst 1, 1), (9, .goto 22, 3), (12, .iload_n 2, 1), (13, .ifCond .lt 13, 3), (16, .iload_n 2, 1), (17, .aload_n 0, 1), (18, .getfield 60, 3), (21, .iload_n 1, 1), (22, .iaload, 1), (23, .if_icmp .lt 7, 3), (26, .iconst 2, 1), (27, .goto 4, 3), (30, .iconst 0, 1), (31, .putfield 150, 3), (34, .aload_n 0, 1), (35, .getfield 150, 3), (38, .ifCond .ne 7, 3), (41, .iconst 1, 1), (42, .goto 4, 3), (45, .iconst 0, 1), (46, .ireturn, 1)]
theorem nd_i204_ok : am_ic prog_14_method_59_code nd_i204 = true := by decide +kernel
def nd_s204 : List nm_S := [(329, 202, false, 1613)]
theorem nd_s204_ok : nd_s204.all (nm_schk nd_ct nd_ml "PaperParcelsModel") = true := by decide +kernel
theorem nd_ok204 : am_ok nm_Ts nm_Tn nd_cl nd_mt nd_fr nd_lo 204 (am_in nd_i204) (am_fl nd_f11) (am_ct nd_k11) (am_sl nd_ml nd_s204) := nm_ok (x := 204) (ini := false) rfl (by decide +kernel) nd_cok nd_i204_ok (by decide) nd_f11_ok nd_k11_ok nd_s204_ok (by decide +kernel)
-- PaperParcelsModel.above(II)I
def nd_i205 : List (Nat × Instr × Nat) := [(0, .aload_n 0, 1), (1, .iload_n 1, 1), (2, .iload_n 2, 1), (3, .invokevirtual 332, 3), (6, .ifCond .eq 17, 3), (9, .aload_n 0, 1), (10, .getfield 66, 3), (13, .bipush 100, 2), (15, .iload_n 1, 1), (16, .imul, 1), (17, .iload_n 2, 1), (18, .iadd, 1), (19, .iaload, 1), (20, .goto 4, 3), (23, .iconst 0, 1), (24, .ireturn, 1)]
theorem nd_i205_ok : am_ic prog_14_method_61_code nd_i205 = true := by decide +kernel
def nd_s205 : List nm_S := [(332, 204, false, 1620)]
theorem nd_s205_ok : nd_s205.all (nm_schk nd_ct nd_ml "PaperParcelsModel") = true := by decide +kernel
theorem nd_ok205 : am_ok nm_Ts nm_Tn nd_cl nd_mt nd_fr nd_lo 205 (am_in nd_i205) (am_fl nd_f11) (am_ct nd_k11) (am_sl nd_ml nd_s205) := nm_ok (x := 205) (ini := false) rfl (by decide +kernel) nd_cok nd_i205_ok (by decide) nd_f11_ok nd_k11_ok nd_s205_ok (by decide +kernel)
-- PaperParcelsModel.look(III)I
def nd_i206 : List (Nat × Instr × Nat) := [(0, .iload_n 3, 1), (1, .ifCond .lt 8, 3), (4, .iload_n 3, 1), (5, .iconst 2, 1), (6, .if_icmp .le 9, 3), (9, .aload_n 0, 1), (10, .iconst 1, 1), (11, .invokevirtual 335, 3), (14, .ireturn, 1), (15, .aload_n 0, 1), (16, .iload_n 1, 1), (17, .iload_n 2, 1), (18, .invokevirtual 332, 3), (21, .ifCond .eq 21, 3), (24, .aload_n 0, 1), (25, .getfield 69, 3), (28, .iconst 3, 1), (29, .bipush 100, 2), (31, .iload_n 1, 1), (32, .imul, 1), (33, .iload_n 2, 1), (34, .iadd, 1), (35, .imul, 1), (36, .iload_n 3, 1), (37, .iadd, 1), (38, .iaload, 1), (39, .goto 4, 3), (42, .iconst 0, 1), (43, .ireturn, 1)]
theorem nd_i206_ok : am_ic prog_14_method_62_code nd_i206 = true := by decide +kernel
def nd_s206 : List nm_S := [(335, 207, false, 1632), (332, 204, false, 1620)]
theorem nd_s206_ok : nd_s206.all (nm_schk nd_ct nd_ml "PaperParcelsModel") = true := by decide +kernel
theorem nd_ok206 : am_ok nm_Ts nm_Tn nd_cl nd_mt nd_fr nd_lo 206 (am_in nd_i206) (am_fl nd_f11) (am_ct nd_k11) (am_sl nd_ml nd_s206) := nm_ok (x := 206) (ini := false) rfl (by decide +kernel) nd_cok nd_i206_ok (by decide) nd_f11_ok nd_k11_ok nd_s206_ok (by decide +kernel)
-- PaperParcelsModel.refuse(I)I
def nd_i207 : List (Nat × Instr × Nat) := [(0, .aload_n 0, 1), (1, .iload_n 1, 1), (2, .putfield 150, 3), (5, .iconst 0, 1), (6, .ireturn, 1)]
theorem nd_i207_ok : am_ic prog_14_method_3_code nd_i207 = true := by decide +kernel
def nd_s207 : List nm_S := []
theorem nd_s207_ok : nd_s207.all (nm_schk nd_ct nd_ml "PaperParcelsModel") = true := by decide +kernel
theorem nd_ok207 : am_ok nm_Ts nm_Tn nd_cl nd_mt nd_fr nd_lo 207 (am_in nd_i207) (am_fl nd_f11) (am_ct nd_k11) (am_sl nd_ml nd_s207) := nm_ok (x := 207) (ini := false) rfl (by decide +kernel) nd_cok nd_i207_ok (by decide) nd_f11_ok nd_k11_ok nd_s207_ok (by decide +kernel)
-- PaperParcelsModel.letters(II)I
def nd_i208 : List (Nat × Instr × Nat) := [(0, .aload_n 0, 1), (1, .iload_n 1, 1), (2, .iload_n 2, 1), (3, .invokevirtual 332, 3), (6, .ifCond .eq 17, 3), (9, .aload_n 0, 1), (10, .getfield 75, 3), (13, .bipush 100, 2), (15, .iload_n 1, 1), (16, .imul, 1), (17, .iload_n 2, 1), (18, .iadd, 1), (19, .iaload, 1), (20, .goto 4, 3), (23, .iconst 0, 1), (24, .ireturn, 1)]
theorem nd_i208_ok : am_ic prog_14_method_63_code nd_i208 = true := by decide +kernel
def nd_s208 : List nm_S := [(332, 204, false, 1620)]
theorem nd_s208_ok : nd_s208.all (nm_schk nd_ct nd_ml "PaperParcelsModel") = true := by decide +kernel
theorem nd_ok208 : am_ok nm_Ts nm_Tn nd_cl nd_mt nd_fr nd_lo 208 (am_in nd_i208) (am_fl nd_f11) (am_ct nd_k11) (am_sl nd_ml nd_s208) := nm_ok (x := 208) (ini := false) rfl (by decide +kernel) nd_cok nd_i208_ok (by decide) nd_f11_ok nd_k11_ok nd_s208_ok (by decide +kernel)
-- PaperParcelsModel.letter(III)I
def nd_i209 : List (Nat × Instr × Nat) := [(0, .aload_n 0, 1), (1, .iload_n 1, 1), (2, .iload_n 2, 1), (3, .invokevirtual 332, 3), (6, .ifCond .ne 5, 3), (9, .iconst 0, 1), (10, .ireturn, 1), (11, .iload_n 3, 1), (12, .ifCond .lt 45, 3), (15, .iload_n 3, 1), (16, .aload_n 0, 1), (17, .getfield 75, 3), (20, .bipush 100, 2), (22, .iload_n 1, 1), (23, .imul, 1), (24, .iload_n 2, 1), (25, .iadd, 1), (26, .iaload, 1), (27, .if_icmp .ge 30, 3), (30, .aload_n 0, 1), (31, .getfield 81, 3), (34, .sipush 700, 3), (37, .iload_n 1, 1), (38, .imul, 1), (39, .aload_n 0, 1), (40, .getfield 72, 3), (43, .bipush 100, 2), (45, .iload_n 1, 1), (46, .imul, 1), (47, .iload_n 2, 1), (48, .iadd, 1), (49, .iaload, 1), (50, .iadd, 1), (51, .iload_n 3, 1), (52, .iadd, 1), (53, .iaload, 1), (54, .goto 4, 3), (57, .iconst (-1), 1), (58, .ireturn, 1)]
theorem nd_i209_ok : am_ic prog_14_method_64_code nd_i209 = true := by decide +kernel
def nd_s209 : List nm_S := [(332, 204, false, 1620)]
theorem nd_s209_ok : nd_s209.all (nm_schk nd_ct nd_ml "PaperParcelsModel") = true := by decide +kernel
theorem nd_ok209 : am_ok nm_Ts nm_Tn nd_cl nd_mt nd_fr nd_lo 209 (am_in nd_i209) (am_fl nd_f11) (am_ct nd_k11) (am_sl nd_ml nd_s209) := nm_ok (x := 209) (ini := false) rfl (by decide +kernel) nd_cok nd_i209_ok (by decide) nd_f11_ok nd_k11_ok nd_s209_ok (by decide +kernel)
-- PaperParcelsModel.compare()I
def nd_i210 : List (Nat × Instr × Nat) := [(0, .aload_n 0, 1), (1, .aload_n 0, 1), (2, .getfield 60, 3), (5, .iconst 0, 1), (6, .iaload, 1), (7, .ifCond .eq 12, 3), (10, .aload_n 0, 1), (11, .getfield 60, 3), (14, .iconst 1, 1), (15, .iaload, 1), (16, .ifCond .ne 7, 3), (19, .iconst 1, 1), (20, .goto 4, 3), (23, .iconst 0, 1), (24, .putfield 150, 3), (27, .aload_n 0, 1), (28, .getfield 150, 3), (31, .ifCond .le 5, 3), (34, .iconst 0, 1), (35, .ireturn, 1), (36, .aload_n 0, 1), (37, .iconst 0, 1), (38, .invokevirtual 366, 3), (41, .aload_n 0, 1), (42, .iconst 1, 1), (43, .invokevirtual 366, 3), (46, .aload_n 0, 1), (47, .invokevirtual 369, 3), (50, .aload_n 0, 1), (51, .iconst 0, 1), (52, .putfield 357, 3), (55, .aload_n 0, 1), (56, .iconst 1, 1), (57, .putfield 326, 3), (60, .aload_n 0, 1), (61, .iconst 0, 1), (62, .iconst 0, 1), (63, .iconst 0, 1), (64, .invokevirtual 363, 3), (67, .iconst 0, 1), (68, .istore_n 1, 1), (69, .iload_n 1, 1), (70, .ifCond .lt 24, 3), (73, .aload_n 0, 1), (74, .iload_n 1, 1), (75, .invokevirtual 372, 3), (78, .ifCond .eq 9, 3), (81, .iload_n 1, 1), (82, .iconst 1, 1), (83, .iadd, 1), (84, .goto 6, 3), (87, .iload_n 1, 1), (88, .iconst 1, 1), (89, .isub, 1), (90, .istore_n 1, 1), (91, .goto (-22), 3), (94, .aload_n 0, 1), (95, .getfield 102, 3), (98, .iconst 0, 1), (99, .iaload, 1), (100, .ireturn, 1)]
theorem nd_i210_ok : am_ic prog_14_method_74_code nd_i210 = true := by decide +kernel
def nd_s210 : List nm_S := [(366, 211, false, 1648), (369, 212, false, 1652), (363, 217, false, 1673), (372, 219, false, 1681)]
theorem nd_s210_ok : nd_s210.all (nm_schk nd_ct nd_ml "PaperParcelsModel") = true := by decide +kernel
theorem nd_ok210 : am_ok nm_Ts nm_Tn nd_cl nd_mt nd_fr nd_lo 210 (am_in nd_i210) (am_fl nd_f11) (am_ct nd_k11) (am_sl nd_ml nd_s210) := nm_ok (x := 210) (ini := false) rfl (by decide +kernel) nd_cok nd_i210_ok (by decide) nd_f11_ok nd_k11_ok nd_s210_ok (by decide +kernel)
-- PaperParcelsModel.weigh(I)V
def nd_i211 : List (Nat × Instr × Nat) := [(0, .iconst 0, 1), (1, .istore_n 2, 1), (2, .iload_n 2, 1), (3, .aload_n 0, 1), (4, .getfield 60, 3), (7, .iload_n 1, 1), (8, .iaload, 1), (9, .if_icmp .ge 33, 3), (12, .aload_n 0, 1), (13, .getfield 99, 3), (16, .bipush 100, 2), (18, .iload_n 1, 1), (19, .imul, 1), (20, .iload_n 2, 1), (21, .iadd, 1), (22, .iconst 1, 1), (23, .aload_n 0, 1), (24, .getfield 75, 3), (27, .bipush 100, 2), (29, .iload_n 1, 1), (30, .imul, 1), (31, .iload_n 2, 1), (32, .iadd, 1), (33, .iaload, 1), (34, .iadd, 1), (35, .iastore, 1), (36, .iinc 2 1, 3), (39, .goto (-37), 3), (42, .aload_n 0, 1), (43, .getfield 60, 3), (46, .iload_n 1, 1), (47, .iaload, 1), (48, .iconst 1, 1), (49, .isub, 1), (50, .istore_n 2, 1), (51, .iload_n 2, 1), (52, .ifCond .le 44, 3), (55, .aload_n 0, 1), (56, .getfield 99, 3), (59, .bipush 100, 2), (61, .iload_n 1, 1), (62, .imul, 1), (63, .aload_n 0, 1), (64, .getfield 66, 3), (67, .bipush 100, 2), (69, .iload_n 1, 1), (70, .imul, 1), (71, .iload_n 2, 1), (72, .iadd, 1), (73, .iaload, 1), (74, .iadd, 1), (75, .dup2, 1), (76, .iaload, 1), (77, .aload_n 0, 1), (78, .getfield 99, 3), (81, .bipush 100, 2), (83, .iload_n 1, 1), (84, .imul, 1), (85, .iload_n 2, 1), (86, .iadd, 1), (87, .iaload, 1), (88, .iadd, 1), (89, .iastore, 1), (90, .iinc 2 (-1), 3), (93, .goto (-42), 3), (96, .return_, 1)]
theorem nd_i211_ok : am_ic prog_14_method_65_code nd_i211 = true := by decide +kernel
def nd_s211 : List nm_S := []
theorem nd_s211_ok : nd_s211.all (nm_schk nd_ct nd_ml "PaperParcelsModel") = true := by decide +kernel
theorem nd_ok211 : am_ok nm_Ts nm_Tn nd_cl nd_mt nd_fr nd_lo 211 (am_in nd_i211) (am_fl nd_f11) (am_ct nd_k11) (am_sl nd_ml nd_s211) := nm_ok (x := 211) (ini := false) rfl (by decide +kernel) nd_cok nd_i211_ok (by decide) nd_f11_ok nd_k11_ok nd_s211_ok (by decide +kernel)
-- PaperParcelsModel.costs()V
def nd_i212 : List (Nat × Instr × Nat) := [(0, .aload_n 0, 1), (1, .getfield 60, 3), (4, .iconst 0, 1), (5, .iaload, 1), (6, .iconst 1, 1), (7, .isub, 1), (8, .istore_n 1, 1), (9, .iload_n 1, 1), (10, .ifCond .lt 76, 3), (13, .aload_n 0, 1), (14, .getfield 60, 3), (17, .iconst 1, 1), (18, .iaload, 1), (19, .iconst 1, 1), (20, .isub, 1), (21, .istore_n 2, 1), (22, .iload_n 2, 1), (23, .ifCond .lt 57, 3), (26, .aload_n 0, 1), (27, .getfield 63, 3), (30, .iload_n 1, 1), (31, .iaload, 1), (32, .aload_n 0, 1), (33, .getfield 63, 3), (36, .bipush 100, 2), (38, .iload_n 2, 1), (39, .iadd, 1), (40, .iaload, 1), (41, .if_icmp .ne 33, 3), (44, .aload_n 0, 1), (45, .iload_n 1, 1), (46, .iload_n 2, 1), (47, .invokevirtual 351, 3), (50, .aload_n 0, 1), (51, .getfield 102, 3), (54, .bipush 40, 2), (56, .iload_n 1, 1), (57, .imul, 1), (58, .iload_n 2, 1), (59, .iadd, 1), (60, .aload_n 0, 1), (61, .iload_n 1, 1), (62, .iload_n 2, 1), (63, .invokevirtual 354, 3), (66, .aload_n 0, 1), (67, .getfield 111, 3), (70, .iconst 0, 1), (71, .iaload, 1), (72, .iadd, 1), (73, .iastore, 1), (74, .iinc 2 (-1), 3), (77, .goto (-55), 3), (80, .iinc 1 (-1), 3), (83, .goto (-74), 3), (86, .return_, 1)]
theorem nd_i212_ok : am_ic prog_14_method_70_code nd_i212 = true := by decide +kernel
def nd_s212 : List nm_S := [(351, 213, false, 1656), (354, 215, false, 1665)]
theorem nd_s212_ok : nd_s212.all (nm_schk nd_ct nd_ml "PaperParcelsModel") = true := by decide +kernel
theorem nd_ok212 : am_ok nm_Ts nm_Tn nd_cl nd_mt nd_fr nd_lo 212 (am_in nd_i212) (am_fl nd_f11) (am_ct nd_k11) (am_sl nd_ml nd_s212) := nm_ok (x := 212) (ini := false) rfl (by decide +kernel) nd_cok nd_i212_ok (by decide) nd_f11_ok nd_k11_ok nd_s212_ok (by decide +kernel)
-- PaperParcelsModel.lay(II)V
def nd_i213 : List (Nat × Instr × Nat) := [(0, .aload_n 0, 1), (1, .iconst 0, 1), (2, .putfield 341, 3), (5, .aload_n 0, 1), (6, .iconst 0, 1), (7, .putfield 344, 3), (10, .iload_n 1, 1), (11, .iconst 1, 1), (12, .iadd, 1), (13, .istore_n 3, 1), (14, .iload_n 3, 1), (15, .aload_n 0, 1), (16, .getfield 60, 3), (19, .iconst 0, 1), (20, .iaload, 1), (21, .if_icmp .ge 39, 3), (24, .aload_n 0, 1), (25, .getfield 66, 3), (28, .iload_n 3, 1), (29, .iaload, 1), (30, .iload_n 1, 1), (31, .if_icmp .ne 23, 3), (34, .aload_n 0, 1), (35, .getfield 105, 3), (38, .aload_n 0, 1), (39, .getfield 341, 3), (42, .iload_n 3, 1), (43, .iastore, 1), (44, .aload_n 0, 1), (45, .dup, 1), (46, .getfield 341, 3), (49, .iconst 1, 1), (50, .iadd, 1), (51, .putfield 341, 3), (54, .iinc 3 1, 3), (57, .goto (-43), 3), (60, .iload_n 2, 1), (61, .iconst 1, 1), (62, .iadd, 1), (63, .istore_n 3, 1), (64, .iload_n 3, 1), (65, .aload_n 0, 1), (66, .getfield 60, 3), (69, .iconst 1, 1), (70, .iaload, 1), (71, .if_icmp .ge 42, 3), (74, .aload_n 0, 1), (75, .getfield 66, 3), (78, .bipush 100, 2), (80, .iload_n 3, 1), (81, .iadd, 1), (82, .iaload, 1), (83, .iload_n 2, 1), (84, .if_icmp .ne 23, 3), (87, .aload_n 0, 1), (88, .getfield 108, 3), (91, .aload_n 0, 1), (92, .getfield 344, 3), (95, .iload_n 3, 1), (96, .iastore, 1), (97, .aload_n 0, 1), (98, .dup, 1), (99, .getfield 344, 3), (102, .iconst 1, 1), (103, .iadd, 1), (104, .putfield 344, 3), (107, .iinc 3 1, 3), (110, .goto (-46), 3), (113, .aload_n 0, 1), (114, .getfield 341, 3), (117, .istore_n 3, 1), (118, .iload_n 3, 1), (119, .ifCond .lt 259, 3), (122, .aload_n 0, 1), (123, .getfield 344, 3), (126, .istore 4, 2), (128, .iload 4, 2), (130, .ifCond .lt 242, 3), (133, .iload_n 3, 1), (134, .aload_n 0, 1), (135, .getfield 341, 3), (138, .if_icmp .ne 16, 3), (141, .iload 4, 2), (143, .aload_n 0, 1), (144, .getfield 344, 3), (147, .if_icmp .ne 7, 3), (150, .iconst 0, 1), (151, .goto 6, 3), (154, .ldc_w 347, 3), (157, .istore 5, 2), (159, .iload_n 3, 1), (160, .aload_n 0, 1), (161, .getfield 341, 3), (164, .if_icmp .ge 33, 3), (167, .aload_n 0, 1), (168, .getfield 99, 3), (171, .aload_n 0, 1), (172, .getfield 105, 3), (175, .iload_n 3, 1), (176, .iaload, 1), (177, .iaload, 1), (178, .aload_n 0, 1), (179, .getfield 111, 3), (182, .bipush 41, 2), (184, .iload_n 3, 1), (185, .imul, 1), (186, .bipush 41, 2), (188, .iadd, 1), (189, .iload 4, 2), (191, .iadd, 1), (192, .iaload, 1), (193, .iadd, 1), (194, .goto 5, 3), (197, .iload 5, 2), (199, .istore 6, 2), (201, .iload 6, 2), (203, .iload 5, 2), (205, .if_icmp .ge 8, 3), (208, .iload 6, 2), (210, .goto 5, 3), (213, .iload 5, 2), (215, .istore 5, 2), (217, .iload 4, 2), (219, .aload_n 0, 1), (220, .getfield 344, 3), (223, .if_icmp .ge 36, 3), (226, .aload_n 0, 1), (227, .getfield 99, 3), (230, .bipush 100, 2), (232, .aload_n 0, 1), (233, .getfield 108, 3), (236, .iload 4, 2), (238, .iaload, 1), (239, .iadd, 1), (240, .iaload, 1), (241, .aload_n 0, 1), (242, .getfield 111, 3), (245, .bipush 41, 2), (247, .iload_n 3, 1), (248, .imul, 1), (249, .iload 4, 2), (251, .iadd, 1), (252, .iconst 1, 1), (253, .iadd, 1), (254, .iaload, 1), (255, .iadd, 1), (256, .goto 5, 3), (259, .iload 5, 2), (261, .istore 7, 2), (263, .iload 7, 2), (265, .iload 5, 2), (267, .if_icmp .ge 8, 3), (270, .iload 7, 2), (272, .goto 5, 3), (275, .iload 5, 2), (277, .istore 5, 2), (279, .aload_n 0, 1), (280, .iload_n 3, 1), (281, .iload 4, 2), (283, .invokevirtual 348, 3), (286, .ifCond .eq 46, 3), (289, .aload_n 0, 1), (290, .getfield 102, 3), (293, .bipush 40, 2), (295, .aload_n 0, 1), (296, .getfield 105, 3), (299, .iload_n 3, 1), (300, .iaload, 1), (301, .imul, 1), (302, .aload_n 0, 1), (303, .getfield 108, 3), (306, .iload 4, 2), (308, .iaload, 1), (309, .iadd, 1), (310, .iaload, 1), (311, .aload_n 0, 1), (312, .getfield 111, 3), (315, .bipush 41, 2), (317, .iload_n 3, 1), (318, .imul, 1), (319, .bipush 41, 2), (321, .iadd, 1), (322, .iload 4, 2), (324, .iadd, 1), (325, .iconst 1, 1), (326, .iadd, 1), (327, .iaload, 1), (328, .iadd, 1), (329, .goto 5, 3), (332, .iload 5, 2), (334, .istore 8, 2), (336, .iload 8, 2), (338, .iload 5, 2), (340, .if_icmp .ge 8, 3), (343, .iload 8, 2), (345, .goto 5, 3), (348, .iload 5, 2), (350, .istore 5, 2), (352, .aload_n 0, 1), (353, .getfield 111, 3), (356, .bipush 41, 2), (358, .iload_n 3, 1), (359, .imul, 1), (360, .iload 4, 2), (362, .iadd, 1), (363, .iload 5, 2), (365, .iastore, 1), (366, .iinc 4 (-1), 3), (369, .goto (-241), 3), (372, .iinc 3 (-1), 3), (375, .goto (-257), 3), (378, .return_, 1)]
theorem nd_i213_ok : am_ic prog_14_method_69_code nd_i213 = true := by decide +kernel
def nd_s213 : List nm_S := [(348, 214, false, 1661)]
theorem nd_s213_ok : nd_s213.all (nm_schk nd_ct nd_ml "PaperParcelsModel") = true := by decide +kernel
theorem nd_ok213 : am_ok nm_Ts nm_Tn nd_cl nd_mt nd_fr nd_lo 213 (am_in nd_i213) (am_fl nd_f11) (am_ct nd_k11) (am_sl nd_ml nd_s213) := nm_ok (x := 213) (ini := false) rfl (by decide +kernel) nd_cok nd_i213_ok (by decide) nd_f11_ok nd_k11_ok nd_s213_ok (by decide +kernel)
-- PaperParcelsModel.isPair(II)Z
def nd_i214 : List (Nat × Instr × Nat) := [(0, .iload_n 1, 1), (1, .aload_n 0, 1), (2, .getfield 341, 3), (5, .if_icmp .ge 43, 3), (8, .iload_n 2, 1), (9, .aload_n 0, 1), (10, .getfield 344, 3), (13, .if_icmp .ge 35, 3), (16, .aload_n 0, 1), (17, .getfield 63, 3), (20, .aload_n 0, 1), (21, .getfield 105, 3), (24, .iload_n 1, 1), (25, .iaload, 1), (26, .iaload, 1), (27, .aload_n 0, 1), (28, .getfield 63, 3), (31, .bipush 100, 2), (33, .aload_n 0, 1), (34, .getfield 108, 3), (37, .iload_n 2, 1), (38, .iaload, 1), (39, .iadd, 1), (40, .iaload, 1), (41, .if_icmp .ne 7, 3), (44, .iconst 1, 1), (45, .goto 4, 3), (48, .iconst 0, 1), (49, .ireturn, 1)]
theorem nd_i214_ok : am_ic prog_14_method_68_code nd_i214 = true := by decide +kernel
def nd_s214 : List nm_S := []
theorem nd_s214_ok : nd_s214.all (nm_schk nd_ct nd_ml "PaperParcelsModel") = true := by decide +kernel
theorem nd_ok214 : am_ok nm_Ts nm_Tn nd_cl nd_mt nd_fr nd_lo 214 (am_in nd_i214) (am_fl nd_f11) (am_ct nd_k11) (am_sl nd_ml nd_s214) := nm_ok (x := 214) (ini := false) rfl (by decide +kernel) nd_cok nd_i214_ok (by decide) nd_f11_ok nd_k11_ok nd_s214_ok (by decide +kernel)
-- PaperParcelsModel.change(II)I
def nd_i215 : List (Nat × Instr × Nat) := [(0, .aload_n 0, 1), (1, .iload_n 1, 1), (2, .iload_n 2, 1), (3, .invokevirtual 338, 3), (6, .ifCond .ne 5, 3), (9, .iconst 2, 1), (10, .ireturn, 1), (11, .iconst 1, 1), (12, .istore_n 3, 1), (13, .iconst 0, 1), (14, .istore 4, 2), (16, .iload 4, 2), (18, .iconst 3, 1), (19, .if_icmp .ge 48, 3), (22, .iload_n 3, 1), (23, .ifCond .eq 36, 3), (26, .aload_n 0, 1), (27, .getfield 69, 3), (30, .iconst 3, 1), (31, .iload_n 1, 1), (32, .imul, 1), (33, .iload 4, 2), (35, .iadd, 1), (36, .iaload, 1), (37, .aload_n 0, 1), (38, .getfield 69, 3), (41, .sipush 300, 3), (44, .iconst 3, 1), (45, .iload_n 2, 1), (46, .imul, 1), (47, .iadd, 1), (48, .iload 4, 2), (50, .iadd, 1), (51, .iaload, 1), (52, .if_icmp .ne 7, 3), (55, .iconst 1, 1), (56, .goto 4, 3), (59, .iconst 0, 1), (60, .istore_n 3, 1), (61, .iinc 4 1, 3), (64, .goto (-48), 3), (67, .iload_n 3, 1), (68, .ifCond .eq 7, 3), (71, .iconst 0, 1), (72, .goto 4, 3), (75, .iconst 1, 1), (76, .ireturn, 1)]
theorem nd_i215_ok : am_ic prog_14_method_67_code nd_i215 = true := by decide +kernel
def nd_s215 : List nm_S := [(338, 216, false, 1669)]
theorem nd_s215_ok : nd_s215.all (nm_schk nd_ct nd_ml "PaperParcelsModel") = true := by decide +kernel
theorem nd_ok215 : am_ok nm_Ts nm_Tn nd_cl nd_mt nd_fr nd_lo 215 (am_in nd_i215) (am_fl nd_f11) (am_ct nd_k11) (am_sl nd_ml nd_s215) := nm_ok (x := 215) (ini := false) rfl (by decide +kernel) nd_cok nd_i215_ok (by decide) nd_f11_ok nd_k11_ok nd_s215_ok (by decide +kernel)
-- PaperParcelsModel.sameLetters(II)Z
def nd_i216 : List (Nat × Instr × Nat) := [(0, .aload_n 0, 1), (1, .getfield 75, 3), (4, .iload_n 1, 1), (5, .iaload, 1), (6, .aload_n 0, 1), (7, .getfield 75, 3), (10, .bipush 100, 2), (12, .iload_n 2, 1), (13, .iadd, 1), (14, .iaload, 1), (15, .if_icmp .ne 7, 3), (18, .iconst 1, 1), (19, .goto 4, 3), (22, .iconst 0, 1), (23, .istore_n 3, 1), (24, .iconst 0, 1), (25, .istore 4, 2), (27, .iload 4, 2), (29, .aload_n 0, 1), (30, .getfield 75, 3), (33, .iload_n 1, 1), (34, .iaload, 1), (35, .if_icmp .ge 57, 3), (38, .iload_n 3, 1), (39, .ifCond .eq 53, 3), (42, .aload_n 0, 1), (43, .getfield 81, 3), (46, .aload_n 0, 1), (47, .getfield 72, 3), (50, .iload_n 1, 1), (51, .iaload, 1), (52, .iload 4, 2), (54, .iadd, 1), (55, .iaload, 1), (56, .aload_n 0, 1), (57, .getfield 81, 3), (60, .sipush 700, 3), (63, .aload_n 0, 1), (64, .getfield 72, 3), (67, .bipush 100, 2), (69, .iload_n 2, 1), (70, .iadd, 1), (71, .iaload, 1), (72, .iadd, 1), (73, .iload 4, 2), (75, .iadd, 1), (76, .iaload, 1), (77, .if_icmp .ne 7, 3), (80, .iconst 1, 1), (81, .goto 4, 3), (84, .iconst 0, 1), (85, .istore_n 3, 1), (86, .iinc 4 1, 3), (89, .goto (-62), 3), (92, .iload_n 3, 1), (93, .ireturn, 1)]
theorem nd_i216_ok : am_ic prog_14_method_66_code nd_i216 = true := by decide +kernel
def nd_s216 : List nm_S := []
theorem nd_s216_ok : nd_s216.all (nm_schk nd_ct nd_ml "PaperParcelsModel") = true := by decide +kernel
theorem nd_ok216 : am_ok nm_Ts nm_Tn nd_cl nd_mt nd_fr nd_lo 216 (am_in nd_i216) (am_fl nd_f11) (am_ct nd_k11) (am_sl nd_ml nd_s216) := nm_ok (x := 216) (ini := false) rfl (by decide +kernel) nd_cok nd_i216_ok (by decide) nd_f11_ok nd_k11_ok nd_s216_ok (by decide +kernel)
-- PaperParcelsModel.beginPair(III)V
def nd_i217 : List (Nat × Instr × Nat) := [(0, .aload_n 0, 1), (1, .getfield 114, 3), (4, .iload_n 1, 1), (5, .iload_n 2, 1), (6, .iastore, 1), (7, .aload_n 0, 1), (8, .getfield 117, 3), (11, .iload_n 1, 1), (12, .iload_n 3, 1), (13, .iastore, 1), (14, .aload_n 0, 1), (15, .getfield 120, 3), (18, .iload_n 1, 1), (19, .iconst 0, 1), (20, .iastore, 1), (21, .aload_n 0, 1), (22, .getfield 123, 3), (25, .iload_n 1, 1), (26, .iconst 0, 1), (27, .iastore, 1), (28, .aload_n 0, 1), (29, .iload_n 2, 1), (30, .iload_n 3, 1), (31, .invokevirtual 354, 3), (34, .ifCond .le 11, 3), (37, .aload_n 0, 1), (38, .iload_n 2, 1), (39, .iload_n 3, 1), (40, .iconst (-1), 1), (41, .iconst (-1), 1), (42, .invokevirtual 360, 3), (45, .return_, 1)]
theorem nd_i217_ok : am_ic prog_14_method_72_code nd_i217 = true := by decide +kernel
def nd_s217 : List nm_S := [(354, 215, false, 1665), (360, 218, false, 1677)]
theorem nd_s217_ok : nd_s217.all (nm_schk nd_ct nd_ml "PaperParcelsModel") = true := by decide +kernel
theorem nd_ok217 : am_ok nm_Ts nm_Tn nd_cl nd_mt nd_fr nd_lo 217 (am_in nd_i217) (am_fl nd_f11) (am_ct nd_k11) (am_sl nd_ml nd_s217) := nm_ok (x := 217) (ini := false) rfl (by decide +kernel) nd_cok nd_i217_ok (by decide) nd_f11_ok nd_k11_ok nd_s217_ok (by decide +kernel)
-- PaperParcelsModel.addStep(IIII)V
def nd_i218 : List (Nat × Instr × Nat) := [(0, .aload_n 0, 1), (1, .getfield 87, 3), (4, .aload_n 0, 1), (5, .getfield 357, 3), (8, .iload_n 1, 1), (9, .iastore, 1), (10, .aload_n 0, 1), (11, .getfield 90, 3), (14, .aload_n 0, 1), (15, .getfield 357, 3), (18, .iload_n 2, 1), (19, .iastore, 1), (20, .aload_n 0, 1), (21, .getfield 93, 3), (24, .aload_n 0, 1), (25, .getfield 357, 3), (28, .iload_n 3, 1), (29, .iastore, 1), (30, .aload_n 0, 1), (31, .getfield 96, 3), (34, .aload_n 0, 1), (35, .getfield 357, 3), (38, .iload 4, 2), (40, .iastore, 1), (41, .aload_n 0, 1), (42, .dup, 1), (43, .getfield 357, 3), (46, .iconst 1, 1), (47, .iadd, 1), (48, .putfield 357, 3), (51, .return_, 1)]
theorem nd_i218_ok : am_ic prog_14_method_71_code nd_i218 = true := by decide +kernel
def nd_s218 : List nm_S := []
theorem nd_s218_ok : nd_s218.all (nm_schk nd_ct nd_ml "PaperParcelsModel") = true := by decide +kernel
theorem nd_ok218 : am_ok nm_Ts nm_Tn nd_cl nd_mt nd_fr nd_lo 218 (am_in nd_i218) (am_fl nd_f11) (am_ct nd_k11) (am_sl nd_ml nd_s218) := nm_ok (x := 218) (ini := false) rfl (by decide +kernel) nd_cok nd_i218_ok (by decide) nd_f11_ok nd_k11_ok nd_s218_ok (by decide +kernel)
-- PaperParcelsModel.goOn(I)Z
def nd_i219 : List (Nat × Instr × Nat) := [(0, .aload_n 0, 1), (1, .getfield 114, 3), (4, .iload_n 1, 1), (5, .iaload, 1), (6, .istore_n 2, 1), (7, .aload_n 0, 1), (8, .iload_n 2, 1), (9, .aload_n 0, 1), (10, .getfield 117, 3), (13, .iload_n 1, 1), (14, .iaload, 1), (15, .invokevirtual 351, 3), (18, .aload_n 0, 1), (19, .getfield 120, 3), (22, .iload_n 1, 1), (23, .iaload, 1), (24, .istore_n 3, 1), (25, .aload_n 0, 1), (26, .getfield 123, 3), (29, .iload_n 1, 1), (30, .iaload, 1), (31, .istore 4, 2), (33, .iload_n 3, 1), (34, .aload_n 0, 1), (35, .getfield 341, 3), (38, .if_icmp .lt 12, 3), (41, .iload 4, 2), (43, .aload_n 0, 1), (44, .getfield 344, 3), (47, .if_icmp .ge 209, 3), (50, .aload_n 0, 1), (51, .getfield 111, 3), (54, .bipush 41, 2), (56, .iload_n 3, 1), (57, .imul, 1), (58, .iload 4, 2), (60, .iadd, 1), (61, .iaload, 1), (62, .istore 5, 2), (64, .aload_n 0, 1), (65, .iload_n 3, 1), (66, .iload 4, 2), (68, .invokevirtual 348, 3), (71, .ifCond .eq 89, 3), (74, .aload_n 0, 1), (75, .getfield 102, 3), (78, .bipush 40, 2), (80, .aload_n 0, 1), (81, .getfield 105, 3), (84, .iload_n 3, 1), (85, .iaload, 1), (86, .imul, 1), (87, .aload_n 0, 1), (88, .getfield 108, 3), (91, .iload 4, 2), (93, .iaload, 1), (94, .iadd, 1), (95, .iaload, 1), (96, .aload_n 0, 1), (97, .getfield 111, 3), (100, .bipush 41, 2), (102, .iload_n 3, 1), (103, .imul, 1), (104, .bipush 41, 2), (106, .iadd, 1), (107, .iload 4, 2), (109, .iadd, 1), (110, .iconst 1, 1), (111, .iadd, 1), (112, .iaload, 1), (113, .iadd, 1), (114, .iload 5, 2), (116, .if_icmp .ne 44, 3), (119, .aload_n 0, 1), (120, .getfield 120, 3), (123, .iload_n 1, 1), (124, .iload_n 3, 1), (125, .iconst 1, 1), (126, .iadd, 1), (127, .iastore, 1), (128, .aload_n 0, 1), (129, .getfield 123, 3), (132, .iload_n 1, 1), (133, .iload 4, 2), (135, .iconst 1, 1), (136, .iadd, 1), (137, .iastore, 1), (138, .aload_n 0, 1), (139, .iload_n 1, 1), (140, .iconst 1, 1), (141, .iadd, 1), (142, .aload_n 0, 1), (143, .getfield 105, 3), (146, .iload_n 3, 1), (147, .iaload, 1), (148, .aload_n 0, 1), (149, .getfield 108, 3), (152, .iload 4, 2), (154, .iaload, 1), (155, .invokevirtual 363, 3), (158, .iconst 1, 1), (159, .ireturn, 1), (160, .iload_n 3, 1), (161, .aload_n 0, 1), (162, .getfield 341, 3), (165, .if_icmp .ge 54, 3), (168, .aload_n 0, 1), (169, .getfield 99, 3), (172, .aload_n 0, 1), (173, .getfield 105, 3), (176, .iload_n 3, 1), (177, .iaload, 1), (178, .iaload, 1), (179, .aload_n 0, 1), (180, .getfield 111, 3), (183, .bipush 41, 2), (185, .iload_n 3, 1), (186, .imul, 1), (187, .bipush 41, 2), (189, .iadd, 1), (190, .iload 4, 2), (192, .iadd, 1), (193, .iaload, 1), (194, .iadd, 1), (195, .iload 5, 2), (197, .if_icmp .ne 22, 3), (200, .aload_n 0, 1), (201, .aload_n 0, 1), (202, .getfield 105, 3), (205, .iload_n 3, 1), (206, .iaload, 1), (207, .iconst (-1), 1), (208, .iconst (-1), 1), (209, .iconst (-1), 1), (210, .invokevirtual 360, 3), (213, .iinc 3 1, 3), (216, .goto 37, 3), (219, .aload_n 0, 1), (220, .iconst (-1), 1), (221, .aload_n 0, 1), (222, .getfield 108, 3), (225, .iload 4, 2), (227, .iaload, 1), (228, .iload_n 2, 1), (229, .iload_n 3, 1), (230, .aload_n 0, 1), (231, .getfield 341, 3), (234, .if_icmp .ge 12, 3), (237, .aload_n 0, 1), (238, .getfield 105, 3), (241, .iload_n 3, 1), (242, .iaload, 1), (243, .goto 4, 3), (246, .iconst (-1), 1), (247, .invokevirtual 360, 3), (250, .iinc 4 1, 3), (253, .goto (-220), 3), (256, .iconst 0, 1), (257, .ireturn, 1)]
theorem nd_i219_ok : am_ic prog_14_method_73_code nd_i219 = true := by decide +kernel
def nd_s219 : List nm_S := [(351, 213, false, 1656), (348, 214, false, 1661), (363, 217, false, 1673), (360, 218, false, 1677)]
theorem nd_s219_ok : nd_s219.all (nm_schk nd_ct nd_ml "PaperParcelsModel") = true := by decide +kernel
theorem nd_ok219 : am_ok nm_Ts nm_Tn nd_cl nd_mt nd_fr nd_lo 219 (am_in nd_i219) (am_fl nd_f11) (am_ct nd_k11) (am_sl nd_ml nd_s219) := nm_ok (x := 219) (ini := false) rfl (by decide +kernel) nd_cok nd_i219_ok (by decide) nd_f11_ok nd_k11_ok nd_s219_ok (by decide +kernel)
-- PaperParcelsModel.steps()I
def nd_i220 : List (Nat × Instr × Nat) := [(0, .aload_n 0, 1), (1, .iconst 0, 1), (2, .putfield 150, 3), (5, .aload_n 0, 1), (6, .getfield 326, 3), (9, .ifCond .eq 10, 3), (12, .aload_n 0, 1), (13, .getfield 357, 3), (16, .goto 4, 3), (19, .iconst 0, 1), (20, .ireturn, 1)]
theorem nd_i220_ok : am_ic prog_14_method_75_code nd_i220 = true := by decide +kernel
def nd_s220 : List nm_S := []
theorem nd_s220_ok : nd_s220.all (nm_schk nd_ct nd_ml "PaperParcelsModel") = true := by decide +kernel
theorem nd_ok220 : am_ok nm_Ts nm_Tn nd_cl nd_mt nd_fr nd_lo 220 (am_in nd_i220) (am_fl nd_f11) (am_ct nd_k11) (am_sl nd_ml nd_s220) := nm_ok (x := 220) (ini := false) rfl (by decide +kernel) nd_cok nd_i220_ok (by decide) nd_f11_ok nd_k11_ok nd_s220_ok (by decide +kernel)
-- PaperParcelsModel.step(IZ)I
def nd_i221 : List (Nat × Instr × Nat) := [(0, .aload_n 0, 1), (1, .iload_n 1, 1), (2, .ifCond .lt 18, 3), (5, .aload_n 0, 1), (6, .getfield 326, 3), (9, .ifCond .eq 11, 3), (12, .iload_n 1, 1), (13, .aload_n 0, 1), (14, .getfield 357, 3), (17, .if_icmp .lt 7, 3), (20, .iconst 1, 1), (21, .goto 4, 3), (24, .iconst 0, 1), (25, .putfield 150, 3), (28, .aload_n 0, 1), (29, .getfield 150, 3), (32, .ifCond .le 7, 3), (35, .iconst 0, 1), (36, .goto 22, 3), (39, .iload_n 2, 1), (40, .ifCond .eq 12, 3), (43, .aload_n 0, 1), (44, .getfield 90, 3), (47, .iload_n 1, 1), (48, .iaload, 1), (49, .goto 9, 3), (52, .aload_n 0, 1), (53, .getfield 87, 3), (56, .iload_n 1, 1), (57, .iaload, 1), (58, .ireturn, 1)]
theorem nd_i221_ok : am_ic prog_14_method_76_code nd_i221 = true := by decide +kernel
def nd_s221 : List nm_S := []
theorem nd_s221_ok : nd_s221.all (nm_schk nd_ct nd_ml "PaperParcelsModel") = true := by decide +kernel
theorem nd_ok221 : am_ok nm_Ts nm_Tn nd_cl nd_mt nd_fr nd_lo 221 (am_in nd_i221) (am_fl nd_f11) (am_ct nd_k11) (am_sl nd_ml nd_s221) := nm_ok (x := 221) (ini := false) rfl (by decide +kernel) nd_cok nd_i221_ok (by decide) nd_f11_ok nd_k11_ok nd_s221_ok (by decide +kernel)
end
section
-- PaperParcelsModel.apply(I)I
def nd_i222 : List (Nat × Instr × Nat) := [(0, .aload_n 0, 1), (1, .aload_n 0, 1), (2, .getfield 326, 3), (5, .ifCond .ne 7, 3), (8, .iconst 1, 1), (9, .goto 20, 3), (12, .iload_n 1, 1), (13, .ifCond .lt 11, 3), (16, .iload_n 1, 1), (17, .aload_n 0, 1), (18, .getfield 357, 3), (21, .if_icmp .le 7, 3), (24, .iconst 2, 1), (25, .goto 4, 3), (28, .iconst 0, 1), (29, .putfield 150, 3), (32, .aload_n 0, 1), (33, .getfield 150, 3), (36, .ifCond .le 5, 3), (39, .iconst 0, 1), (40, .ireturn, 1), (41, .aload_n 0, 1), (42, .iload_n 1, 1), (43, .invokevirtual 378, 3), (46, .aload_n 0, 1), (47, .getfield 60, 3), (50, .iconst 2, 1), (51, .iconst 0, 1), (52, .iastore, 1), (53, .aload_n 0, 1), (54, .getfield 78, 3), (57, .iconst 2, 1), (58, .iconst 0, 1), (59, .iastore, 1), (60, .iconst 0, 1), (61, .istore_n 2, 1), (62, .iload_n 2, 1), (63, .aload_n 0, 1), (64, .getfield 60, 3), (67, .iconst 0, 1), (68, .iaload, 1), (69, .if_icmp .gt 107, 3), (72, .iload_n 2, 1), (73, .iconst 1, 1), (74, .isub, 1), (75, .istore_n 3, 1), (76, .iload_n 3, 1), (77, .ifCond .lt 39, 3), (80, .aload_n 0, 1), (81, .iconst 0, 1), (82, .iload_n 3, 1), (83, .invokevirtual 375, 3), (86, .iload_n 2, 1), (87, .if_icmp .ne 29, 3), (90, .aload_n 0, 1), (91, .getfield 126, 3), (94, .iload_n 3, 1), (95, .baload, 1), (96, .ifCond .ne 10, 3), (99, .aload_n 0, 1), (100, .iload_n 3, 1), (101, .iconst (-1), 1), (102, .iload_n 1, 1), (103, .invokevirtual 381, 3), (106, .aload_n 0, 1), (107, .getfield 66, 3), (110, .iload_n 3, 1), (111, .iaload, 1), (112, .istore_n 3, 1), (113, .goto (-37), 3), (116, .iload_n 2, 1), (117, .aload_n 0, 1), (118, .getfield 60, 3), (121, .iconst 0, 1), (122, .iaload, 1), (123, .if_icmp .ge 47, 3), (126, .iload_n 2, 1), (127, .ifCond .le 29, 3), (130, .aload_n 0, 1), (131, .getfield 126, 3), (134, .aload_n 0, 1), (135, .getfield 66, 3), (138, .iload_n 2, 1), (139, .iaload, 1), (140, .baload, 1), (141, .ifCond .ne 15, 3), (144, .aload_n 0, 1), (145, .aload_n 0, 1), (146, .getfield 66, 3), (149, .iload_n 2, 1), (150, .iaload, 1), (151, .iload_n 2, 1), (152, .iload_n 1, 1), (153, .invokevirtual 381, 3), (156, .aload_n 0, 1), (157, .getfield 126, 3), (160, .iload_n 2, 1), (161, .baload, 1), (162, .ifCond .ne 8, 3), (165, .aload_n 0, 1), (166, .iload_n 2, 1), (167, .invokevirtual 384, 3), (170, .iinc 2 1, 3), (173, .goto (-111), 3), (176, .aload_n 0, 1), (177, .getfield 60, 3), (180, .iconst 2, 1), (181, .iaload, 1), (182, .ireturn, 1)]
theorem nd_i222_ok : am_ic prog_14_method_81_code nd_i222 = true := by decide +kernel
def nd_s222 : List nm_S := [(378, 223, false, 1697), (375, 224, false, 1701), (381, 225, false, 1705), (384, 226, false, 1709)]
theorem nd_s222_ok : nd_s222.all (nm_schk nd_ct nd_ml "PaperParcelsModel") = true := by decide +kernel
theorem nd_ok222 : am_ok nm_Ts nm_Tn nd_cl nd_mt nd_fr nd_lo 222 (am_in nd_i222) (am_fl nd_f11) (am_ct nd_k11) (am_sl nd_ml nd_s222) := nm_ok (x := 222) (ini := false) rfl (by decide +kernel) nd_cok nd_i222_ok (by decide) nd_f11_ok nd_k11_ok nd_s222_ok (by decide +kernel)
-- PaperParcelsModel.mark(I)V
def nd_i223 : List (Nat × Instr × Nat) := [(0, .iconst 0, 1), (1, .istore_n 2, 1), (2, .iload_n 2, 1), (3, .aload_n 0, 1), (4, .getfield 60, 3), (7, .iconst 0, 1), (8, .iaload, 1), (9, .if_icmp .ge 128, 3), (12, .aload_n 0, 1), (13, .getfield 126, 3), (16, .iload_n 2, 1), (17, .iload_n 2, 1), (18, .ifCond .le 21, 3), (21, .aload_n 0, 1), (22, .getfield 126, 3), (25, .aload_n 0, 1), (26, .getfield 66, 3), (29, .iload_n 2, 1), (30, .iaload, 1), (31, .baload, 1), (32, .ifCond .eq 7, 3), (35, .iconst 1, 1), (36, .goto 4, 3), (39, .iconst 0, 1), (40, .bastore, 1), (41, .aload_n 0, 1), (42, .getfield 129, 3), (45, .iload_n 2, 1), (46, .iconst (-1), 1), (47, .iastore, 1), (48, .iconst 0, 1), (49, .istore_n 3, 1), (50, .iload_n 3, 1), (51, .iload_n 1, 1), (52, .if_icmp .ge 79, 3), (55, .aload_n 0, 1), (56, .getfield 126, 3), (59, .iload_n 2, 1), (60, .aload_n 0, 1), (61, .getfield 126, 3), (64, .iload_n 2, 1), (65, .baload, 1), (66, .ifCond .ne 22, 3), (69, .aload_n 0, 1), (70, .getfield 87, 3), (73, .iload_n 3, 1), (74, .iaload, 1), (75, .iload_n 2, 1), (76, .if_icmp .ne 16, 3), (79, .aload_n 0, 1), (80, .getfield 90, 3), (83, .iload_n 3, 1), (84, .iaload, 1), (85, .ifCond .ge 7, 3), (88, .iconst 1, 1), (89, .goto 4, 3), (92, .iconst 0, 1), (93, .bastore, 1), (94, .aload_n 0, 1), (95, .getfield 129, 3), (98, .iload_n 2, 1), (99, .aload_n 0, 1), (100, .getfield 87, 3), (103, .iload_n 3, 1), (104, .iaload, 1), (105, .iload_n 2, 1), (106, .if_icmp .ne 12, 3), (109, .aload_n 0, 1), (110, .getfield 90, 3), (113, .iload_n 3, 1), (114, .iaload, 1), (115, .goto 9, 3), (118, .aload_n 0, 1), (119, .getfield 129, 3), (122, .iload_n 2, 1), (123, .iaload, 1), (124, .iastore, 1), (125, .iinc 3 1, 3), (128, .goto (-78), 3), (131, .iinc 2 1, 3), (134, .goto (-132), 3), (137, .return_, 1)]
theorem nd_i223_ok : am_ic prog_14_method_79_code nd_i223 = true := by decide +kernel
def nd_s223 : List nm_S := []
theorem nd_s223_ok : nd_s223.all (nm_schk nd_ct nd_ml "PaperParcelsModel") = true := by decide +kernel
theorem nd_ok223 : am_ok nm_Ts nm_Tn nd_cl nd_mt nd_fr nd_lo 223 (am_in nd_i223) (am_fl nd_f11) (am_ct nd_k11) (am_sl nd_ml nd_s223) := nm_ok (x := 223) (ini := false) rfl (by decide +kernel) nd_cok nd_i223_ok (by decide) nd_f11_ok nd_k11_ok nd_s223_ok (by decide +kernel)
-- PaperParcelsModel.endOf(II)I
def nd_i224 : List (Nat × Instr × Nat) := [(0, .iload_n 2, 1), (1, .iconst 1, 1), (2, .iadd, 1), (3, .istore_n 3, 1), (4, .iconst 1, 1), (5, .istore 4, 2), (7, .iload_n 3, 1), (8, .aload_n 0, 1), (9, .getfield 60, 3), (12, .iload_n 1, 1), (13, .iaload, 1), (14, .if_icmp .ge 73, 3), (17, .iload 4, 2), (19, .ifCond .eq 68, 3), (22, .aload_n 0, 1), (23, .getfield 66, 3), (26, .bipush 100, 2), (28, .iload_n 1, 1), (29, .imul, 1), (30, .iload_n 3, 1), (31, .iadd, 1), (32, .iaload, 1), (33, .istore 5, 2), (35, .iload 5, 2), (37, .iload_n 2, 1), (38, .if_icmp .le 20, 3), (41, .aload_n 0, 1), (42, .getfield 66, 3), (45, .bipush 100, 2), (47, .iload_n 1, 1), (48, .imul, 1), (49, .iload 5, 2), (51, .iadd, 1), (52, .iaload, 1), (53, .istore 5, 2), (55, .goto (-20), 3), (58, .iload 5, 2), (60, .iload_n 2, 1), (61, .if_icmp .ne 7, 3), (64, .iconst 1, 1), (65, .goto 4, 3), (68, .iconst 0, 1), (69, .istore 4, 2), (71, .iload_n 3, 1), (72, .iload 4, 2), (74, .ifCond .eq 7, 3), (77, .iconst 1, 1), (78, .goto 4, 3), (81, .iconst 0, 1), (82, .iadd, 1), (83, .istore_n 3, 1), (84, .goto (-77), 3), (87, .iload_n 3, 1), (88, .ireturn, 1)]
theorem nd_i224_ok : am_ic prog_14_method_77_code nd_i224 = true := by decide +kernel
def nd_s224 : List nm_S := []
theorem nd_s224_ok : nd_s224.all (nm_schk nd_ct nd_ml "PaperParcelsModel") = true := by decide +kernel
theorem nd_ok224 : am_ok nm_Ts nm_Tn nd_cl nd_mt nd_fr nd_lo 224 (am_in nd_i224) (am_fl nd_f11) (am_ct nd_k11) (am_sl nd_ml nd_s224) := nm_ok (x := 224) (ini := false) rfl (by decide +kernel) nd_cok nd_i224_ok (by decide) nd_f11_ok nd_k11_ok nd_s224_ok (by decide +kernel)
-- PaperParcelsModel.putIn(III)V
def nd_i225 : List (Nat × Instr × Nat) := [(0, .iconst 0, 1), (1, .istore 4, 2), (3, .iload 4, 2), (5, .iload_n 3, 1), (6, .if_icmp .ge 124, 3), (9, .aload_n 0, 1), (10, .getfield 87, 3), (13, .iload 4, 2), (15, .iaload, 1), (16, .ifCond .ge 108, 3), (19, .aload_n 0, 1), (20, .getfield 93, 3), (23, .iload 4, 2), (25, .iaload, 1), (26, .iload_n 1, 1), (27, .if_icmp .ne 97, 3), (30, .aload_n 0, 1), (31, .getfield 96, 3), (34, .iload 4, 2), (36, .iaload, 1), (37, .iload_n 2, 1), (38, .if_icmp .ne 86, 3), (41, .aload_n 0, 1), (42, .getfield 90, 3), (45, .iload 4, 2), (47, .iaload, 1), (48, .istore 5, 2), (50, .aload_n 0, 1), (51, .iconst 1, 1), (52, .iload 5, 2), (54, .invokevirtual 375, 3), (57, .istore 6, 2), (59, .aload_n 0, 1), (60, .getfield 60, 3), (63, .iconst 2, 1), (64, .iaload, 1), (65, .iload 5, 2), (67, .isub, 1), (68, .istore 7, 2), (70, .iload 5, 2), (72, .istore 8, 2), (74, .iload 8, 2), (76, .iload 6, 2), (78, .if_icmp .ge 46, 3), (81, .aload_n 0, 1), (82, .iconst 2, 1), (83, .iconst 1, 1), (84, .iload 8, 2), (86, .iload 8, 2), (88, .iload 5, 2), (90, .if_icmp .ne 12, 3), (93, .aload_n 0, 1), (94, .getfield 132, 3), (97, .iload_n 1, 1), (98, .iaload, 1), (99, .goto 16, 3), (102, .aload_n 0, 1), (103, .getfield 66, 3), (106, .bipush 100, 2), (108, .iload 8, 2), (110, .iadd, 1), (111, .iaload, 1), (112, .iload 7, 2), (114, .iadd, 1), (115, .invokevirtual 323, 3), (118, .iinc 8 1, 3), (121, .goto (-47), 3), (124, .iinc 4 1, 3), (127, .goto (-124), 3), (130, .return_, 1)]
theorem nd_i225_ok : am_ic prog_14_method_78_code nd_i225 = true := by decide +kernel
def nd_s225 : List nm_S := [(375, 224, false, 1701), (323, 198, false, 1597)]
theorem nd_s225_ok : nd_s225.all (nm_schk nd_ct nd_ml "PaperParcelsModel") = true := by decide +kernel
theorem nd_ok225 : am_ok nm_Ts nm_Tn nd_cl nd_mt nd_fr nd_lo 225 (am_in nd_i225) (am_fl nd_f11) (am_ct nd_k11) (am_sl nd_ml nd_s225) := nm_ok (x := 225) (ini := false) rfl (by decide +kernel) nd_cok nd_i225_ok (by decide) nd_f11_ok nd_k11_ok nd_s225_ok (by decide +kernel)
-- PaperParcelsModel.keep(I)V
def nd_i226 : List (Nat × Instr × Nat) := [(0, .aload_n 0, 1), (1, .getfield 132, 3), (4, .iload_n 1, 1), (5, .aload_n 0, 1), (6, .getfield 60, 3), (9, .iconst 2, 1), (10, .iaload, 1), (11, .iastore, 1), (12, .aload_n 0, 1), (13, .getfield 66, 3), (16, .iload_n 1, 1), (17, .iaload, 1), (18, .ifCond .ge 7, 3), (21, .iconst (-1), 1), (22, .goto 14, 3), (25, .aload_n 0, 1), (26, .getfield 132, 3), (29, .aload_n 0, 1), (30, .getfield 66, 3), (33, .iload_n 1, 1), (34, .iaload, 1), (35, .iaload, 1), (36, .istore_n 2, 1), (37, .aload_n 0, 1), (38, .getfield 129, 3), (41, .iload_n 1, 1), (42, .iaload, 1), (43, .ifCond .ge 14, 3), (46, .aload_n 0, 1), (47, .iconst 2, 1), (48, .iconst 0, 1), (49, .iload_n 1, 1), (50, .iload_n 2, 1), (51, .invokevirtual 323, 3), (54, .goto 35, 3), (57, .aload_n 0, 1), (58, .iconst 2, 1), (59, .aload_n 0, 1), (60, .getfield 63, 3), (63, .iload_n 1, 1), (64, .iaload, 1), (65, .iload_n 2, 1), (66, .invokevirtual 269, 3), (69, .aload_n 0, 1), (70, .iconst 2, 1), (71, .aload_n 0, 1), (72, .getfield 60, 3), (75, .iconst 2, 1), (76, .iaload, 1), (77, .iconst 1, 1), (78, .isub, 1), (79, .iconst 1, 1), (80, .aload_n 0, 1), (81, .getfield 129, 3), (84, .iload_n 1, 1), (85, .iaload, 1), (86, .invokevirtual 279, 3), (89, .return_, 1)]
theorem nd_i226_ok : am_ic prog_14_method_80_code nd_i226 = true := by decide +kernel
def nd_s226 : List nm_S := [(323, 198, false, 1597), (269, 190, false, 1565), (279, 199, false, 1601)]
theorem nd_s226_ok : nd_s226.all (nm_schk nd_ct nd_ml "PaperParcelsModel") = true := by decide +kernel
theorem nd_ok226 : am_ok nm_Ts nm_Tn nd_cl nd_mt nd_fr nd_lo 226 (am_in nd_i226) (am_fl nd_f11) (am_ct nd_k11) (am_sl nd_ml nd_s226) := nm_ok (x := 226) (ini := false) rfl (by decide +kernel) nd_cok nd_i226_ok (by decide) nd_f11_ok nd_k11_ok nd_s226_ok (by decide +kernel)
-- PaperParcelsModel.emit(II)I
def nd_i227 : List (Nat × Instr × Nat) := [(0, .aload_n 0, 1), (1, .iload_n 1, 1), (2, .invokestatic 329, 3), (5, .ifCond .eq 12, 3), (8, .iload_n 2, 1), (9, .ifCond .eq 12, 3), (12, .iload_n 2, 1), (13, .iconst 1, 1), (14, .if_icmp .eq 7, 3), (17, .iconst 1, 1), (18, .goto 17, 3), (21, .aload_n 0, 1), (22, .getfield 60, 3), (25, .iload_n 1, 1), (26, .iaload, 1), (27, .ifCond .ne 7, 3), (30, .iconst 2, 1), (31, .goto 4, 3), (34, .iconst 0, 1), (35, .putfield 150, 3), (38, .aload_n 0, 1), (39, .getfield 150, 3), (42, .ifCond .le 5, 3), (45, .iconst 0, 1), (46, .ireturn, 1), (47, .aload_n 0, 1), (48, .iload_n 1, 1), (49, .invokevirtual 440, 3), (52, .aload_n 0, 1), (53, .iload_n 1, 1), (54, .invokevirtual 443, 3), (57, .aload_n 0, 1), (58, .getfield 390, 3), (61, .bipush 26, 2), (63, .if_icmp .gt 27, 3), (66, .aload_n 0, 1), (67, .getfield 138, 3), (70, .iconst 0, 1), (71, .iaload, 1), (72, .sipush 300, 3), (75, .if_icmp .gt 15, 3), (78, .aload_n 0, 1), (79, .getfield 138, 3), (82, .iconst 1, 1), (83, .iaload, 1), (84, .sipush 300, 3), (87, .if_icmp .le 9, 3), (90, .aload_n 0, 1), (91, .iconst 3, 1), (92, .invokevirtual 335, 3), (95, .ireturn, 1), (96, .aload_n 0, 1), (97, .iconst 0, 1), (98, .iload_n 2, 1), (99, .invokevirtual 446, 3), (102, .aload_n 0, 1), (103, .iconst 1, 1), (104, .iload_n 2, 1), (105, .invokevirtual 446, 3), (108, .bipush 18, 2), (110, .aload_n 0, 1), (111, .getfield 144, 3), (114, .iconst 0, 1), (115, .iaload, 1), (116, .iadd, 1), (117, .aload_n 0, 1), (118, .getfield 144, 3), (121, .iconst 1, 1), (122, .iaload, 1), (123, .iadd, 1), (124, .sipush 480, 3), (127, .if_icmp .le 9, 3), (130, .aload_n 0, 1), (131, .iconst 3, 1), (132, .invokevirtual 335, 3), (135, .ireturn, 1), (136, .aload_n 0, 1), (137, .iconst 0, 1), (138, .putfield 155, 3), (141, .aload_n 0, 1), (142, .iconst 0, 1), (143, .iload_n 2, 1), (144, .invokevirtual 449, 3), (147, .aload_n 0, 1), (148, .iconst 1, 1), (149, .iload_n 2, 1), (150, .invokevirtual 449, 3), (153, .aload_n 0, 1), (154, .getfield 155, 3), (157, .ireturn, 1)]
theorem nd_i227_ok : am_ic prog_14_method_97_code nd_i227 = true := by decide +kernel
def nd_s227 : List nm_S := [(329, 202, false, 1613), (440, 228, false, 1717), (443, 234, false, 1746), (335, 207, false, 1632), (446, 237, false, 1760), (449, 240, false, 1772)]
theorem nd_s227_ok : nd_s227.all (nm_schk nd_ct nd_ml "PaperParcelsModel") = true := by decide +kernel
theorem nd_ok227 : am_ok nm_Ts nm_Tn nd_cl nd_mt nd_fr nd_lo 227 (am_in nd_i227) (am_fl nd_f11) (am_ct nd_k11) (am_sl nd_ml nd_s227) := nm_ok (x := 227) (ini := false) rfl (by decide +kernel) nd_cok nd_i227_ok (by decide) nd_f11_ok nd_k11_ok nd_s227_ok (by decide +kernel)
-- PaperParcelsModel.sayStyles(I)V
def nd_i228 : List (Nat × Instr × Nat) := [(0, .aload_n 0, 1), (1, .iconst 0, 1), (2, .putfield 390, 3), (5, .iconst 0, 1), (6, .istore_n 2, 1), (7, .iload_n 2, 1), (8, .aload_n 0, 1), (9, .getfield 60, 3), (12, .iload_n 1, 1), (13, .iaload, 1), (14, .if_icmp .ge 25, 3), (17, .aload_n 0, 1), (18, .iload_n 1, 1), (19, .iload_n 2, 1), (20, .invokevirtual 393, 3), (23, .ifCond .eq 10, 3), (26, .aload_n 0, 1), (27, .iload_n 1, 1), (28, .iload_n 2, 1), (29, .invokevirtual 396, 3), (32, .istore_n 3, 1), (33, .iinc 2 1, 3), (36, .goto (-29), 3), (39, .aload_n 0, 1), (40, .getfield 138, 3), (43, .iconst 0, 1), (44, .iconst 0, 1), (45, .iastore, 1), (46, .aload_n 0, 1), (47, .iconst 0, 1), (48, .ldc2_w 399, 3), (51, .invokevirtual 401, 3), (54, .aload_n 0, 1), (55, .iconst 0, 1), (56, .aload_n 0, 1), (57, .getfield 390, 3), (60, .ifCond .ne 9, 3), (63, .ldc2_w 405, 3), (66, .goto 6, 3), (69, .ldc2_w 407, 3), (72, .invokevirtual 401, 3), (75, .iconst 0, 1), (76, .istore_n 2, 1), (77, .iload_n 2, 1), (78, .aload_n 0, 1), (79, .getfield 390, 3), (82, .if_icmp .ge 128, 3), (85, .aload_n 0, 1), (86, .getfield 390, 3), (89, .bipush 26, 2), (91, .if_icmp .gt 119, 3), (94, .aload_n 0, 1), (95, .iconst 0, 1), (96, .ldc2_w 409, 3), (99, .invokevirtual 401, 3), (102, .aload_n 0, 1), (103, .iconst 0, 1), (104, .bipush 110, 2), (106, .iconst 0, 1), (107, .bipush 65, 2), (109, .iload_n 2, 1), (110, .iadd, 1), (111, .invokevirtual 411, 3), (114, .aload_n 0, 1), (115, .iconst 0, 1), (116, .bipush 98, 2), (118, .iconst 0, 1), (119, .bipush 48, 2), (121, .aload_n 0, 1), (122, .getfield 147, 3), (125, .iconst 3, 1), (126, .iload_n 2, 1), (127, .imul, 1), (128, .iaload, 1), (129, .iadd, 1), (130, .invokevirtual 411, 3), (133, .aload_n 0, 1), (134, .getfield 147, 3), (137, .iconst 3, 1), (138, .iload_n 2, 1), (139, .imul, 1), (140, .iconst 1, 1), (141, .iadd, 1), (142, .iaload, 1), (143, .istore_n 3, 1), (144, .aload_n 0, 1), (145, .iconst 0, 1), (146, .bipush 122, 2), (148, .iload_n 3, 1), (149, .bipush 9, 2), (151, .if_icmp .le 13, 3), (154, .bipush 48, 2), (156, .iload_n 3, 1), (157, .bipush 10, 2), (159, .idiv, 1), (160, .iadd, 1), (161, .goto 4, 3), (164, .iconst 0, 1), (165, .bipush 48, 2), (167, .iload_n 3, 1), (168, .bipush 10, 2), (170, .irem, 1), (171, .iadd, 1), (172, .invokevirtual 411, 3), (175, .aload_n 0, 1), (176, .iconst 0, 1), (177, .bipush 107, 2), (179, .iconst 0, 1), (180, .bipush 48, 2), (182, .aload_n 0, 1), (183, .getfield 147, 3), (186, .iconst 3, 1), (187, .iload_n 2, 1), (188, .imul, 1), (189, .iconst 2, 1), (190, .iadd, 1), (191, .iaload, 1), (192, .iadd, 1), (193, .invokevirtual 411, 3), (196, .aload_n 0, 1), (197, .iconst 0, 1), (198, .ldc2_w 405, 3), (201, .invokevirtual 401, 3), (204, .iinc 2 1, 3), (207, .goto (-130), 3), (210, .aload_n 0, 1), (211, .getfield 390, 3), (214, .ifCond .le 11, 3), (217, .aload_n 0, 1), (218, .iconst 0, 1), (219, .ldc2_w 414, 3), (222, .invokevirtual 401, 3), (225, .return_, 1)]
theorem nd_i228_ok : am_ic prog_14_method_87_code nd_i228 = true := by decide +kernel
def nd_s228 : List nm_S := [(393, 229, false, 1721), (396, 230, false, 1725), (401, 231, false, 1730), (411, 233, false, 1741)]
theorem nd_s228_ok : nd_s228.all (nm_schk nd_ct nd_ml "PaperParcelsModel") = true := by decide +kernel
theorem nd_ok228 : am_ok nm_Ts nm_Tn nd_cl nd_mt nd_fr nd_lo 228 (am_in nd_i228) (am_fl nd_f11) (am_ct nd_k11) (am_sl nd_ml nd_s228) := nm_ok (x := 228) (ini := false) rfl (by decide +kernel) nd_cok nd_i228_ok (by decide) nd_f11_ok nd_k11_ok nd_s228_ok (by decide +kernel)
-- PaperParcelsModel.needs(II)Z
def nd_i229 : List (Nat × Instr × Nat) := [(0, .iconst 3, 1), (1, .bipush 100, 2), (3, .iload_n 1, 1), (4, .imul, 1), (5, .iload_n 2, 1), (6, .iadd, 1), (7, .imul, 1), (8, .istore_n 3, 1), (9, .aload_n 0, 1), (10, .getfield 63, 3), (13, .bipush 100, 2), (15, .iload_n 1, 1), (16, .imul, 1), (17, .iload_n 2, 1), (18, .iadd, 1), (19, .iaload, 1), (20, .iconst 1, 1), (21, .if_icmp .ne 42, 3), (24, .aload_n 0, 1), (25, .getfield 69, 3), (28, .iload_n 3, 1), (29, .iaload, 1), (30, .ifCond .ne 27, 3), (33, .aload_n 0, 1), (34, .getfield 69, 3), (37, .iload_n 3, 1), (38, .iconst 1, 1), (39, .iadd, 1), (40, .iaload, 1), (41, .bipush 10, 2), (43, .if_icmp .ne 14, 3), (46, .aload_n 0, 1), (47, .getfield 69, 3), (50, .iload_n 3, 1), (51, .iconst 2, 1), (52, .iadd, 1), (53, .iaload, 1), (54, .ifCond .eq 7, 3), (57, .iconst 1, 1), (58, .goto 4, 3), (61, .iconst 0, 1), (62, .ireturn, 1), (63, .aload_n 0, 1), (64, .getfield 63, 3), (67, .bipush 100, 2), (69, .iload_n 1, 1), (70, .imul, 1), (71, .iload_n 2, 1), (72, .iadd, 1), (73, .iaload, 1), (74, .iconst 2, 1), (75, .if_icmp .eq 5, 3), (78, .iconst 0, 1), (79, .ireturn, 1), (80, .iconst 3, 1), (81, .bipush 100, 2), (83, .iload_n 1, 1), (84, .imul, 1), (85, .aload_n 0, 1), (86, .getfield 66, 3), (89, .bipush 100, 2), (91, .iload_n 1, 1), (92, .imul, 1), (93, .iload_n 2, 1), (94, .iadd, 1), (95, .iaload, 1), (96, .iadd, 1), (97, .imul, 1), (98, .istore 4, 2), (100, .aload_n 0, 1), (101, .getfield 69, 3), (104, .iload_n 3, 1), (105, .iaload, 1), (106, .aload_n 0, 1), (107, .getfield 69, 3), (110, .iload 4, 2), (112, .iaload, 1), (113, .if_icmp .ne 43, 3), (116, .aload_n 0, 1), (117, .getfield 69, 3), (120, .iload_n 3, 1), (121, .iconst 1, 1), (122, .iadd, 1), (123, .iaload, 1), (124, .aload_n 0, 1), (125, .getfield 69, 3), (128, .iload 4, 2), (130, .iconst 1, 1), (131, .iadd, 1), (132, .iaload, 1), (133, .if_icmp .ne 23, 3), (136, .aload_n 0, 1), (137, .getfield 69, 3), (140, .iload_n 3, 1), (141, .iconst 2, 1), (142, .iadd, 1), (143, .iaload, 1), (144, .aload_n 0, 1), (145, .getfield 69, 3), (148, .iload 4, 2), (150, .iconst 2, 1), (151, .iadd, 1), (152, .iaload, 1), (153, .if_icmp .eq 7, 3), (156, .iconst 1, 1), (157, .goto 4, 3), (160, .iconst 0, 1), (161, .ireturn, 1)]
theorem nd_i229_ok : am_ic prog_14_method_85_code nd_i229 = true := by decide +kernel
def nd_s229 : List nm_S := []
theorem nd_s229_ok : nd_s229.all (nm_schk nd_ct nd_ml "PaperParcelsModel") = true := by decide +kernel
theorem nd_ok229 : am_ok nm_Ts nm_Tn nd_cl nd_mt nd_fr nd_lo 229 (am_in nd_i229) (am_fl nd_f11) (am_ct nd_k11) (am_sl nd_ml nd_s229) := nm_ok (x := 229) (ini := false) rfl (by decide +kernel) nd_cok nd_i229_ok (by decide) nd_f11_ok nd_k11_ok nd_s229_ok (by decide +kernel)
-- PaperParcelsModel.placeOfLook(II)I
def nd_i230 : List (Nat × Instr × Nat) := [(0, .iconst 3, 1), (1, .bipush 100, 2), (3, .iload_n 1, 1), (4, .imul, 1), (5, .iload_n 2, 1), (6, .iadd, 1), (7, .imul, 1), (8, .istore_n 3, 1), (9, .iconst 0, 1), (10, .istore 4, 2), (12, .iload 4, 2), (14, .aload_n 0, 1), (15, .getfield 390, 3), (18, .if_icmp .ge 74, 3), (21, .aload_n 0, 1), (22, .getfield 147, 3), (25, .iconst 3, 1), (26, .iload 4, 2), (28, .imul, 1), (29, .iaload, 1), (30, .aload_n 0, 1), (31, .getfield 69, 3), (34, .iload_n 3, 1), (35, .iaload, 1), (36, .if_icmp .ne 50, 3), (39, .aload_n 0, 1), (40, .getfield 147, 3), (43, .iconst 3, 1), (44, .iload 4, 2), (46, .imul, 1), (47, .iconst 1, 1), (48, .iadd, 1), (49, .iaload, 1), (50, .aload_n 0, 1), (51, .getfield 69, 3), (54, .iload_n 3, 1), (55, .iconst 1, 1), (56, .iadd, 1), (57, .iaload, 1), (58, .if_icmp .ne 28, 3), (61, .aload_n 0, 1), (62, .getfield 147, 3), (65, .iconst 3, 1), (66, .iload 4, 2), (68, .imul, 1), (69, .iconst 2, 1), (70, .iadd, 1), (71, .iaload, 1), (72, .aload_n 0, 1), (73, .getfield 69, 3), (76, .iload_n 3, 1), (77, .iconst 2, 1), (78, .iadd, 1), (79, .iaload, 1), (80, .if_icmp .ne 6, 3), (83, .iload 4, 2), (85, .ireturn, 1), (86, .iinc 4 1, 3), (89, .goto (-77), 3), (92, .iconst 0, 1), (93, .istore 4, 2), (95, .iload 4, 2), (97, .iconst 3, 1), (98, .if_icmp .ge 32, 3), (101, .aload_n 0, 1), (102, .getfield 147, 3), (105, .iconst 3, 1), (106, .aload_n 0, 1), (107, .getfield 390, 3), (110, .imul, 1), (111, .iload 4, 2), (113, .iadd, 1), (114, .aload_n 0, 1), (115, .getfield 69, 3), (118, .iload_n 3, 1), (119, .iload 4, 2), (121, .iadd, 1), (122, .iaload, 1), (123, .iastore, 1), (124, .iinc 4 1, 3), (127, .goto (-32), 3), (130, .aload_n 0, 1), (131, .dup, 1), (132, .getfield 390, 3), (135, .iconst 1, 1), (136, .iadd, 1), (137, .putfield 390, 3), (140, .aload_n 0, 1), (141, .getfield 390, 3), (144, .iconst 1, 1), (145, .isub, 1), (146, .ireturn, 1)]
theorem nd_i230_ok : am_ic prog_14_method_86_code nd_i230 = true := by decide +kernel
def nd_s230 : List nm_S := []
theorem nd_s230_ok : nd_s230.all (nm_schk nd_ct nd_ml "PaperParcelsModel") = true := by decide +kernel
theorem nd_ok230 : am_ok nm_Ts nm_Tn nd_cl nd_mt nd_fr nd_lo 230 (am_in nd_i230) (am_fl nd_f11) (am_ct nd_k11) (am_sl nd_ml nd_s230) := nm_ok (x := 230) (ini := false) rfl (by decide +kernel) nd_cok nd_i230_ok (by decide) nd_f11_ok nd_k11_ok nd_s230_ok (by decide +kernel)
-- PaperParcelsModel.sayAll(IJ)V
def nd_i231 : List (Nat × Instr × Nat) := [(0, .lload_n 2, 1), (1, .lstore 4, 2), (3, .lload 4, 2), (5, .lconst 0, 1), (6, .lcmp, 1), (7, .ifCond .eq 25, 3), (10, .aload_n 0, 1), (11, .iload_n 1, 1), (12, .lload 4, 2), (14, .ldc2_w 153, 3), (17, .land, 1), (18, .l2i, 1), (19, .invokevirtual 387, 3), (22, .lload 4, 2), (24, .bipush 8, 2), (26, .lushr, 1), (27, .lstore 4, 2), (29, .goto (-26), 3), (32, .return_, 1)]
theorem nd_i231_ok : am_ic prog_14_method_83_code nd_i231 = true := by decide +kernel
def nd_s231 : List nm_S := [(387, 232, false, 1734)]
theorem nd_s231_ok : nd_s231.all (nm_schk nd_ct nd_ml "PaperParcelsModel") = true := by decide +kernel
theorem nd_ok231 : am_ok nm_Ts nm_Tn nd_cl nd_mt nd_fr nd_lo 231 (am_in nd_i231) (am_fl nd_f11) (am_ct nd_k11) (am_sl nd_ml nd_s231) := nm_ok (x := 231) (ini := false) rfl (by decide +kernel) nd_cok nd_i231_ok (by decide) nd_f11_ok nd_k11_ok nd_s231_ok (by decide +kernel)
-- PaperParcelsModel.say(II)V
def nd_i232 : List (Nat × Instr × Nat) := [(0, .aload_n 0, 1), (1, .getfield 135, 3), (4, .sipush 2400, 3), (7, .iload_n 1, 1), (8, .imul, 1), (9, .aload_n 0, 1), (10, .getfield 138, 3), (13, .iload_n 1, 1), (14, .iaload, 1), (15, .iadd, 1), (16, .iload_n 2, 1), (17, .iastore, 1), (18, .aload_n 0, 1), (19, .getfield 138, 3), (22, .iload_n 1, 1), (23, .dup2, 1), (24, .iaload, 1), (25, .iconst 1, 1), (26, .iadd, 1), (27, .iastore, 1), (28, .return_, 1)]
theorem nd_i232_ok : am_ic prog_14_method_82_code nd_i232 = true := by decide +kernel
def nd_s232 : List nm_S := []
theorem nd_s232_ok : nd_s232.all (nm_schk nd_ct nd_ml "PaperParcelsModel") = true := by decide +kernel
theorem nd_ok232 : am_ok nm_Ts nm_Tn nd_cl nd_mt nd_fr nd_lo 232 (am_in nd_i232) (am_fl nd_f11) (am_ct nd_k11) (am_sl nd_ml nd_s232) := nm_ok (x := 232) (ini := false) rfl (by decide +kernel) nd_cok nd_i232_ok (by decide) nd_f11_ok nd_k11_ok nd_s232_ok (by decide +kernel)
-- PaperParcelsModel.sayAttribute(IIII)V
def nd_i233 : List (Nat × Instr × Nat) := [(0, .aload_n 0, 1), (1, .iload_n 1, 1), (2, .bipush 32, 2), (4, .invokevirtual 387, 3), (7, .aload_n 0, 1), (8, .iload_n 1, 1), (9, .iload_n 2, 1), (10, .invokevirtual 387, 3), (13, .aload_n 0, 1), (14, .iload_n 1, 1), (15, .bipush 61, 2), (17, .invokevirtual 387, 3), (20, .aload_n 0, 1), (21, .iload_n 1, 1), (22, .bipush 34, 2), (24, .invokevirtual 387, 3), (27, .iload_n 3, 1), (28, .ifCond .le 9, 3), (31, .aload_n 0, 1), (32, .iload_n 1, 1), (33, .iload_n 3, 1), (34, .invokevirtual 387, 3), (37, .aload_n 0, 1), (38, .iload_n 1, 1), (39, .iload 4, 2), (41, .invokevirtual 387, 3), (44, .aload_n 0, 1), (45, .iload_n 1, 1), (46, .bipush 34, 2), (48, .invokevirtual 387, 3), (51, .return_, 1)]
theorem nd_i233_ok : am_ic prog_14_method_84_code nd_i233 = true := by decide +kernel
def nd_s233 : List nm_S := [(387, 232, false, 1734)]
theorem nd_s233_ok : nd_s233.all (nm_schk nd_ct nd_ml "PaperParcelsModel") = true := by decide +kernel
theorem nd_ok233 : am_ok nm_Ts nm_Tn nd_cl nd_mt nd_fr nd_lo 233 (am_in nd_i233) (am_fl nd_f11) (am_ct nd_k11) (am_sl nd_ml nd_s233) := nm_ok (x := 233) (ini := false) rfl (by decide +kernel) nd_cok nd_i233_ok (by decide) nd_f11_ok nd_k11_ok nd_s233_ok (by decide +kernel)
-- PaperParcelsModel.sayNodes(I)V
def nd_i234 : List (Nat × Instr × Nat) := [(0, .aload_n 0, 1), (1, .getfield 138, 3), (4, .iconst 1, 1), (5, .iconst 0, 1), (6, .iastore, 1), (7, .iconst (-1), 1), (8, .istore_n 2, 1), (9, .iconst 0, 1), (10, .istore_n 3, 1), (11, .iload_n 3, 1), (12, .aload_n 0, 1), (13, .getfield 60, 3), (16, .iload_n 1, 1), (17, .iaload, 1), (18, .if_icmp .gt 253, 3), (21, .iload_n 3, 1), (22, .aload_n 0, 1), (23, .getfield 60, 3), (26, .iload_n 1, 1), (27, .iaload, 1), (28, .if_icmp .ge 17, 3), (31, .aload_n 0, 1), (32, .getfield 66, 3), (35, .bipush 100, 2), (37, .iload_n 1, 1), (38, .imul, 1), (39, .iload_n 3, 1), (40, .iadd, 1), (41, .iaload, 1), (42, .goto 4, 3), (45, .iconst (-1), 1), (46, .istore 4, 2), (48, .iload_n 2, 1), (49, .iload 4, 2), (51, .if_icmp .eq 52, 3), (54, .aload_n 0, 1), (55, .iconst 1, 1), (56, .ldc2_w 420, 3), (59, .invokevirtual 401, 3), (62, .aload_n 0, 1), (63, .iconst 1, 1), (64, .aload_n 0, 1), (65, .getfield 63, 3), (68, .bipush 100, 2), (70, .iload_n 1, 1), (71, .imul, 1), (72, .iload_n 2, 1), (73, .iadd, 1), (74, .iaload, 1), (75, .invokestatic 422, 3), (78, .invokevirtual 387, 3), (81, .aload_n 0, 1), (82, .iconst 1, 1), (83, .bipush 62, 2), (85, .invokevirtual 387, 3), (88, .aload_n 0, 1), (89, .getfield 66, 3), (92, .bipush 100, 2), (94, .iload_n 1, 1), (95, .imul, 1), (96, .iload_n 2, 1), (97, .iadd, 1), (98, .iaload, 1), (99, .istore_n 2, 1), (100, .goto (-52), 3), (103, .iload_n 3, 1), (104, .aload_n 0, 1), (105, .getfield 60, 3), (108, .iload_n 1, 1), (109, .iaload, 1), (110, .if_icmp .ge 27, 3), (113, .aload_n 0, 1), (114, .getfield 63, 3), (117, .bipush 100, 2), (119, .iload_n 1, 1), (120, .imul, 1), (121, .iload_n 3, 1), (122, .iadd, 1), (123, .iaload, 1), (124, .iconst 2, 1), (125, .if_icmp .ne 12, 3), (128, .aload_n 0, 1), (129, .iload_n 1, 1), (130, .iload_n 3, 1), (131, .invokevirtual 425, 3), (134, .goto 131, 3), (137, .iload_n 3, 1), (138, .aload_n 0, 1), (139, .getfield 60, 3), (142, .iload_n 1, 1), (143, .iaload, 1), (144, .if_icmp .ge 121, 3), (147, .aload_n 0, 1), (148, .iconst 1, 1), (149, .bipush 60, 2), (151, .invokevirtual 387, 3), (154, .aload_n 0, 1), (155, .iconst 1, 1), (156, .aload_n 0, 1), (157, .getfield 63, 3), (160, .bipush 100, 2), (162, .iload_n 1, 1), (163, .imul, 1), (164, .iload_n 3, 1), (165, .iadd, 1), (166, .iaload, 1), (167, .invokestatic 422, 3), (170, .invokevirtual 387, 3), (173, .aload_n 0, 1), (174, .iload_n 1, 1), (175, .iload_n 3, 1), (176, .invokevirtual 393, 3), (179, .ifCond .eq 20, 3), (182, .aload_n 0, 1), (183, .iconst 1, 1), (184, .bipush 121, 2), (186, .iconst 0, 1), (187, .bipush 65, 2), (189, .aload_n 0, 1), (190, .iload_n 1, 1), (191, .iload_n 3, 1), (192, .invokevirtual 396, 3), (195, .iadd, 1), (196, .invokevirtual 411, 3), (199, .iload_n 3, 1), (200, .iconst 1, 1), (201, .iadd, 1), (202, .aload_n 0, 1), (203, .getfield 60, 3), (206, .iload_n 1, 1), (207, .iaload, 1), (208, .if_icmp .ge 24, 3), (211, .aload_n 0, 1), (212, .getfield 66, 3), (215, .bipush 100, 2), (217, .iload_n 1, 1), (218, .imul, 1), (219, .iload_n 3, 1), (220, .iadd, 1), (221, .iconst 1, 1), (222, .iadd, 1), (223, .iaload, 1), (224, .iload_n 3, 1), (225, .if_icmp .ne 7, 3), (228, .iconst 1, 1), (229, .goto 4, 3), (232, .iconst 0, 1), (233, .istore 5, 2), (235, .aload_n 0, 1), (236, .iconst 1, 1), (237, .iload 5, 2), (239, .ifCond .eq 9, 3), (242, .ldc2_w 407, 3), (245, .goto 6, 3), (248, .ldc2_w 405, 3), (251, .invokevirtual 401, 3), (254, .iload 5, 2), (256, .ifCond .eq 7, 3), (259, .iload_n 3, 1), (260, .goto 4, 3), (263, .iload_n 2, 1), (264, .istore_n 2, 1), (265, .iinc 3 1, 3), (268, .goto (-257), 3), (271, .return_, 1)]
theorem nd_i234_ok : am_ic prog_14_method_90_code nd_i234 = true := by decide +kernel
def nd_s234 : List nm_S := [(401, 231, false, 1730), (422, 235, false, 1751), (387, 232, false, 1734), (425, 236, false, 1754), (393, 229, false, 1721), (396, 230, false, 1725), (411, 233, false, 1741)]
theorem nd_s234_ok : nd_s234.all (nm_schk nd_ct nd_ml "PaperParcelsModel") = true := by decide +kernel
theorem nd_ok234 : am_ok nm_Ts nm_Tn nd_cl nd_mt nd_fr nd_lo 234 (am_in nd_i234) (am_fl nd_f11) (am_ct nd_k11) (am_sl nd_ml nd_s234) := nm_ok (x := 234) (ini := false) rfl (by decide +kernel) nd_cok nd_i234_ok (by decide) nd_f11_ok nd_k11_ok nd_s234_ok (by decide +kernel)
-- PaperParcelsModel.letterOf(I)I
def nd_i235 : List (Nat × Instr × Nat) := [(0, .iload_n 0, 1), (1, .ifCond .ne 8, 3), (4, .bipush 100, 2), (6, .goto 25, 3), (9, .iload_n 0, 1), (10, .iconst 1, 1), (11, .if_icmp .ne 8, 3), (14, .bipush 112, 2), (16, .goto 15, 3), (19, .iload_n 0, 1), (20, .iconst 3, 1), (21, .if_icmp .ne 8, 3), (24, .bipush 108, 2), (26, .goto 5, 3), (29, .bipush 105, 2), (31, .ireturn, 1)]
theorem nd_i235_ok : am_ic prog_14_method_88_code nd_i235 = true := by decide +kernel
def nd_s235 : List nm_S := []
theorem nd_s235_ok : nd_s235.all (nm_schk nd_ct nd_ml "PaperParcelsModel") = true := by decide +kernel
theorem nd_ok235 : am_ok nm_Ts nm_Tn nd_cl nd_mt nd_fr nd_lo 235 (am_in nd_i235) (am_fl nd_f11) (am_ct nd_k11) (am_sl nd_ml nd_s235) := nm_ok (x := 235) (ini := false) rfl (by decide +kernel) nd_cok nd_i235_ok (by decide) nd_f11_ok nd_k11_ok nd_s235_ok (by decide +kernel)
-- PaperParcelsModel.sayRun(II)V
def nd_i236 : List (Nat × Instr × Nat) := [(0, .aload_n 0, 1), (1, .iload_n 1, 1), (2, .iload_n 2, 1), (3, .invokevirtual 393, 3), (6, .istore_n 3, 1), (7, .iload_n 3, 1), (8, .ifCond .eq 35, 3), (11, .aload_n 0, 1), (12, .iconst 1, 1), (13, .ldc2_w 416, 3), (16, .invokevirtual 401, 3), (19, .aload_n 0, 1), (20, .iconst 1, 1), (21, .bipush 121, 2), (23, .iconst 0, 1), (24, .bipush 65, 2), (26, .aload_n 0, 1), (27, .iload_n 1, 1), (28, .iload_n 2, 1), (29, .invokevirtual 396, 3), (32, .iadd, 1), (33, .invokevirtual 411, 3), (36, .aload_n 0, 1), (37, .iconst 1, 1), (38, .bipush 62, 2), (40, .invokevirtual 387, 3), (43, .iconst 0, 1), (44, .istore 4, 2), (46, .iload 4, 2), (48, .aload_n 0, 1), (49, .getfield 75, 3), (52, .bipush 100, 2), (54, .iload_n 1, 1), (55, .imul, 1), (56, .iload_n 2, 1), (57, .iadd, 1), (58, .iaload, 1), (59, .if_icmp .ge 39, 3), (62, .aload_n 0, 1), (63, .iconst 1, 1), (64, .aload_n 0, 1), (65, .getfield 81, 3), (68, .sipush 700, 3), (71, .iload_n 1, 1), (72, .imul, 1), (73, .aload_n 0, 1), (74, .getfield 72, 3), (77, .bipush 100, 2), (79, .iload_n 1, 1), (80, .imul, 1), (81, .iload_n 2, 1), (82, .iadd, 1), (83, .iaload, 1), (84, .iadd, 1), (85, .iload 4, 2), (87, .iadd, 1), (88, .iaload, 1), (89, .invokevirtual 387, 3), (92, .iinc 4 1, 3), (95, .goto (-49), 3), (98, .iload_n 3, 1), (99, .ifCond .eq 11, 3), (102, .aload_n 0, 1), (103, .iconst 1, 1), (104, .ldc2_w 418, 3), (107, .invokevirtual 401, 3), (110, .return_, 1)]
theorem nd_i236_ok : am_ic prog_14_method_89_code nd_i236 = true := by decide +kernel
def nd_s236 : List nm_S := [(393, 229, false, 1721), (401, 231, false, 1730), (396, 230, false, 1725), (411, 233, false, 1741), (387, 232, false, 1734)]
theorem nd_s236_ok : nd_s236.all (nm_schk nd_ct nd_ml "PaperParcelsModel") = true := by decide +kernel
theorem nd_ok236 : am_ok nm_Ts nm_Tn nd_cl nd_mt nd_fr nd_lo 236 (am_in nd_i236) (am_fl nd_f11) (am_ct nd_k11) (am_sl nd_ml nd_s236) := nm_ok (x := 236) (ini := false) rfl (by decide +kernel) nd_cok nd_i236_ok (by decide) nd_f11_ok nd_k11_ok nd_s236_ok (by decide +kernel)
-- PaperParcelsModel.pack(II)V
def nd_i237 : List (Nat × Instr × Nat) := [(0, .aload_n 0, 1), (1, .getfield 144, 3), (4, .iload_n 1, 1), (5, .iconst 0, 1), (6, .iastore, 1), (7, .iconst 0, 1), (8, .istore_n 3, 1), (9, .iload_n 3, 1), (10, .aload_n 0, 1), (11, .getfield 138, 3), (14, .iload_n 1, 1), (15, .iaload, 1), (16, .if_icmp .ge 159, 3), (19, .iconst 4, 1), (20, .istore 4, 2), (22, .iconst 0, 1), (23, .istore 5, 2), (25, .iconst 1, 1), (26, .istore 6, 2), (28, .iload 6, 2), (30, .bipush 100, 2), (32, .if_icmp .ge 62, 3), (35, .iload 6, 2), (37, .iload_n 3, 1), (38, .if_icmp .gt 56, 3), (41, .iload_n 2, 1), (42, .iconst 1, 1), (43, .if_icmp .ne 51, 3), (46, .aload_n 0, 1), (47, .iload_n 1, 1), (48, .iload_n 3, 1), (49, .iload 6, 2), (51, .invokevirtual 428, 3), (54, .istore 7, 2), (56, .iload 7, 2), (58, .iload 4, 2), (60, .if_icmp .le 8, 3), (63, .iload 6, 2), (65, .goto 5, 3), (68, .iload 5, 2), (70, .istore 5, 2), (72, .iload 7, 2), (74, .iload 4, 2), (76, .if_icmp .le 8, 3), (79, .iload 7, 2), (81, .goto 5, 3), (84, .iload 4, 2), (86, .istore 4, 2), (88, .iinc 6 1, 3), (91, .goto (-63), 3), (94, .iload 5, 2), (96, .ifCond .le 56, 3), (99, .aload_n 0, 1), (100, .iload_n 1, 1), (101, .bipush 126, 2), (103, .invokevirtual 431, 3), (106, .aload_n 0, 1), (107, .iload_n 1, 1), (108, .bipush 48, 2), (110, .iload 5, 2), (112, .bipush 10, 2), (114, .idiv, 1), (115, .iadd, 1), (116, .invokevirtual 431, 3), (119, .aload_n 0, 1), (120, .iload_n 1, 1), (121, .bipush 48, 2), (123, .iload 5, 2), (125, .bipush 10, 2), (127, .irem, 1), (128, .iadd, 1), (129, .invokevirtual 431, 3), (132, .aload_n 0, 1), (133, .iload_n 1, 1), (134, .bipush 48, 2), (136, .iload 4, 2), (138, .iadd, 1), (139, .iconst 5, 1), (140, .isub, 1), (141, .invokevirtual 431, 3), (144, .iload_n 3, 1), (145, .iload 4, 2), (147, .iadd, 1), (148, .istore_n 3, 1), (149, .goto 23, 3), (152, .aload_n 0, 1), (153, .iload_n 1, 1), (154, .aload_n 0, 1), (155, .getfield 135, 3), (158, .sipush 2400, 3), (161, .iload_n 1, 1), (162, .imul, 1), (163, .iload_n 3, 1), (164, .iadd, 1), (165, .iaload, 1), (166, .invokevirtual 431, 3), (169, .iinc 3 1, 3), (172, .goto (-163), 3), (175, .return_, 1)]
theorem nd_i237_ok : am_ic prog_14_method_93_code nd_i237 = true := by decide +kernel
def nd_s237 : List nm_S := [(428, 238, false, 1764), (431, 239, false, 1768)]
theorem nd_s237_ok : nd_s237.all (nm_schk nd_ct nd_ml "PaperParcelsModel") = true := by decide +kernel
theorem nd_ok237 : am_ok nm_Ts nm_Tn nd_cl nd_mt nd_fr nd_lo 237 (am_in nd_i237) (am_fl nd_f11) (am_ct nd_k11) (am_sl nd_ml nd_s237) := nm_ok (x := 237) (ini := false) rfl (by decide +kernel) nd_cok nd_i237_ok (by decide) nd_f11_ok nd_k11_ok nd_s237_ok (by decide +kernel)
-- PaperParcelsModel.alike(III)I
def nd_i238 : List (Nat × Instr × Nat) := [(0, .iconst 0, 1), (1, .istore 4, 2), (3, .iload 4, 2), (5, .bipush 14, 2), (7, .if_icmp .ge 57, 3), (10, .iload_n 2, 1), (11, .iload 4, 2), (13, .iadd, 1), (14, .aload_n 0, 1), (15, .getfield 138, 3), (18, .iload_n 1, 1), (19, .iaload, 1), (20, .if_icmp .ge 44, 3), (23, .aload_n 0, 1), (24, .getfield 135, 3), (27, .sipush 2400, 3), (30, .iload_n 1, 1), (31, .imul, 1), (32, .iload_n 2, 1), (33, .iadd, 1), (34, .iload 4, 2), (36, .iadd, 1), (37, .iaload, 1), (38, .aload_n 0, 1), (39, .getfield 135, 3), (42, .sipush 2400, 3), (45, .iload_n 1, 1), (46, .imul, 1), (47, .iload_n 2, 1), (48, .iadd, 1), (49, .iload 4, 2), (51, .iadd, 1), (52, .iload_n 3, 1), (53, .isub, 1), (54, .iaload, 1), (55, .if_icmp .ne 9, 3), (58, .iinc 4 1, 3), (61, .goto (-58), 3), (64, .iload 4, 2), (66, .ireturn, 1)]
theorem nd_i238_ok : am_ic prog_14_method_91_code nd_i238 = true := by decide +kernel
def nd_s238 : List nm_S := []
theorem nd_s238_ok : nd_s238.all (nm_schk nd_ct nd_ml "PaperParcelsModel") = true := by decide +kernel
theorem nd_ok238 : am_ok nm_Ts nm_Tn nd_cl nd_mt nd_fr nd_lo 238 (am_in nd_i238) (am_fl nd_f11) (am_ct nd_k11) (am_sl nd_ml nd_s238) := nm_ok (x := 238) (ini := false) rfl (by decide +kernel) nd_cok nd_i238_ok (by decide) nd_f11_ok nd_k11_ok nd_s238_ok (by decide +kernel)
-- PaperParcelsModel.put(II)V
def nd_i239 : List (Nat × Instr × Nat) := [(0, .aload_n 0, 1), (1, .getfield 141, 3), (4, .sipush 300, 3), (7, .iload_n 1, 1), (8, .imul, 1), (9, .aload_n 0, 1), (10, .getfield 144, 3), (13, .iload_n 1, 1), (14, .iaload, 1), (15, .iadd, 1), (16, .iload_n 2, 1), (17, .iastore, 1), (18, .aload_n 0, 1), (19, .getfield 144, 3), (22, .iload_n 1, 1), (23, .dup2, 1), (24, .iaload, 1), (25, .iconst 1, 1), (26, .iadd, 1), (27, .iastore, 1), (28, .return_, 1)]
theorem nd_i239_ok : am_ic prog_14_method_92_code nd_i239 = true := by decide +kernel
def nd_s239 : List nm_S := []
theorem nd_s239_ok : nd_s239.all (nm_schk nd_ct nd_ml "PaperParcelsModel") = true := by decide +kernel
theorem nd_ok239 : am_ok nm_Ts nm_Tn nd_cl nd_mt nd_fr nd_lo 239 (am_in nd_i239) (am_fl nd_f11) (am_ct nd_k11) (am_sl nd_ml nd_s239) := nm_ok (x := 239) (ini := false) rfl (by decide +kernel) nd_cok nd_i239_ok (by decide) nd_f11_ok nd_k11_ok nd_s239_ok (by decide +kernel)
-- PaperParcelsModel.typePart(II)V
def nd_i240 : List (Nat × Instr × Nat) := [(0, .aload_n 0, 1), (1, .iload_n 1, 1), (2, .ifCond .ne 8, 3), (5, .bipush 83, 2), (7, .goto 5, 3), (10, .bipush 67, 2), (12, .invokevirtual 434, 3), (15, .aload_n 0, 1), (16, .bipush 48, 2), (18, .iload_n 2, 1), (19, .iadd, 1), (20, .invokevirtual 434, 3), (23, .aload_n 0, 1), (24, .bipush 48, 2), (26, .aload_n 0, 1), (27, .getfield 144, 3), (30, .iload_n 1, 1), (31, .iaload, 1), (32, .bipush 100, 2), (34, .idiv, 1), (35, .iadd, 1), (36, .invokevirtual 434, 3), (39, .aload_n 0, 1), (40, .bipush 48, 2), (42, .aload_n 0, 1), (43, .getfield 144, 3), (46, .iload_n 1, 1), (47, .iaload, 1), (48, .bipush 10, 2), (50, .idiv, 1), (51, .bipush 10, 2), (53, .irem, 1), (54, .iadd, 1), (55, .invokevirtual 434, 3), (58, .aload_n 0, 1), (59, .bipush 48, 2), (61, .aload_n 0, 1), (62, .getfield 144, 3), (65, .iload_n 1, 1), (66, .iaload, 1), (67, .bipush 10, 2), (69, .irem, 1), (70, .iadd, 1), (71, .invokevirtual 434, 3), (74, .iconst 0, 1), (75, .istore_n 3, 1), (76, .iload_n 3, 1), (77, .aload_n 0, 1), (78, .getfield 144, 3), (81, .iload_n 1, 1), (82, .iaload, 1), (83, .if_icmp .ge 25, 3), (86, .aload_n 0, 1), (87, .aload_n 0, 1), (88, .getfield 141, 3), (91, .sipush 300, 3), (94, .iload_n 1, 1), (95, .imul, 1), (96, .iload_n 3, 1), (97, .iadd, 1), (98, .iaload, 1), (99, .invokevirtual 434, 3), (102, .iinc 3 1, 3), (105, .goto (-29), 3), (108, .ldc 174, 2), (110, .istore_n 3, 1), (111, .iconst 0, 1), (112, .istore 4, 2), (114, .iload 4, 2), (116, .aload_n 0, 1), (117, .getfield 138, 3), (120, .iload_n 1, 1), (121, .iaload, 1), (122, .if_icmp .ge 27, 3), (125, .iload_n 3, 1), (126, .aload_n 0, 1), (127, .getfield 135, 3), (130, .sipush 2400, 3), (133, .iload_n 1, 1), (134, .imul, 1), (135, .iload 4, 2), (137, .iadd, 1), (138, .iaload, 1), (139, .invokestatic 175, 3), (142, .istore_n 3, 1), (143, .iinc 4 1, 3), (146, .goto (-32), 3), (149, .bipush 12, 2), (151, .istore 4, 2), (153, .iload 4, 2), (155, .ifCond .lt 23, 3), (158, .aload_n 0, 1), (159, .iload_n 3, 1), (160, .iload 4, 2), (162, .ishr, 1), (163, .bipush 15, 2), (165, .iand, 1), (166, .invokestatic 437, 3), (169, .invokevirtual 434, 3), (172, .iinc 4 (-4), 3), (175, .goto (-22), 3), (178, .return_, 1)]
theorem nd_i240_ok : am_ic prog_14_method_96_code nd_i240 = true := by decide +kernel
def nd_s240 : List nm_S := [(434, 241, false, 1776), (175, 163, false, 1460), (437, 242, false, 1780)]
theorem nd_s240_ok : nd_s240.all (nm_schk nd_ct nd_ml "PaperParcelsModel") = true := by decide +kernel
theorem nd_ok240 : am_ok nm_Ts nm_Tn nd_cl nd_mt nd_fr nd_lo 240 (am_in nd_i240) (am_fl nd_f11) (am_ct nd_k11) (am_sl nd_ml nd_s240) := nm_ok (x := 240) (ini := false) rfl (by decide +kernel) nd_cok nd_i240_ok (by decide) nd_f11_ok nd_k11_ok nd_s240_ok (by decide +kernel)
-- PaperParcelsModel.type(I)V
def nd_i241 : List (Nat × Instr × Nat) := [(0, .aload_n 0, 1), (1, .getfield 7, 3), (4, .aload_n 0, 1), (5, .getfield 155, 3), (8, .iload_n 1, 1), (9, .iastore, 1), (10, .aload_n 0, 1), (11, .dup, 1), (12, .getfield 155, 3), (15, .iconst 1, 1), (16, .iadd, 1), (17, .putfield 155, 3), (20, .return_, 1)]
theorem nd_i241_ok : am_ic prog_14_method_94_code nd_i241 = true := by decide +kernel
def nd_s241 : List nm_S := []
theorem nd_s241_ok : nd_s241.all (nm_schk nd_ct nd_ml "PaperParcelsModel") = true := by decide +kernel
theorem nd_ok241 : am_ok nm_Ts nm_Tn nd_cl nd_mt nd_fr nd_lo 241 (am_in nd_i241) (am_fl nd_f11) (am_ct nd_k11) (am_sl nd_ml nd_s241) := nm_ok (x := 241) (ini := false) rfl (by decide +kernel) nd_cok nd_i241_ok (by decide) nd_f11_ok nd_k11_ok nd_s241_ok (by decide +kernel)
-- PaperParcelsModel.hexDigit(I)I
def nd_i242 : List (Nat × Instr × Nat) := [(0, .iload_n 0, 1), (1, .bipush 10, 2), (3, .if_icmp .ge 10, 3), (6, .bipush 48, 2), (8, .iload_n 0, 1), (9, .iadd, 1), (10, .goto 10, 3), (13, .bipush 97, 2), (15, .iload_n 0, 1), (16, .iadd, 1), (17, .bipush 10, 2), (19, .isub, 1), (20, .ireturn, 1)]
theorem nd_i242_ok : am_ic prog_14_method_95_code nd_i242 = true := by decide +kernel
def nd_s242 : List nm_S := []
theorem nd_s242_ok : nd_s242.all (nm_schk nd_ct nd_ml "PaperParcelsModel") = true := by decide +kernel
theorem nd_ok242 : am_ok nm_Ts nm_Tn nd_cl nd_mt nd_fr nd_lo 242 (am_in nd_i242) (am_fl nd_f11) (am_ct nd_k11) (am_sl nd_ml nd_s242) := nm_ok (x := 242) (ini := false) rfl (by decide +kernel) nd_cok nd_i242_ok (by decide) nd_f11_ok nd_k11_ok nd_s242_ok (by decide +kernel)
end
section
/-! Going through a method: rules for its stretches. -/
/-- a method's tables: instructions, fields, constants, calls, exceptions, the kind of its answer -/
abbrev ev_M : Type := (Nat → Option (Instr × Nat)) × (Nat → Option (Nat × Nat × Nat)) × (Nat → Option Value) × (Nat → Option (Nat × Nat × Nat × Nat)) × (Nat × Nat → Option String) × Option FieldType
def Ev (K : cx_K) (M : ev_M) (S : am_S) (g : Nat) (o : am_O) (h' : List va_E) (g' : Nat) : Prop := ∃ n, am_E M.1 M.2.1 M.2.2.1 M.2.2.2.1 M.2.2.2.2.1 M.2.2.2.2.2 (Ct K) n S g o h' g'
theorem Ct_of {K : cx_K} {x : Nat} {ins : Nat → Option (Instr × Nat)} {fld : Nat → Option (Nat × Nat × Nat)} {cst : Nat → Option Value} {site : Nat → Option (Nat × Nat × Nat × Nat)} {rt : Option FieldType} {mL : Nat} {As : List Value} {h h' : List va_E} {o : am_O} {g' : Nat} (hK : Kok K) (hok : am_ok nm_Ts nm_Tn nd_cl nd_mt nd_fr nd_lo x ins fld cst site) (hm : (nd_mt x).2.2.1 = mL) (hr : (nd_mt x).2.2.2 = rt) (hn : (am_ent As).length ≤ mL) (hl : h'.length ≤ 1000000)
    (ev : Ev K (ins, fld, cst, site, fun _ => none, rt) (0, am_entry As mL, [], h) 0 o h' g') : Ct K x As h o h' g' := by
  subst hm
  subst hr
  have t3 := cx_t3 hK
  obtain ⟨t0, t1, t2, -, -, hX, -, hD, -⟩ := hK
  obtain ⟨n, hE⟩ := ev
  exact ⟨am_meets hok nm_good t0 t1 t2 t3 hX (fun y As h o1 h1 g1 hc => hc) hn hE, hD h' hl⟩
/-- a method that throws something itself -/
theorem Ct_ofX {K : cx_K} {x : Nat} {ins : Nat → Option (Instr × Nat)} {fld : Nat → Option (Nat × Nat × Nat)} {cst : Nat → Option Value} {site : Nat → Option (Nat × Nat × Nat × Nat)} {exc : Nat × Nat → Option String} {rt : Option FieldType} {mL : Nat} {As : List Value} {h h' : List va_E} {o : am_O} {g' : Nat} (hK : Kok K) (hok : am_ok nm_Ts nm_Tn nd_cl nd_mt nd_fr nd_lo x ins fld cst site) (hXw : am_Xw (nd_mt x).1.cls nm_Ts nm_Tn (nd_fr x) (nd_lo x) exc) (hm : (nd_mt x).2.2.1 = mL) (hr : (nd_mt x).2.2.2 = rt) (hn : (am_ent As).length ≤ mL) (hl : h'.length ≤ 1000000)
    (ev : Ev K (ins, fld, cst, site, exc, rt) (0, am_entry As mL, [], h) 0 o h' g') : Ct K x As h o h' g' := by
  subst hm
  subst hr
  have t3 := cx_t3 hK
  obtain ⟨t0, t1, t2, -, -, hX, -, hD, htr⟩ := hK
  obtain ⟨n, hE⟩ := ev
  exact ⟨am_meetsX hok hXw htr nm_good t0 t1 t2 t3 hX (fun y As h o1 h1 g1 hc => hc) hn hE, hD h' hl⟩
section EV
variable {K : cx_K} {M : ev_M} {pc g : Nat} {L : List (Option Value)} {st : List Value} {h : List va_E} {o : am_O} {h' : List va_E} {g' : Nat}
theorem Ev_n {S S' : am_S} (hn : am_n M.1 M.2.1 M.2.2.1 S = some S') (ev : Ev K M S' g o h' g') : Ev K M S g o h' g' := by
  obtain ⟨n, hE⟩ := ev
  exact ⟨n + 1, Or.inl ⟨S', hn, hE⟩⟩
theorem Ev_p (k : Nat) {c' : am_cfg} (hp : am_ps M.1 k (pc, L, st) = some c') (ev : Ev K M (c'.1, c'.2.1, c'.2.2, h) g o h' g') : Ev K M (pc, L, st, h) g o h' g' := by
  induction k generalizing pc L st with
  | zero => cases hp; exact ev
  | succ k ih =>
    unfold am_ps at hp
    split at hp
    · cases hp
    · next i n hi =>
      split at hp
      · cases hp
      · next c1 h1 =>
        refine Ev_n (S' := (c1.1, c1.2.1, c1.2.2, h)) ?_ (ih hp)
        have hi' : M.1 pc = some (i, n) := hi
        have h1' : am_p i n pc L st = some c1 := h1
        unfold am_n
        simp only [hi', h1']
/-- a branch -/
theorem Ev_b {b : Prop} [Decidable b] {c1 c2 : am_cfg} {i : Instr} {n : Nat} (hi : M.1 pc = some (i, n)) (hp : am_p i n pc L st = if b then some c1 else some c2) (e1 : b → Ev K M (c1.1, c1.2.1, c1.2.2, h) g o h' g') (e2 : ¬ b → Ev K M (c2.1, c2.2.1, c2.2.2, h) g o h' g') : Ev K M (pc, L, st, h) g o h' g' := by
  by_cases hb : b
  · rw [if_pos hb] at hp
    refine Ev_n ?_ (e1 hb)
    unfold am_n
    simp only [hi, hp]
  · rw [if_neg hb] at hp
    refine Ev_n ?_ (e2 hb)
    unfold am_n
    simp only [hi, hp]
theorem Ev_get {ix ci f k kd : Nat} {fs : List Value} {v : Value} (hi : M.1 pc = some (.getfield ix, 3)) (hf : M.2.1 ix = some (ci, f, kd)) (hh : h[k]? = some (.inr (ci, fs))) (hv : fs[f]? = some v) (ev : Ev K M (pc + 3, L, v :: st, h) g o h' g') : Ev K M (pc, L, .ref k :: st, h) g o h' g' := by
  refine Ev_n ?_ ev
  unfold am_n
  simp only [hi]
  have e1 : am_p (.getfield ix) 3 pc L (.ref k :: st) = none := rfl
  simp only [e1, am_hA, hf, hh, hv, if_true]
theorem Ev_put {ix ci f k kd : Nat} {fs : List Value} {v : Value} (hi : M.1 pc = some (.putfield ix, 3)) (hf : M.2.1 ix = some (ci, f, kd)) (hh : h[k]? = some (.inr (ci, fs))) (hl : f < fs.length) (hfit : am_fit kd v = true) (ev : Ev K M (pc + 3, L, st, h.set k (.inr (ci, fs.set f v))) g o h' g') : Ev K M (pc, L, v :: .ref k :: st, h) g o h' g' := by
  refine Ev_n ?_ ev
  unfold am_n
  simp only [hi]
  have e1 : am_p (.putfield ix) 3 pc L (v :: .ref k :: st) = none := rfl
  simp only [e1, am_hA, hf, hh, hl, hfit, and_self, if_true]
theorem Ev_ild {k n : Nat} {j : Int32} {f : Nat → Int32} (hi : M.1 pc = some (.iaload, 1)) (hh : h[k]? = some (.inl (0, n, .inl f))) (hin : ¬ (j < 0 ∨ n ≤ j.toNatClampNeg)) (ev : Ev K M (pc + 1, L, .int (f j.toNatClampNeg) :: st, h) g o h' g') : Ev K M (pc, L, .int j :: .ref k :: st, h) g o h' g' := by
  refine Ev_n ?_ ev
  unfold am_n
  simp only [hi]
  have e1 : am_p .iaload 1 pc L (.int j :: .ref k :: st) = none := rfl
  have e2 : am_hA M.2.1 .iaload 1 pc L (.int j :: .ref k :: st) h = none := rfl
  simp only [e1, e2, am_hB, hh, hin, not_false_eq_true, if_true]
theorem Ev_ist {k n : Nat} {j x : Int32} {f : Nat → Int32} (hi : M.1 pc = some (.iastore, 1)) (hh : h[k]? = some (.inl (0, n, .inl f))) (hin : ¬ (j < 0 ∨ n ≤ j.toNatClampNeg)) (ev : Ev K M (pc + 1, L, st, h.set k (.inl (0, n, .inl (upd f j.toNatClampNeg x)))) g o h' g') : Ev K M (pc, L, .int x :: .int j :: .ref k :: st, h) g o h' g' := by
  refine Ev_n ?_ ev
  unfold am_n
  simp only [hi]
  have e1 : am_p .iastore 1 pc L (.int x :: .int j :: .ref k :: st) = none := rfl
  have e2 : am_hA M.2.1 .iastore 1 pc L (.int x :: .int j :: .ref k :: st) h = none := rfl
  simp only [e1, e2, am_hB, hh, hin, not_false_eq_true, if_true]
theorem Ev_len {k n : Nat} {f : Nat → Int32} (hi : M.1 pc = some (.arraylength, 1)) (hh : h[k]? = some (.inl (0, n, .inl f))) (ev : Ev K M (pc + 1, L, .int (nI n) :: st, h) g o h' g') : Ev K M (pc, L, .ref k :: st, h) g o h' g' := by
  refine Ev_n (S' := (pc + 1, L, .int (nI n) :: st, h)) ?_ ev
  unfold am_n
  simp only [hi]
  have e1 : am_p .arraylength 1 pc L (.ref k :: st) = none := rfl
  have e2 : am_hA M.2.1 .arraylength 1 pc L (.ref k :: st) h = none := rfl
  simp only [e1, e2, am_hB, hh]
  rfl
theorem Ev_w {L' : List (Option Value)} (hl : am_le L' L) (ev : Ev K M (pc, L', st, h) g o h' g') : Ev K M (pc, L, st, h) g o h' g' := by
  obtain ⟨n, hE⟩ := ev
  exact ⟨n + 1, Or.inr (Or.inl ⟨L', hl, hE⟩)⟩
theorem Ev_call {ix kd y k ci g1 : Nat} {v : Option Value} {h1 : List va_E} (hs : am_site M.1 M.2.2.2.1 (pc, L, st, h) = some (ix, kd, y, k, ci)) (hk : k ≤ st.length) (hw : ((st.drop k).map fun v => v.category).sum ≤ 8) (hc : Ct K y (st.take k).reverse h (.inl v) h1 g1) (ev : Ev K M (pc + 3, L, v.toList ++ st.drop k, h1) (g + g1) o h' g') : Ev K M (pc, L, st, h) g o h' g' := by
  obtain ⟨n, hE⟩ := ev
  exact ⟨n + 1, Or.inr (Or.inr (Or.inl ⟨ix, kd, y, k, ci, v, h1, g1, hs, hk, hw, hc, hE⟩))⟩
theorem Ev_callx {ix kd y k ci g1 : Nat} {E : String} {h1 : List va_E} (hs : am_site M.1 M.2.2.2.1 (pc, L, st, h) = some (ix, kd, y, k, ci)) (hk : k ≤ st.length) (hw : ((st.drop k).map fun v => v.category).sum ≤ 8) (hc : Ct K y (st.take k).reverse h (.inr E) h1 g1) : Ev K M (pc, L, st, h) g (.inr E) h1 (g + g1) :=
  ⟨1, Or.inr (Or.inr (Or.inr (Or.inl ⟨ix, kd, y, k, ci, E, h1, g1, hs, hk, hw, hc, rfl, rfl, rfl⟩)))⟩
theorem Ev_r {v : Option Value} (hr : am_ret M.1 M.2.2.2.2.2 (pc, L, st, h) = some v) : Ev K M (pc, L, st, h) g (.inl v) h g := ⟨1, Or.inr (Or.inr (Or.inr (Or.inr (Or.inl ⟨v, hr, rfl, rfl, rfl⟩))))⟩
theorem Ev_thr {E : String} (hr : am_thr M.1 M.2.2.2.2.1 (pc, L, st, h) = some E) : Ev K M (pc, L, st, h) g (.inr E) h (g + 1) := ⟨1, Or.inr (Or.inr (Or.inr (Or.inr (Or.inr ⟨E, hr, rfl, rfl, rfl⟩))))⟩
end EV
/-! The machine as a program, for states that are known. -/
def am_l (call : Nat → List Value → List va_E → Option (am_O × List va_E × Nat)) (ins : Nat → Option (Instr × Nat)) (fld : Nat → Option (Nat × Nat × Nat)) (cst : Nat → Option Value) (site : Nat → Option (Nat × Nat × Nat × Nat)) (exc : Nat × Nat → Option String) (rt : Option FieldType) : Nat → am_S → Nat → Option (am_O × List va_E × Nat)
  | 0, _, _ => none
  | n + 1, S, g => match am_n ins fld cst S with
    | some S' => am_l call ins fld cst site exc rt n S' g
    | none => match am_site ins site S with
      | some (_, _, y, k, _) => if k ≤ S.2.2.1.length ∧ ((S.2.2.1.drop k).map fun v => v.category).sum ≤ 8 then (match call y (S.2.2.1.take k).reverse S.2.2.2 with
        | some (.inl v, h1, g1) => am_l call ins fld cst site exc rt n (S.1 + 3, S.2.1, v.toList ++ S.2.2.1.drop k, h1) (g + g1)
        | some (.inr E, h1, g1) => some (.inr E, h1, g + g1)
        | none => none) else none
      | none => match am_ret ins rt S with
        | some v => some (.inl v, S.2.2.2, g)
        | none => match am_thr ins exc S with
          | some E => some (.inr E, S.2.2.2, g + 1)
          | none => none
theorem am_l_ok {call : Nat → List Value → List va_E → Option (am_O × List va_E × Nat)} {ins : Nat → Option (Instr × Nat)} {fld : Nat → Option (Nat × Nat × Nat)} {cst : Nat → Option Value} {site : Nat → Option (Nat × Nat × Nat × Nat)} {exc : Nat × Nat → Option String} {rt : Option FieldType} {Cr : Nat → List Value → List va_E → am_O → List va_E → Nat → Prop}
    (hc : ∀ y As h o h1 g1, call y As h = some (o, h1, g1) → Cr y As h o h1 g1) {o : am_O} {h' : List va_E} {g' : Nat} : ∀ n S g, am_l call ins fld cst site exc rt n S g = some (o, h', g') → am_E ins fld cst site exc rt Cr n S g o h' g' := by
  intro n
  induction n with
  | zero => intro S g h; cases h
  | succ n ih =>
    intro S g h
    unfold am_l at h
    split at h
    · next S' hS => exact Or.inl ⟨S', hS, ih _ _ h⟩
    · split at h
      · next ix kd y k ci hs =>
        split at h
        · next hk =>
          split at h
          · next v h1 g1 hw => exact Or.inr (Or.inr (Or.inl ⟨ix, kd, y, k, ci, v, h1, g1, hs, hk.1, hk.2, hc _ _ _ _ _ _ hw, ih _ _ h⟩))
          · next E h1 g1 hw =>
            cases h
            exact Or.inr (Or.inr (Or.inr (Or.inl ⟨ix, kd, y, k, ci, _, _, _, hs, hk.1, hk.2, hc _ _ _ _ _ _ hw, rfl, rfl, rfl⟩)))
          · cases h
        · cases h
      · split at h
        · next v hv => cases h; exact Or.inr (Or.inr (Or.inr (Or.inr (Or.inl ⟨v, hv, rfl, rfl, rfl⟩))))
        · split at h
          · next E hE => cases h; exact Or.inr (Or.inr (Or.inr (Or.inr (Or.inr ⟨E, hE, rfl, rfl, rfl⟩))))
          · cases h
end
section
/-! Row: put, at, clear. -/
abbrev M13 : ev_M := (am_in nd_i13, am_fl nd_f1, am_ct nd_k1, am_sl nd_ml nd_s13, fun _ => none, none)
theorem ne_of {h : List va_E} {r a : Nat} {x : Nat × List Value} {y : ClassId × vp_A} (hr : h[r]? = some (.inr x)) (ha : h[a]? = some (.inl y)) : a ≠ r := by
  intro e
  subst e
  rw [hr] at ha
  cases ha
/-- put, where there is room -/
theorem m13_in {K : cx_K} (hK : Kok K) {h : List va_E} {r a n sz : Nat} {f : Nat → Int32} {ov c : Int32} (hl : h.length ≤ 1000000) (hr : h[r]? = some (.inr (1, [.ref a, .int (nI sz), .int ov]))) (ha : h[a]? = some (.inl (0, n, .inl f))) (hn : n < 2 ^ 31) (hs : sz < n) :
    Ct K 13 [.ref r, .int c] h (.inl none) ((h.set a (.inl (0, n, .inl (upd f sz c)))).set r (.inr (1, [.ref a, .int (nI (sz + 1)), .int ov]))) 0 := by
  have hne := ne_of hr ha
  refine Ct_of hK nd_ok13 (mL := 2) (rt := none) rfl rfl (Nat.le_of_ble_eq_true rfl) (by simpa using hl) ?_
  refine Ev_p 1 (c' := (1, [some (.ref r), some (.int c)], [.ref r])) rfl ?_
  refine Ev_get (M := M13) rfl rfl hr rfl ?_
  refine Ev_p 1 (c' := (5, [some (.ref r), some (.int c)], [.ref r, .int (nI sz)])) rfl ?_
  refine Ev_get (M := M13) rfl rfl hr rfl ?_
  refine Ev_len (M := M13) rfl ha ?_
  refine Ev_b (M := M13) (b := nI n ≤ nI sz) rfl rfl (fun hb => absurd hb (nI_ge hs hn)) (fun _ => ?_)
  refine Ev_p 1 (c' := (13, [some (.ref r), some (.int c)], [.ref r])) rfl ?_
  refine Ev_get (M := M13) rfl rfl hr rfl ?_
  refine Ev_p 1 (c' := (17, [some (.ref r), some (.int c)], [.ref r, .ref a])) rfl ?_
  refine Ev_get (M := M13) rfl rfl hr rfl ?_
  refine Ev_p 1 (c' := (21, [some (.ref r), some (.int c)], [.int c, .int (nI sz), .ref a])) rfl ?_
  refine Ev_ist (M := M13) rfl ha (nI_in hs hn) ?_
  rw [nI_clamp (by omega)]
  have hr1 : (h.set a (.inl (0, n, .inl (upd f sz c))))[r]? = some (.inr (1, [.ref a, .int (nI sz), .int ov])) := by rw [List.getElem?_set_ne hne]; exact hr
  refine Ev_p 2 (c' := (24, [some (.ref r), some (.int c)], [.ref r, .ref r])) rfl ?_
  refine Ev_get (M := M13) rfl rfl hr1 rfl ?_
  refine Ev_p 2 (c' := (29, [some (.ref r), some (.int c)], [.int (nI sz + 1), .ref r])) rfl ?_
  rw [nI_1]
  refine Ev_put (M := M13) rfl rfl hr1 (Nat.le_of_ble_eq_true rfl) rfl ?_
  refine Ev_p 1 (c' := (40, [some (.ref r), some (.int c)], [])) rfl ?_
  exact Ev_r rfl
end
section
/-! The exceptions that the class throws: their tables (printed by wip/gen/exc.py). -/
def nx_in (as : List Cond) (ps : List Nat) : Bool := decide (as.length = ps.length) && (as.zip ps).all (fun q => (decide (lw_tbl[q.2]? = some q.1) && (goodWord q.1 || nm_isN q.1)) || decide (q.1 ∈ sx_tN))
theorem nx_in_ok {as : List Cond} {ps : List Nat} (h : nx_in as ps = true) : ∀ a ∈ as, a ∈ nm_Ts ∨ a ∈ nm_Tn := by
  unfold nx_in at h
  simp only [Bool.and_eq_true, decide_eq_true_eq] at h
  obtain ⟨hl, h⟩ := h
  intro a ha
  obtain ⟨i, hi, rfl⟩ := List.mem_iff_getElem.mp ha
  have hm : (as[i], ps[i]'(by omega)) ∈ as.zip ps := by
    refine List.mem_iff_getElem.mpr ⟨i, by simp; omega, ?_⟩
    simp
  have h1 := List.all_eq_true.mp h _ hm
  simp only [Bool.or_eq_true, Bool.and_eq_true, decide_eq_true_eq] at h1
  rcases h1 with ⟨h2, h3 | h3⟩ | h2
  · exact Or.inl (nm_in h2 h3)
  · exact Or.inr (nm_inN h2 h3)
  · refine Or.inr ?_
    unfold sx_tN at h2
    unfold nm_Tn
    rcases List.mem_cons.mp h2 with h3 | h3
    · rw [h3]; exact List.mem_cons_self
    · rcases List.mem_cons.mp h3 with h4 | h4
      · rw [h4]; exact List.mem_cons_of_mem _ List.mem_cons_self
      · cases h4
def nx_names : List String := ["java/lang/RuntimeException", "java/lang/Exception"]
theorem nx_a0 : ∀ a ∈ Bundle.ownAtoms0 "PaperParcels" 66 (hx_E 0) nx_names, a ∈ nm_Ts ∨ a ∈ nm_Tn := nx_in_ok (ps := [128, 594, 603, 608, 611, 613, 595, 596, 148, 149, 597, 602, 609, 625, 584, 626, 586, 627, 588, 598, 599, 600, 601, 590, 615, 616, 617, 618, 575, 618, 619, 620, 621, 577, 621, 622, 623, 595, 579, 614, 573, 574, 581, 582, 583, 585, 587, 589, 0, 0, 593, 592, 591]) (by decide +kernel)
theorem nx_c0 : Cond.classLink "PaperParcels" 64 (hx_E 0) ∈ nm_Ts ∧ Cond.initialized (hx_E 0) ∈ nm_Ts ∧ Cond.instantiable (hx_E 0) 6 ∈ nm_Ts := ⟨nm_in (i := 572) (by decide +kernel) rfl, nm_in (i := 131) (by decide +kernel) rfl, nm_in (i := 573) (by decide +kernel) rfl⟩
theorem nx_a1 : ∀ a ∈ Bundle.ownAtoms0 "PaperParcels" 126 (hx_E 1) nx_names, a ∈ nm_Ts ∨ a ∈ nm_Tn := nx_in_ok (ps := [128, 594, 603, 608, 611, 613, 595, 596, 148, 149, 597, 602, 609, 625, 584, 626, 586, 627, 588, 598, 599, 600, 601, 590, 898, 899, 900, 618, 575, 618, 619, 620, 621, 577, 621, 622, 623, 595, 579, 897, 889, 890, 891, 606, 892, 893, 894, 895, 0, 0, 593, 592, 896]) (by decide +kernel)
theorem nx_c1 : Cond.classLink "PaperParcels" 124 (hx_E 1) ∈ nm_Ts ∧ Cond.initialized (hx_E 1) ∈ nm_Ts ∧ Cond.instantiable (hx_E 1) 6 ∈ nm_Ts := ⟨nm_in (i := 888) (by decide +kernel) rfl, nm_in (i := 135) (by decide +kernel) rfl, nm_in (i := 889) (by decide +kernel) rfl⟩
theorem nx_a2 : ∀ a ∈ Bundle.ownAtoms0 "PaperParcels" 118 (hx_E 2) nx_names, a ∈ nm_Ts ∨ a ∈ nm_Tn := nx_in_ok (ps := [128, 594, 603, 608, 611, 613, 595, 596, 148, 149, 597, 602, 609, 625, 584, 626, 586, 627, 588, 598, 599, 600, 601, 590, 954, 955, 956, 618, 575, 618, 619, 620, 621, 577, 621, 622, 623, 595, 579, 953, 945, 946, 947, 605, 948, 949, 950, 951, 0, 0, 593, 592, 952]) (by decide +kernel)
theorem nx_c2 : Cond.classLink "PaperParcels" 116 (hx_E 2) ∈ nm_Ts ∧ Cond.initialized (hx_E 2) ∈ nm_Ts ∧ Cond.instantiable (hx_E 2) 6 ∈ nm_Ts := ⟨nm_in (i := 944) (by decide +kernel) rfl, nm_in (i := 136) (by decide +kernel) rfl, nm_in (i := 945) (by decide +kernel) rfl⟩
theorem nx_a3 : ∀ a ∈ Bundle.ownAtoms0 "PaperParcels" 146 (hx_E 3) nx_names, a ∈ nm_Ts ∨ a ∈ nm_Tn := nx_in_ok (ps := [128, 594, 603, 608, 611, 613, 595, 596, 148, 149, 597, 602, 609, 625, 584, 626, 586, 627, 588, 598, 599, 600, 601, 590, 1210, 1211, 1212, 618, 575, 618, 619, 620, 621, 577, 621, 622, 623, 595, 579, 1209, 1201, 1202, 1203, 607, 1204, 1205, 1206, 1207, 0, 0, 593, 592, 1208]) (by decide +kernel)
theorem nx_c3 : Cond.classLink "PaperParcels" 144 (hx_E 3) ∈ nm_Ts ∧ Cond.initialized (hx_E 3) ∈ nm_Ts ∧ Cond.instantiable (hx_E 3) 6 ∈ nm_Ts := ⟨nm_in (i := 1200) (by decide +kernel) rfl, nm_in (i := 141) (by decide +kernel) rfl, nm_in (i := 1201) (by decide +kernel) rfl⟩
/-- the exceptions by the places of 'new' and of their constructors -/
def nx_L : List ((Nat × Nat) × Nat) := [((64, 66), 0), ((124, 126), 1), ((116, 118), 2), ((144, 146), 3)]
def nx_exc (q : Nat × Nat) : Option String := ((nx_L.find? (fun z => z.1 == q)).map (fun z => z.2)).map hx_E
theorem nx_Xw {F G : Nat} (hF : 6 ≤ F) (hG : 89 ≤ G) : am_Xw "PaperParcels" nm_Ts nm_Tn F G nx_exc := by
  intro ik ic E hE
  unfold nx_exc at hE
  cases hf : nx_L.find? (fun z => z.1 == (ik, ic)) with
  | none => rw [hf] at hE; cases hE
  | some z =>
    rw [hf] at hE
    simp only [Option.map_some, Option.some.injEq] at hE
    subst hE
    have h1 := List.mem_of_find?_eq_some hf
    have h2 : z.1 = (ik, ic) := by simpa using List.find?_some hf
    have hn : ∀ n ∈ nx_names, Bundle.fit n = true := by decide +kernel
    have hlen : nx_names.length + 3 < F ∧ 8 + (13 * (nx_names.length + 1) + 42) ≤ G := ⟨by show 2 + 3 < F; omega, by show 8 + (13 * (2 + 1) + 42) ≤ G; omega⟩
    unfold nx_L at h1
    rcases List.mem_cons.mp h1 with rfl | h1
    · cases h2; exact ⟨nx_names, by decide +kernel, hn, nx_c0.1, nx_c0.2.1, nx_c0.2.2, nx_a0, hlen.1, hlen.2⟩
    rcases List.mem_cons.mp h1 with rfl | h1
    · cases h2; exact ⟨nx_names, by decide +kernel, hn, nx_c1.1, nx_c1.2.1, nx_c1.2.2, nx_a1, hlen.1, hlen.2⟩
    rcases List.mem_cons.mp h1 with rfl | h1
    · cases h2; exact ⟨nx_names, by decide +kernel, hn, nx_c2.1, nx_c2.2.1, nx_c2.2.2, nx_a2, hlen.1, hlen.2⟩
    rcases List.mem_cons.mp h1 with rfl | h1
    · cases h2; exact ⟨nx_names, by decide +kernel, hn, nx_c3.1, nx_c3.2.1, nx_c3.2.2, nx_a3, hlen.1, hlen.2⟩
    · cases h1
end
section
/-! The text on the class's side: clear, at, wipe, length, character; and place. -/
abbrev M15 : ev_M := (am_in nd_i15, am_fl nd_f1, am_ct nd_k1, am_sl nd_ml nd_s15, fun _ => none, none)
abbrev M18 : ev_M := (am_in nd_i18, am_fl nd_f1, am_ct nd_k1, am_sl nd_ml nd_s18, fun _ => none, some .int)
abbrev M14 : ev_M := (am_in nd_i14, am_fl nd_f0, am_ct nd_k0, am_sl nd_ml nd_s14, fun _ => none, some .int)
abbrev M16 : ev_M := (am_in nd_i16, am_fl nd_f0, am_ct nd_k0, am_sl nd_ml nd_s16, fun _ => none, some .int)
abbrev M17 : ev_M := (am_in nd_i17, am_fl nd_f0, am_ct nd_k0, am_sl nd_ml nd_s17, fun _ => none, some .int)
abbrev M19 : ev_M := (am_in nd_i19, am_fl nd_f0, am_ct nd_k0, am_sl nd_ml nd_s19, fun _ => none, some .int)
theorem set_get {h : List va_E} {r : Nat} {x y : va_E} (hr : h[r]? = some x) : (h.set r y)[r]? = some y := by
  rw [List.getElem?_set_self (List.getElem?_eq_some_iff.mp hr).1]
theorem m15 {K : cx_K} (hK : Kok K) {h : List va_E} {r a : Nat} {sz ov : Int32} (hl : h.length ≤ 1000000) (hr : h[r]? = some (.inr (1, [.ref a, .int sz, .int ov]))) :
    Ct K 15 [.ref r] h (.inl none) (h.set r (.inr (1, [.ref a, .int 0, .int 0]))) 0 := by
  refine Ct_of hK nd_ok15 (mL := 1) (rt := none) rfl rfl (Nat.le_of_ble_eq_true rfl) (by simpa using hl) ?_
  refine Ev_p 2 (c' := (2, [some (.ref r)], [.int 0, .ref r])) rfl ?_
  refine Ev_put (M := M15) rfl rfl hr (Nat.le_of_ble_eq_true rfl) rfl ?_
  refine Ev_p 2 (c' := (7, [some (.ref r)], [.int 0, .ref r])) rfl ?_
  refine Ev_put (M := M15) rfl rfl (set_get hr) (Nat.le_of_ble_eq_true rfl) rfl ?_
  rw [List.set_set]
  exact Ev_r rfl
/-- what stands at j in a row of sz letters -/
def rowAt (f : Nat → Int32) (sz : Nat) (j : Int32) : Int32 := if j < 0 ∨ nI sz ≤ j then -1 else f j.toNatClampNeg
theorem m18 {K : cx_K} (hK : Kok K) {h : List va_E} {r a n sz : Nat} {f : Nat → Int32} {ov j : Int32} (hl : h.length ≤ 1000000) (hr : h[r]? = some (.inr (1, [.ref a, .int (nI sz), .int ov]))) (ha : h[a]? = some (.inl (0, n, .inl f))) (hn : n < 2 ^ 31) (hs : sz ≤ n) :
    Ct K 18 [.ref r, .int j] h (.inl (some (.int (rowAt f sz j)))) h 0 := by
  refine Ct_of hK nd_ok18 (mL := 2) (rt := some .int) rfl rfl (Nat.le_of_ble_eq_true rfl) hl ?_
  unfold rowAt
  refine Ev_p 1 (c' := (1, [some (.ref r), some (.int j)], [.int j])) rfl ?_
  refine Ev_b (M := M18) (b := j < 0) rfl rfl (fun hb => ?_) (fun hb => ?_)
  · rw [if_pos (Or.inl hb)]
    refine Ev_p 1 (c' := (22, [some (.ref r), some (.int j)], [.int (-1)])) rfl ?_
    exact Ev_r rfl
  · refine Ev_p 2 (c' := (6, [some (.ref r), some (.int j)], [.ref r, .int j])) rfl ?_
    refine Ev_get (M := M18) rfl rfl hr rfl ?_
    refine Ev_b (M := M18) (b := nI sz ≤ j) rfl rfl (fun hc => ?_) (fun hc => ?_)
    · rw [if_pos (Or.inr hc)]
      refine Ev_p 1 (c' := (22, [some (.ref r), some (.int j)], [.int (-1)])) rfl ?_
      exact Ev_r rfl
    · have hno : ¬ (j < 0 ∨ nI sz ≤ j) := fun q => q.elim hb hc
      rw [if_neg hno]
      refine Ev_p 1 (c' := (13, [some (.ref r), some (.int j)], [.ref r])) rfl ?_
      refine Ev_get (M := M18) rfl rfl hr rfl ?_
      refine Ev_p 1 (c' := (17, [some (.ref r), some (.int j)], [.int j, .ref a])) rfl ?_
      refine Ev_ild (M := M18) rfl ha (fun q => q.elim hb (fun q => hc ?_)) ?_
      · have e1 := Int32.le_iff_toInt_le.mp (Int32.not_lt.mp hb)
        have e2 : (nI sz).toInt = (sz : Int) := by unfold nI; rw [Int32.toInt_ofNat_of_lt (by omega)]
        have e3 : (0 : Int32).toInt = 0 := rfl
        rw [Int32.le_iff_toInt_le, e2]
        have e4 : j.toNatClampNeg = j.toInt.toNat := rfl
        omega
      refine Ev_p 1 (c' := (22, [some (.ref r), some (.int j)], [.int (f j.toNatClampNeg)])) rfl ?_
      exact Ev_r rfl
theorem m16 {K : cx_K} (hK : Kok K) {h : List va_E} {o r s2 s3 s4 s5 a : Nat} {sz ov : Int32} (hl : h.length ≤ 1000000) (ho : h[o]? = some (.inr (0, [.ref r, .ref s2, .ref s3, .ref s4, .ref s5]))) (hr : h[r]? = some (.inr (1, [.ref a, .int sz, .int ov]))) :
    Ct K 16 [.ref o] h (.inl (some (.int sz))) h 0 := by
  refine Ct_of hK nd_ok16 (mL := 1) (rt := some .int) rfl rfl (Nat.le_of_ble_eq_true rfl) hl ?_
  refine Ev_p 1 (c' := (1, [some (.ref o)], [.ref o])) rfl ?_
  refine Ev_get (M := M16) rfl rfl ho rfl ?_
  refine Ev_get (M := M16) rfl rfl hr rfl ?_
  exact Ev_r rfl
theorem m14 {K : cx_K} (hK : Kok K) {h : List va_E} {o r s2 s3 s4 s5 a : Nat} {sz ov : Int32} (hl : h.length ≤ 1000000) (ho : h[o]? = some (.inr (0, [.ref r, .ref s2, .ref s3, .ref s4, .ref s5]))) (hr : h[r]? = some (.inr (1, [.ref a, .int sz, .int ov]))) :
    Ct K 14 [.ref o] h (.inl (some (.int sz))) (h.set r (.inr (1, [.ref a, .int 0, .int 0]))) 0 := by
  refine Ct_of hK nd_ok14 (mL := 2) (rt := some .int) rfl rfl (Nat.le_of_ble_eq_true rfl) (by simpa using hl) ?_
  refine Ev_p 1 (c' := (1, [some (.ref o), none], [.ref o])) rfl ?_
  refine Ev_get (M := M14) rfl rfl ho rfl ?_
  refine Ev_get (M := M14) rfl rfl hr rfl ?_
  refine Ev_p 2 (c' := (9, [some (.ref o), some (.int sz)], [.ref o])) rfl ?_
  refine Ev_get (M := M14) rfl rfl ho rfl ?_
  refine Ev_call (M := M14) (am_site_v (y := 15) (k := 1) (ci := 1) rfl rfl (am_rcv_v rfl hr)) (Nat.le_of_ble_eq_true rfl) (Nat.le_of_ble_eq_true rfl) (m15 hK hl hr) ?_
  refine Ev_p 1 (c' := (16, [some (.ref o), some (.int sz)], [.int sz])) rfl ?_
  exact Ev_r rfl
theorem m17 {K : cx_K} (hK : Kok K) {h : List va_E} {o r s2 s3 s4 s5 a n sz : Nat} {f : Nat → Int32} {ov j : Int32} (hl : h.length ≤ 1000000) (ho : h[o]? = some (.inr (0, [.ref r, .ref s2, .ref s3, .ref s4, .ref s5]))) (hr : h[r]? = some (.inr (1, [.ref a, .int (nI sz), .int ov]))) (ha : h[a]? = some (.inl (0, n, .inl f))) (hn : n < 2 ^ 31) (hs : sz ≤ n) :
    Ct K 17 [.ref o, .int j] h (.inl (some (.int (rowAt f sz j)))) h 0 := by
  refine Ct_of hK nd_ok17 (mL := 2) (rt := some .int) rfl rfl (Nat.le_of_ble_eq_true rfl) hl ?_
  refine Ev_p 1 (c' := (1, [some (.ref o), some (.int j)], [.ref o])) rfl ?_
  refine Ev_get (M := M17) rfl rfl ho rfl ?_
  refine Ev_p 1 (c' := (5, [some (.ref o), some (.int j)], [.int j, .ref r])) rfl ?_
  refine Ev_call (M := M17) (am_site_v (y := 18) (k := 2) (ci := 1) rfl rfl (am_rcv_v rfl hr)) (Nat.le_of_ble_eq_true rfl) (Nat.le_of_ble_eq_true rfl) (m18 hK hl hr ha hn hs) ?_
  exact Ev_r rfl
end
section
/-! The text on the model's side: thrown, length, wipe, character. fs: the model's fields (0 thrown, 1 the text, 2 its length). -/
abbrev M147 : ev_M := (am_in nd_i147, am_fl nd_f11, am_ct nd_k11, am_sl nd_ml nd_s147, fun _ => none, some .int)
abbrev M149 : ev_M := (am_in nd_i149, am_fl nd_f11, am_ct nd_k11, am_sl nd_ml nd_s149, fun _ => none, some .int)
abbrev M150 : ev_M := (am_in nd_i150, am_fl nd_f11, am_ct nd_k11, am_sl nd_ml nd_s150, fun _ => none, some .int)
abbrev M151 : ev_M := (am_in nd_i151, am_fl nd_f11, am_ct nd_k11, am_sl nd_ml nd_s151, fun _ => none, some .int)
theorem m147 {K : cx_K} (hK : Kok K) {h : List va_E} {o : Nat} {fs : List Value} {t : Int32} (hl : h.length ≤ 1000000) (ho : h[o]? = some (.inr (11, fs))) (h0 : fs[0]? = some (.int t)) : Ct K 147 [.ref o] h (.inl (some (.int t))) h 0 := by
  refine Ct_of hK nd_ok147 (mL := 1) (rt := some .int) rfl rfl (Nat.le_of_ble_eq_true rfl) hl ?_
  refine Ev_p 1 (c' := (1, [some (.ref o)], [.ref o])) rfl ?_
  refine Ev_get (M := M147) rfl rfl ho h0 ?_
  exact Ev_r rfl
theorem m150 {K : cx_K} (hK : Kok K) {h : List va_E} {o : Nat} {fs : List Value} {n : Int32} (hl : h.length ≤ 1000000) (ho : h[o]? = some (.inr (11, fs))) (hf : fs.length = 57) (h2 : fs[2]? = some (.int n)) : Ct K 150 [.ref o] h (.inl (some (.int n))) (h.set o (.inr (11, fs.set 0 (.int 0)))) 0 := by
  refine Ct_of hK nd_ok150 (mL := 1) (rt := some .int) rfl rfl (Nat.le_of_ble_eq_true rfl) (by simpa using hl) ?_
  refine Ev_p 2 (c' := (2, [some (.ref o)], [.int 0, .ref o])) rfl ?_
  refine Ev_put (M := M150) rfl rfl ho (by rw [hf]; decide) rfl ?_
  refine Ev_p 1 (c' := (6, [some (.ref o)], [.ref o])) rfl ?_
  refine Ev_get (M := M150) rfl rfl (set_get ho) (by rw [List.getElem?_set_ne (by decide)]; exact h2) ?_
  exact Ev_r rfl
theorem m149 {K : cx_K} (hK : Kok K) {h : List va_E} {o : Nat} {fs : List Value} {n : Int32} (hl : h.length ≤ 1000000) (ho : h[o]? = some (.inr (11, fs))) (hf : fs.length = 57) (h2 : fs[2]? = some (.int n)) : Ct K 149 [.ref o] h (.inl (some (.int n))) (h.set o (.inr (11, (fs.set 0 (.int 0)).set 2 (.int 0)))) 0 := by
  refine Ct_of hK nd_ok149 (mL := 2) (rt := some .int) rfl rfl (Nat.le_of_ble_eq_true rfl) (by simpa using hl) ?_
  refine Ev_p 2 (c' := (2, [some (.ref o), none], [.int 0, .ref o])) rfl ?_
  refine Ev_put (M := M149) rfl rfl ho (by rw [hf]; decide) rfl ?_
  refine Ev_p 1 (c' := (6, [some (.ref o), none], [.ref o])) rfl ?_
  refine Ev_get (M := M149) rfl rfl (set_get ho) (by rw [List.getElem?_set_ne (by decide)]; exact h2) ?_
  refine Ev_p 3 (c' := (12, [some (.ref o), some (.int n)], [.int 0, .ref o])) rfl ?_
  refine Ev_put (M := M149) rfl rfl (set_get ho) (by rw [List.length_set, hf]; decide) rfl ?_
  rw [List.set_set]
  refine Ev_p 1 (c' := (16, [some (.ref o), some (.int n)], [.int n])) rfl ?_
  exact Ev_r rfl
theorem m151 {K : cx_K} (hK : Kok K) {h : List va_E} {o a n sz : Nat} {fs : List Value} {f : Nat → Int32} {j : Int32} (hl : h.length ≤ 1000000) (ho : h[o]? = some (.inr (11, fs))) (hf : fs.length = 57) (h1 : fs[1]? = some (.ref a)) (h2 : fs[2]? = some (.int (nI sz))) (ha : h[a]? = some (.inl (0, n, .inl f))) (hn : n < 2 ^ 31) (hs : sz ≤ n) : Ct K 151 [.ref o, .int j] h (.inl (some (.int (rowAt f sz j)))) (h.set o (.inr (11, fs.set 0 (.int 0)))) 0 := by
  have hne := ne_of ho ha
  refine Ct_of hK nd_ok151 (mL := 2) (rt := some .int) rfl rfl (Nat.le_of_ble_eq_true rfl) (by simpa using hl) ?_
  unfold rowAt
  refine Ev_p 2 (c' := (2, [some (.ref o), some (.int j)], [.int 0, .ref o])) rfl ?_
  refine Ev_put (M := M151) rfl rfl ho (by rw [hf]; decide) rfl ?_
  refine Ev_p 1 (c' := (6, [some (.ref o), some (.int j)], [.int j])) rfl ?_
  refine Ev_b (M := M151) (b := j < 0) rfl rfl (fun hb => ?_) (fun hb => ?_)
  · rw [if_pos (Or.inl hb)]
    refine Ev_p 1 (c' := (27, [some (.ref o), some (.int j)], [.int (-1)])) rfl ?_
    exact Ev_r rfl
  · refine Ev_p 2 (c' := (11, [some (.ref o), some (.int j)], [.ref o, .int j])) rfl ?_
    refine Ev_get (M := M151) rfl rfl (set_get ho) (by rw [List.getElem?_set_ne (by decide)]; exact h2) ?_
    refine Ev_b (M := M151) (b := nI sz ≤ j) rfl rfl (fun hc => ?_) (fun hc => ?_)
    · rw [if_pos (Or.inr hc)]
      refine Ev_p 1 (c' := (27, [some (.ref o), some (.int j)], [.int (-1)])) rfl ?_
      exact Ev_r rfl
    · have hno : ¬ (j < 0 ∨ nI sz ≤ j) := fun q => q.elim hb hc
      rw [if_neg hno]
      refine Ev_p 1 (c' := (18, [some (.ref o), some (.int j)], [.ref o])) rfl ?_
      refine Ev_get (M := M151) rfl rfl (set_get ho) (by rw [List.getElem?_set_ne (by decide)]; exact h1) ?_
      refine Ev_p 1 (c' := (22, [some (.ref o), some (.int j)], [.int j, .ref a])) rfl ?_
      refine Ev_ild (M := M151) (f := f) (n := n) rfl (by rw [List.getElem?_set_ne (Ne.symm hne)]; exact ha) (fun q => q.elim hb (fun q => hc ?_)) ?_
      · have e1 := Int32.le_iff_toInt_le.mp (Int32.not_lt.mp hb)
        have e2 : (nI sz).toInt = (sz : Int) := by unfold nI; rw [Int32.toInt_ofNat_of_lt (by omega)]
        have e3 : (0 : Int32).toInt = 0 := rfl
        rw [Int32.le_iff_toInt_le, e2]
        have e4 : j.toNatClampNeg = j.toInt.toNat := rfl
        omega
      refine Ev_p 1 (c' := (27, [some (.ref o), some (.int j)], [.int (f j.toNatClampNeg)])) rfl ?_
      exact Ev_r rfl
end
section
/-! The calls on the text: length, wipe, character. -/
/-- the text on both sides: sz letters f, in the class's row at place 1 (its array at 2) and in the model's fields 1, 2 (its array at 180) -/
def tx_R (h : List va_E) (sz : Nat) (ov : Int32) (f fm : Nat → Int32) (fs : List Value) : Prop :=
  h.length = 226 ∧ h[0]? = some (.inr (0, [.ref 1, .ref 3, .ref 28, .ref 69, .ref 169])) ∧ h[1]? = some (.inr (1, [.ref 2, .int (nI sz), .int ov])) ∧ h[2]? = some (.inl (0, 480, .inl f)) ∧ h[179]? = some (.inr (11, fs)) ∧ fs.length = 57 ∧ fs[1]? = some (.ref 180) ∧ fs[2]? = some (.int (nI sz)) ∧ h[180]? = some (.inl (0, 480, .inl fm)) ∧ sz ≤ 480 ∧ ∀ j, j < sz → f j = fm j
theorem tx_at {f fm : Nat → Int32} {sz : Nat} {j : Int32} (hs : sz ≤ 480) (h : ∀ j, j < sz → f j = fm j) : rowAt f sz j = rowAt fm sz j := by
  unfold rowAt
  split
  · rfl
  · next q =>
    refine h _ ?_
    have q1 : ¬ j < 0 := fun z => q (Or.inl z)
    have q2 : ¬ nI sz ≤ j := fun z => q (Or.inr z)
    have e1 := Int32.le_iff_toInt_le.mp (Int32.not_lt.mp q1)
    have e2 : (nI sz).toInt = (sz : Int) := by unfold nI; rw [Int32.toInt_ofNat_of_lt (by omega)]
    have e3 : (0 : Int32).toInt = 0 := rfl
    rw [Int32.le_iff_toInt_le, e2] at q2
    have e4 : j.toNatClampNeg = j.toInt.toNat := rfl
    omega
theorem op_length {K : cx_K} (hK : Kok K) {h : List va_E} {sz : Nat} {ov : Int32} {f fm : Nat → Int32} {fs : List Value} (hR : tx_R h sz ov f fm fs) : op2 K 16 150 [] h (fun h' => h' = h.set 179 (.inr (11, fs.set 0 (.int 0)))) := by
  obtain ⟨a0, a1, a2, a3, a4, a5, a6, a7, a8, a9, a10⟩ := hR
  have hl : h.length ≤ 1000000 := by omega
  exact ⟨⟨_, a1⟩, nI sz, h, _, m16 hK hl a1 a2, ⟨_, a4⟩, m150 hK hl a4 a5 a7, rfl⟩
theorem op_wipe {K : cx_K} (hK : Kok K) {h : List va_E} {sz : Nat} {ov : Int32} {f fm : Nat → Int32} {fs : List Value} (hR : tx_R h sz ov f fm fs) : op2 K 14 149 [] h (fun h' => h' = (h.set 1 (.inr (1, [.ref 2, .int 0, .int 0]))).set 179 (.inr (11, (fs.set 0 (.int 0)).set 2 (.int 0)))) := by
  obtain ⟨a0, a1, a2, a3, a4, a5, a6, a7, a8, a9, a10⟩ := hR
  have hl : h.length ≤ 1000000 := by omega
  have a4' : (h.set 1 (.inr (1, [.ref 2, .int 0, .int 0])))[179]? = some (.inr (11, fs)) := by rw [List.getElem?_set_ne (by decide)]; exact a4
  exact ⟨⟨_, a1⟩, nI sz, _, _, m14 hK hl a1 a2, ⟨_, a4'⟩, m149 hK (by rw [List.length_set]; exact hl) a4' a5 a7, rfl⟩
theorem op_character {K : cx_K} (hK : Kok K) {h : List va_E} {sz : Nat} {ov j : Int32} {f fm : Nat → Int32} {fs : List Value} (hR : tx_R h sz ov f fm fs) : op2 K 17 151 [.int j] h (fun h' => h' = h.set 179 (.inr (11, fs.set 0 (.int 0)))) := by
  obtain ⟨a0, a1, a2, a3, a4, a5, a6, a7, a8, a9, a10⟩ := hR
  have hl : h.length ≤ 1000000 := by omega
  refine ⟨⟨_, a1⟩, rowAt f sz j, h, _, m17 hK hl a1 a2 a3 (by decide) a9, ⟨_, a4⟩, ?_, rfl⟩
  rw [tx_at a9 a10]
  exact m151 hK hl a4 a5 a6 a7 a8 (by decide) a9
end
