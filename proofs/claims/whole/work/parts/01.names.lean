-- ===== PART A: goes FIRST, ahead of the names: the tables' words, and 'selects' of the private methods out of them =====
/-- a private method of a class that the tables say can be made, by its rows of tables_1 -/
def lw_okq (q : MethodName × Nat) : Prop := (q.1.cls ≠ "java/lang/invoke/MethodHandle" ∧ q.1.cls ≠ "java/lang/invoke/VarHandle") ∧ Cond.instantiable q.1.cls q.2 ∈ tables_1 ∧ Cond.privateMethod q.1 ∈ tables_1 ∧ Cond.instanceMethod q.1 ∈ tables_1
theorem lw_p0 : lw_okq (⟨"MaskDesk$Outline", "after", "(I)I"⟩, 3) := ⟨⟨by decide +kernel, by decide +kernel⟩, List.mem_of_getElem? (i := 37) (by decide +kernel), List.mem_of_getElem? (i := 323) (by decide +kernel), List.mem_of_getElem? (i := 324) (by decide +kernel)⟩
theorem lw_p1 : lw_okq (⟨"MaskDesk$Outline", "isLevel", "(I)Z"⟩, 3) := ⟨⟨by decide +kernel, by decide +kernel⟩, List.mem_of_getElem? (i := 37) (by decide +kernel), List.mem_of_getElem? (i := 327) (by decide +kernel), List.mem_of_getElem? (i := 328) (by decide +kernel)⟩
theorem lw_p2 : lw_okq (⟨"MaskDesk$Outline", "isUpright", "(I)Z"⟩, 3) := ⟨⟨by decide +kernel, by decide +kernel⟩, List.mem_of_getElem? (i := 37) (by decide +kernel), List.mem_of_getElem? (i := 331) (by decide +kernel), List.mem_of_getElem? (i := 332) (by decide +kernel)⟩
theorem lw_p3 : lw_okq (⟨"MaskDesk$Layout", "layPart", "(IIIILMaskDesk$Cells;)Z"⟩, 3) := ⟨⟨by decide +kernel, by decide +kernel⟩, List.mem_of_getElem? (i := 53) (by decide +kernel), List.mem_of_getElem? (i := 479) (by decide +kernel), List.mem_of_getElem? (i := 480) (by decide +kernel)⟩
theorem lw_p4 : lw_okq (⟨"MaskDesk$Layout", "layCopies", "(IIIIILMaskDesk$Cells;)Z"⟩, 3) := ⟨⟨by decide +kernel, by decide +kernel⟩, List.mem_of_getElem? (i := 53) (by decide +kernel), List.mem_of_getElem? (i := 501) (by decide +kernel), List.mem_of_getElem? (i := 502) (by decide +kernel)⟩
theorem lw_p5 : lw_okq (⟨"MaskDesk$Survey", "countGroups", "(Z)I"⟩, 2) := ⟨⟨by decide +kernel, by decide +kernel⟩, List.mem_of_getElem? (i := 89) (by decide +kernel), List.mem_of_getElem? (i := 538) (by decide +kernel), List.mem_of_getElem? (i := 539) (by decide +kernel)⟩
theorem lw_p6 : lw_okq (⟨"MaskDesk$Survey", "flood", "(Z)V"⟩, 2) := ⟨⟨by decide +kernel, by decide +kernel⟩, List.mem_of_getElem? (i := 89) (by decide +kernel), List.mem_of_getElem? (i := 545) (by decide +kernel), List.mem_of_getElem? (i := 546) (by decide +kernel)⟩
theorem lw_p7 : lw_okq (⟨"MaskDesk$Survey", "spreadInto", "(IZ)Z"⟩, 2) := ⟨⟨by decide +kernel, by decide +kernel⟩, List.mem_of_getElem? (i := 89) (by decide +kernel), List.mem_of_getElem? (i := 549) (by decide +kernel), List.mem_of_getElem? (i := 550) (by decide +kernel)⟩
theorem lw_p8 : lw_okq (⟨"MaskDesk$Chords", "findCorners", "(LMaskDesk$Cells;)V"⟩, 10) := ⟨⟨by decide +kernel, by decide +kernel⟩, List.mem_of_getElem? (i := 104) (by decide +kernel), List.mem_of_getElem? (i := 570) (by decide +kernel), List.mem_of_getElem? (i := 571) (by decide +kernel)⟩
theorem lw_p9 : lw_okq (⟨"MaskDesk$Chords", "findLevel", "(LMaskDesk$Cells;)V"⟩, 10) := ⟨⟨by decide +kernel, by decide +kernel⟩, List.mem_of_getElem? (i := 104) (by decide +kernel), List.mem_of_getElem? (i := 575) (by decide +kernel), List.mem_of_getElem? (i := 576) (by decide +kernel)⟩
theorem lw_p10 : lw_okq (⟨"MaskDesk$Chords", "isCorner", "(II)Z"⟩, 10) := ⟨⟨by decide +kernel, by decide +kernel⟩, List.mem_of_getElem? (i := 104) (by decide +kernel), List.mem_of_getElem? (i := 579) (by decide +kernel), List.mem_of_getElem? (i := 580) (by decide +kernel)⟩
theorem lw_p11 : lw_okq (⟨"MaskDesk$Chords", "keep", "(III)V"⟩, 10) := ⟨⟨by decide +kernel, by decide +kernel⟩, List.mem_of_getElem? (i := 104) (by decide +kernel), List.mem_of_getElem? (i := 588) (by decide +kernel), List.mem_of_getElem? (i := 589) (by decide +kernel)⟩
theorem lw_p12 : lw_okq (⟨"MaskDesk$Chords", "findUpright", "(LMaskDesk$Cells;)V"⟩, 10) := ⟨⟨by decide +kernel, by decide +kernel⟩, List.mem_of_getElem? (i := 104) (by decide +kernel), List.mem_of_getElem? (i := 592) (by decide +kernel), List.mem_of_getElem? (i := 593) (by decide +kernel)⟩
theorem lw_p13 : lw_okq (⟨"MaskDesk$Chords", "findTouching", "()V"⟩, 10) := ⟨⟨by decide +kernel, by decide +kernel⟩, List.mem_of_getElem? (i := 104) (by decide +kernel), List.mem_of_getElem? (i := 649) (by decide +kernel), List.mem_of_getElem? (i := 650) (by decide +kernel)⟩
theorem lw_p14 : lw_okq (⟨"MaskDesk$Chords", "touch", "(II)Z"⟩, 10) := ⟨⟨by decide +kernel, by decide +kernel⟩, List.mem_of_getElem? (i := 104) (by decide +kernel), List.mem_of_getElem? (i := 653) (by decide +kernel), List.mem_of_getElem? (i := 654) (by decide +kernel)⟩
theorem lw_p15 : lw_okq (⟨"MaskDesk$Chords", "greatestAmong", "(I)I"⟩, 10) := ⟨⟨by decide +kernel, by decide +kernel⟩, List.mem_of_getElem? (i := 104) (by decide +kernel), List.mem_of_getElem? (i := 657) (by decide +kernel), List.mem_of_getElem? (i := 658) (by decide +kernel)⟩
def lw_privs_1 : List (MethodName × Nat) := [(⟨"MaskDesk$Outline", "after", "(I)I"⟩, 3), (⟨"MaskDesk$Outline", "isLevel", "(I)Z"⟩, 3), (⟨"MaskDesk$Outline", "isUpright", "(I)Z"⟩, 3), (⟨"MaskDesk$Layout", "layPart", "(IIIILMaskDesk$Cells;)Z"⟩, 3), (⟨"MaskDesk$Layout", "layCopies", "(IIIIILMaskDesk$Cells;)Z"⟩, 3), (⟨"MaskDesk$Survey", "countGroups", "(Z)I"⟩, 2), (⟨"MaskDesk$Survey", "flood", "(Z)V"⟩, 2), (⟨"MaskDesk$Survey", "spreadInto", "(IZ)Z"⟩, 2), (⟨"MaskDesk$Chords", "findCorners", "(LMaskDesk$Cells;)V"⟩, 10), (⟨"MaskDesk$Chords", "findLevel", "(LMaskDesk$Cells;)V"⟩, 10), (⟨"MaskDesk$Chords", "isCorner", "(II)Z"⟩, 10), (⟨"MaskDesk$Chords", "keep", "(III)V"⟩, 10), (⟨"MaskDesk$Chords", "findUpright", "(LMaskDesk$Cells;)V"⟩, 10), (⟨"MaskDesk$Chords", "findTouching", "()V"⟩, 10), (⟨"MaskDesk$Chords", "touch", "(II)Z"⟩, 10), (⟨"MaskDesk$Chords", "greatestAmong", "(I)I"⟩, 10)]
theorem lw_r1 : ∀ q ∈ lw_privs_1, lw_okq q := List.forall_mem_cons.mpr ⟨lw_p0, List.forall_mem_cons.mpr ⟨lw_p1, List.forall_mem_cons.mpr ⟨lw_p2, List.forall_mem_cons.mpr ⟨lw_p3, List.forall_mem_cons.mpr ⟨lw_p4, List.forall_mem_cons.mpr ⟨lw_p5, List.forall_mem_cons.mpr ⟨lw_p6, List.forall_mem_cons.mpr ⟨lw_p7, List.forall_mem_cons.mpr ⟨lw_p8, List.forall_mem_cons.mpr ⟨lw_p9, List.forall_mem_cons.mpr ⟨lw_p10, List.forall_mem_cons.mpr ⟨lw_p11, List.forall_mem_cons.mpr ⟨lw_p12, List.forall_mem_cons.mpr ⟨lw_p13, List.forall_mem_cons.mpr ⟨lw_p14, List.forall_mem_cons.mpr ⟨lw_p15, fun _ h => absurd h List.not_mem_nil⟩⟩⟩⟩⟩⟩⟩⟩⟩⟩⟩⟩⟩⟩⟩⟩
theorem lw_p16 : lw_okq (⟨"MaskDesk$Chords", "findPartner", "(III)Z"⟩, 10) := ⟨⟨by decide +kernel, by decide +kernel⟩, List.mem_of_getElem? (i := 104) (by decide +kernel), List.mem_of_getElem? (i := 661) (by decide +kernel), List.mem_of_getElem? (i := 662) (by decide +kernel)⟩
theorem lw_p17 : lw_okq (⟨"MaskDesk$Cutter", "cutChord", "(LMaskDesk$Chords;I)V"⟩, 5) := ⟨⟨by decide +kernel, by decide +kernel⟩, List.mem_of_getElem? (i := 141) (by decide +kernel), List.mem_of_getElem? (i := 678) (by decide +kernel), List.mem_of_getElem? (i := 679) (by decide +kernel)⟩
theorem lw_p18 : lw_okq (⟨"MaskDesk$Cutter", "cutLevel", "(III)V"⟩, 5) := ⟨⟨by decide +kernel, by decide +kernel⟩, List.mem_of_getElem? (i := 141) (by decide +kernel), List.mem_of_getElem? (i := 698) (by decide +kernel), List.mem_of_getElem? (i := 699) (by decide +kernel)⟩
theorem lw_p19 : lw_okq (⟨"MaskDesk$Cutter", "cutUpright", "(III)V"⟩, 5) := ⟨⟨by decide +kernel, by decide +kernel⟩, List.mem_of_getElem? (i := 141) (by decide +kernel), List.mem_of_getElem? (i := 703) (by decide +kernel), List.mem_of_getElem? (i := 704) (by decide +kernel)⟩
theorem lw_p20 : lw_okq (⟨"MaskDesk$Cutter", "cutFrom", "(III)V"⟩, 5) := ⟨⟨by decide +kernel, by decide +kernel⟩, List.mem_of_getElem? (i := 141) (by decide +kernel), List.mem_of_getElem? (i := 709) (by decide +kernel), List.mem_of_getElem? (i := 710) (by decide +kernel)⟩
theorem lw_p21 : lw_okq (⟨"MaskDesk$Cutter", "widthFrom", "(II)I"⟩, 5) := ⟨⟨by decide +kernel, by decide +kernel⟩, List.mem_of_getElem? (i := 141) (by decide +kernel), List.mem_of_getElem? (i := 720) (by decide +kernel), List.mem_of_getElem? (i := 721) (by decide +kernel)⟩
theorem lw_p22 : lw_okq (⟨"MaskDesk$Cutter", "heightFrom", "(II)I"⟩, 5) := ⟨⟨by decide +kernel, by decide +kernel⟩, List.mem_of_getElem? (i := 141) (by decide +kernel), List.mem_of_getElem? (i := 724) (by decide +kernel), List.mem_of_getElem? (i := 725) (by decide +kernel)⟩
theorem lw_p23 : lw_okq (⟨"MaskDesk$TapeWriter", "writeGroup", "(LMaskDesk$Items;I)V"⟩, 5) := ⟨⟨by decide +kernel, by decide +kernel⟩, List.mem_of_getElem? (i := 191) (by decide +kernel), List.mem_of_getElem? (i := 761) (by decide +kernel), List.mem_of_getElem? (i := 762) (by decide +kernel)⟩
theorem lw_p24 : lw_okq (⟨"MaskDesk$TapeWriter", "gather", "(LMaskDesk$Items;I)V"⟩, 5) := ⟨⟨by decide +kernel, by decide +kernel⟩, List.mem_of_getElem? (i := 191) (by decide +kernel), List.mem_of_getElem? (i := 765) (by decide +kernel), List.mem_of_getElem? (i := 766) (by decide +kernel)⟩
theorem lw_p25 : lw_okq (⟨"MaskDesk$TapeWriter", "emit", "(I)V"⟩, 5) := ⟨⟨by decide +kernel, by decide +kernel⟩, List.mem_of_getElem? (i := 191) (by decide +kernel), List.mem_of_getElem? (i := 769) (by decide +kernel), List.mem_of_getElem? (i := 770) (by decide +kernel)⟩
theorem lw_p26 : lw_okq (⟨"MaskDesk$TapeWriter", "countLines", "()I"⟩, 5) := ⟨⟨by decide +kernel, by decide +kernel⟩, List.mem_of_getElem? (i := 191) (by decide +kernel), List.mem_of_getElem? (i := 777) (by decide +kernel), List.mem_of_getElem? (i := 778) (by decide +kernel)⟩
theorem lw_p27 : lw_okq (⟨"MaskDesk$TapeWriter", "lineEndFrom", "(I)I"⟩, 5) := ⟨⟨by decide +kernel, by decide +kernel⟩, List.mem_of_getElem? (i := 191) (by decide +kernel), List.mem_of_getElem? (i := 781) (by decide +kernel), List.mem_of_getElem? (i := 782) (by decide +kernel)⟩
theorem lw_p28 : lw_okq (⟨"MaskDesk$TapeWriter", "isSameStep", "(II)Z"⟩, 5) := ⟨⟨by decide +kernel, by decide +kernel⟩, List.mem_of_getElem? (i := 191) (by decide +kernel), List.mem_of_getElem? (i := 785) (by decide +kernel), List.mem_of_getElem? (i := 786) (by decide +kernel)⟩
theorem lw_p29 : lw_okq (⟨"MaskDesk$TapeWriter", "writeLine", "(II)V"⟩, 5) := ⟨⟨by decide +kernel, by decide +kernel⟩, List.mem_of_getElem? (i := 191) (by decide +kernel), List.mem_of_getElem? (i := 789) (by decide +kernel), List.mem_of_getElem? (i := 790) (by decide +kernel)⟩
theorem lw_p30 : lw_okq (⟨"MaskDesk$TapeReader", "accept", "(ILMaskDesk$Cells;)Z"⟩, 10) := ⟨⟨by decide +kernel, by decide +kernel⟩, List.mem_of_getElem? (i := 215) (by decide +kernel), List.mem_of_getElem? (i := 834) (by decide +kernel), List.mem_of_getElem? (i := 835) (by decide +kernel)⟩
theorem lw_p31 : lw_okq (⟨"MaskDesk$TapeReader", "acceptWidth", "(I)Z"⟩, 10) := ⟨⟨by decide +kernel, by decide +kernel⟩, List.mem_of_getElem? (i := 215) (by decide +kernel), List.mem_of_getElem? (i := 838) (by decide +kernel), List.mem_of_getElem? (i := 839) (by decide +kernel)⟩
def lw_privs_2 : List (MethodName × Nat) := [(⟨"MaskDesk$Chords", "findPartner", "(III)Z"⟩, 10), (⟨"MaskDesk$Cutter", "cutChord", "(LMaskDesk$Chords;I)V"⟩, 5), (⟨"MaskDesk$Cutter", "cutLevel", "(III)V"⟩, 5), (⟨"MaskDesk$Cutter", "cutUpright", "(III)V"⟩, 5), (⟨"MaskDesk$Cutter", "cutFrom", "(III)V"⟩, 5), (⟨"MaskDesk$Cutter", "widthFrom", "(II)I"⟩, 5), (⟨"MaskDesk$Cutter", "heightFrom", "(II)I"⟩, 5), (⟨"MaskDesk$TapeWriter", "writeGroup", "(LMaskDesk$Items;I)V"⟩, 5), (⟨"MaskDesk$TapeWriter", "gather", "(LMaskDesk$Items;I)V"⟩, 5), (⟨"MaskDesk$TapeWriter", "emit", "(I)V"⟩, 5), (⟨"MaskDesk$TapeWriter", "countLines", "()I"⟩, 5), (⟨"MaskDesk$TapeWriter", "lineEndFrom", "(I)I"⟩, 5), (⟨"MaskDesk$TapeWriter", "isSameStep", "(II)Z"⟩, 5), (⟨"MaskDesk$TapeWriter", "writeLine", "(II)V"⟩, 5), (⟨"MaskDesk$TapeReader", "accept", "(ILMaskDesk$Cells;)Z"⟩, 10), (⟨"MaskDesk$TapeReader", "acceptWidth", "(I)Z"⟩, 10)]
theorem lw_r2 : ∀ q ∈ lw_privs_2, lw_okq q := List.forall_mem_cons.mpr ⟨lw_p16, List.forall_mem_cons.mpr ⟨lw_p17, List.forall_mem_cons.mpr ⟨lw_p18, List.forall_mem_cons.mpr ⟨lw_p19, List.forall_mem_cons.mpr ⟨lw_p20, List.forall_mem_cons.mpr ⟨lw_p21, List.forall_mem_cons.mpr ⟨lw_p22, List.forall_mem_cons.mpr ⟨lw_p23, List.forall_mem_cons.mpr ⟨lw_p24, List.forall_mem_cons.mpr ⟨lw_p25, List.forall_mem_cons.mpr ⟨lw_p26, List.forall_mem_cons.mpr ⟨lw_p27, List.forall_mem_cons.mpr ⟨lw_p28, List.forall_mem_cons.mpr ⟨lw_p29, List.forall_mem_cons.mpr ⟨lw_p30, List.forall_mem_cons.mpr ⟨lw_p31, fun _ h => absurd h List.not_mem_nil⟩⟩⟩⟩⟩⟩⟩⟩⟩⟩⟩⟩⟩⟩⟩⟩
theorem lw_p32 : lw_okq (⟨"MaskDesk$TapeReader", "acceptCount", "(ILMaskDesk$Cells;)Z"⟩, 10) := ⟨⟨by decide +kernel, by decide +kernel⟩, List.mem_of_getElem? (i := 215) (by decide +kernel), List.mem_of_getElem? (i := 842) (by decide +kernel), List.mem_of_getElem? (i := 843) (by decide +kernel)⟩
theorem lw_p33 : lw_okq (⟨"MaskDesk$TapeReader", "finishLine", "(LMaskDesk$Cells;)Z"⟩, 10) := ⟨⟨by decide +kernel, by decide +kernel⟩, List.mem_of_getElem? (i := 215) (by decide +kernel), List.mem_of_getElem? (i := 846) (by decide +kernel), List.mem_of_getElem? (i := 847) (by decide +kernel)⟩
theorem lw_p34 : lw_okq (⟨"MaskDesk$TapeReader", "endsOnPlate", "(III)Z"⟩, 10) := ⟨⟨by decide +kernel, by decide +kernel⟩, List.mem_of_getElem? (i := 215) (by decide +kernel), List.mem_of_getElem? (i := 854) (by decide +kernel), List.mem_of_getElem? (i := 855) (by decide +kernel)⟩
theorem lw_p35 : lw_okq (⟨"MaskDeskModel", "fill", "(IIIII)V"⟩, 51) := ⟨⟨by decide +kernel, by decide +kernel⟩, List.mem_of_getElem? (i := 859) (by decide +kernel), List.mem_of_getElem? (i := 1033) (by decide +kernel), List.mem_of_getElem? (i := 1034) (by decide +kernel)⟩
theorem lw_p36 : lw_okq (⟨"MaskDeskModel", "isRing", "()Z"⟩, 51) := ⟨⟨by decide +kernel, by decide +kernel⟩, List.mem_of_getElem? (i := 859) (by decide +kernel), List.mem_of_getElem? (i := 1045) (by decide +kernel), List.mem_of_getElem? (i := 1046) (by decide +kernel)⟩
theorem lw_p37 : lw_okq (⟨"MaskDeskModel", "isInside", "(II)Z"⟩, 51) := ⟨⟨by decide +kernel, by decide +kernel⟩, List.mem_of_getElem? (i := 859) (by decide +kernel), List.mem_of_getElem? (i := 1049) (by decide +kernel), List.mem_of_getElem? (i := 1050) (by decide +kernel)⟩
theorem lw_p38 : lw_okq (⟨"MaskDeskModel", "has", "(III)Z"⟩, 51) := ⟨⟨by decide +kernel, by decide +kernel⟩, List.mem_of_getElem? (i := 859) (by decide +kernel), List.mem_of_getElem? (i := 1061) (by decide +kernel), List.mem_of_getElem? (i := 1062) (by decide +kernel)⟩
theorem lw_p39 : lw_okq (⟨"MaskDeskModel", "count", "()V"⟩, 51) := ⟨⟨by decide +kernel, by decide +kernel⟩, List.mem_of_getElem? (i := 859) (by decide +kernel), List.mem_of_getElem? (i := 1092) (by decide +kernel), List.mem_of_getElem? (i := 1093) (by decide +kernel)⟩
theorem lw_p40 : lw_okq (⟨"MaskDeskModel", "layOut", "(III)V"⟩, 51) := ⟨⟨by decide +kernel, by decide +kernel⟩, List.mem_of_getElem? (i := 859) (by decide +kernel), List.mem_of_getElem? (i := 1096) (by decide +kernel), List.mem_of_getElem? (i := 1097) (by decide +kernel)⟩
theorem lw_p41 : lw_okq (⟨"MaskDeskModel", "put", "(IIIIIIII)I"⟩, 51) := ⟨⟨by decide +kernel, by decide +kernel⟩, List.mem_of_getElem? (i := 859) (by decide +kernel), List.mem_of_getElem? (i := 1100) (by decide +kernel), List.mem_of_getElem? (i := 1101) (by decide +kernel)⟩
theorem lw_p42 : lw_okq (⟨"MaskDeskModel", "islands", "(IZ)I"⟩, 51) := ⟨⟨by decide +kernel, by decide +kernel⟩, List.mem_of_getElem? (i := 859) (by decide +kernel), List.mem_of_getElem? (i := 1115) (by decide +kernel), List.mem_of_getElem? (i := 1116) (by decide +kernel)⟩
theorem lw_p43 : lw_okq (⟨"MaskDeskModel", "spread", "(IIZ)Z"⟩, 51) := ⟨⟨by decide +kernel, by decide +kernel⟩, List.mem_of_getElem? (i := 859) (by decide +kernel), List.mem_of_getElem? (i := 1119) (by decide +kernel), List.mem_of_getElem? (i := 1120) (by decide +kernel)⟩
theorem lw_p44 : lw_okq (⟨"MaskDeskModel", "look", "(I)V"⟩, 51) := ⟨⟨by decide +kernel, by decide +kernel⟩, List.mem_of_getElem? (i := 859) (by decide +kernel), List.mem_of_getElem? (i := 1123) (by decide +kernel), List.mem_of_getElem? (i := 1124) (by decide +kernel)⟩
theorem lw_p45 : lw_okq (⟨"MaskDeskModel", "isCorner", "(III)Z"⟩, 51) := ⟨⟨by decide +kernel, by decide +kernel⟩, List.mem_of_getElem? (i := 859) (by decide +kernel), List.mem_of_getElem? (i := 1127) (by decide +kernel), List.mem_of_getElem? (i := 1128) (by decide +kernel)⟩
theorem lw_p46 : lw_okq (⟨"MaskDeskModel", "chord", "(IIIZ)V"⟩, 51) := ⟨⟨by decide +kernel, by decide +kernel⟩, List.mem_of_getElem? (i := 859) (by decide +kernel), List.mem_of_getElem? (i := 1131) (by decide +kernel), List.mem_of_getElem? (i := 1132) (by decide +kernel)⟩
theorem lw_p47 : lw_okq (⟨"MaskDeskModel", "isWithin", "(IIIZ)Z"⟩, 51) := ⟨⟨by decide +kernel, by decide +kernel⟩, List.mem_of_getElem? (i := 859) (by decide +kernel), List.mem_of_getElem? (i := 1135) (by decide +kernel), List.mem_of_getElem? (i := 1136) (by decide +kernel)⟩
def lw_privs_3 : List (MethodName × Nat) := [(⟨"MaskDesk$TapeReader", "acceptCount", "(ILMaskDesk$Cells;)Z"⟩, 10), (⟨"MaskDesk$TapeReader", "finishLine", "(LMaskDesk$Cells;)Z"⟩, 10), (⟨"MaskDesk$TapeReader", "endsOnPlate", "(III)Z"⟩, 10), (⟨"MaskDeskModel", "fill", "(IIIII)V"⟩, 51), (⟨"MaskDeskModel", "isRing", "()Z"⟩, 51), (⟨"MaskDeskModel", "isInside", "(II)Z"⟩, 51), (⟨"MaskDeskModel", "has", "(III)Z"⟩, 51), (⟨"MaskDeskModel", "count", "()V"⟩, 51), (⟨"MaskDeskModel", "layOut", "(III)V"⟩, 51), (⟨"MaskDeskModel", "put", "(IIIIIIII)I"⟩, 51), (⟨"MaskDeskModel", "islands", "(IZ)I"⟩, 51), (⟨"MaskDeskModel", "spread", "(IIZ)Z"⟩, 51), (⟨"MaskDeskModel", "look", "(I)V"⟩, 51), (⟨"MaskDeskModel", "isCorner", "(III)Z"⟩, 51), (⟨"MaskDeskModel", "chord", "(IIIZ)V"⟩, 51), (⟨"MaskDeskModel", "isWithin", "(IIIZ)Z"⟩, 51)]
theorem lw_r3 : ∀ q ∈ lw_privs_3, lw_okq q := List.forall_mem_cons.mpr ⟨lw_p32, List.forall_mem_cons.mpr ⟨lw_p33, List.forall_mem_cons.mpr ⟨lw_p34, List.forall_mem_cons.mpr ⟨lw_p35, List.forall_mem_cons.mpr ⟨lw_p36, List.forall_mem_cons.mpr ⟨lw_p37, List.forall_mem_cons.mpr ⟨lw_p38, List.forall_mem_cons.mpr ⟨lw_p39, List.forall_mem_cons.mpr ⟨lw_p40, List.forall_mem_cons.mpr ⟨lw_p41, List.forall_mem_cons.mpr ⟨lw_p42, List.forall_mem_cons.mpr ⟨lw_p43, List.forall_mem_cons.mpr ⟨lw_p44, List.forall_mem_cons.mpr ⟨lw_p45, List.forall_mem_cons.mpr ⟨lw_p46, List.forall_mem_cons.mpr ⟨lw_p47, fun _ h => absurd h List.not_mem_nil⟩⟩⟩⟩⟩⟩⟩⟩⟩⟩⟩⟩⟩⟩⟩⟩
theorem lw_p48 : lw_okq (⟨"MaskDeskModel", "fault", "(IIII)V"⟩, 51) := ⟨⟨by decide +kernel, by decide +kernel⟩, List.mem_of_getElem? (i := 859) (by decide +kernel), List.mem_of_getElem? (i := 1143) (by decide +kernel), List.mem_of_getElem? (i := 1144) (by decide +kernel)⟩
theorem lw_p49 : lw_okq (⟨"MaskDeskModel", "choose", "()I"⟩, 51) := ⟨⟨by decide +kernel, by decide +kernel⟩, List.mem_of_getElem? (i := 859) (by decide +kernel), List.mem_of_getElem? (i := 1151) (by decide +kernel), List.mem_of_getElem? (i := 1152) (by decide +kernel)⟩
theorem lw_p50 : lw_okq (⟨"MaskDeskModel", "isApart", "(I)Z"⟩, 51) := ⟨⟨by decide +kernel, by decide +kernel⟩, List.mem_of_getElem? (i := 859) (by decide +kernel), List.mem_of_getElem? (i := 1155) (by decide +kernel), List.mem_of_getElem? (i := 1156) (by decide +kernel)⟩
theorem lw_p51 : lw_okq (⟨"MaskDeskModel", "takes", "(II)Z"⟩, 51) := ⟨⟨by decide +kernel, by decide +kernel⟩, List.mem_of_getElem? (i := 859) (by decide +kernel), List.mem_of_getElem? (i := 1159) (by decide +kernel), List.mem_of_getElem? (i := 1160) (by decide +kernel)⟩
theorem lw_p52 : lw_okq (⟨"MaskDeskModel", "touch", "(II)Z"⟩, 51) := ⟨⟨by decide +kernel, by decide +kernel⟩, List.mem_of_getElem? (i := 859) (by decide +kernel), List.mem_of_getElem? (i := 1163) (by decide +kernel), List.mem_of_getElem? (i := 1164) (by decide +kernel)⟩
theorem lw_p53 : lw_okq (⟨"MaskDeskModel", "cutChords", "(I)V"⟩, 51) := ⟨⟨by decide +kernel, by decide +kernel⟩, List.mem_of_getElem? (i := 859) (by decide +kernel), List.mem_of_getElem? (i := 1167) (by decide +kernel), List.mem_of_getElem? (i := 1168) (by decide +kernel)⟩
theorem lw_p54 : lw_okq (⟨"MaskDeskModel", "cut", "(IIZ)V"⟩, 51) := ⟨⟨by decide +kernel, by decide +kernel⟩, List.mem_of_getElem? (i := 859) (by decide +kernel), List.mem_of_getElem? (i := 1171) (by decide +kernel), List.mem_of_getElem? (i := 1172) (by decide +kernel)⟩
theorem lw_p55 : lw_okq (⟨"MaskDeskModel", "cutOn", "(III)V"⟩, 51) := ⟨⟨by decide +kernel, by decide +kernel⟩, List.mem_of_getElem? (i := 859) (by decide +kernel), List.mem_of_getElem? (i := 1175) (by decide +kernel), List.mem_of_getElem? (i := 1176) (by decide +kernel)⟩
theorem lw_p56 : lw_okq (⟨"MaskDeskModel", "piece", "(III)V"⟩, 51) := ⟨⟨by decide +kernel, by decide +kernel⟩, List.mem_of_getElem? (i := 859) (by decide +kernel), List.mem_of_getElem? (i := 1179) (by decide +kernel), List.mem_of_getElem? (i := 1180) (by decide +kernel)⟩
theorem lw_p57 : lw_okq (⟨"MaskDeskModel", "next", "(III)I"⟩, 51) := ⟨⟨by decide +kernel, by decide +kernel⟩, List.mem_of_getElem? (i := 859) (by decide +kernel), List.mem_of_getElem? (i := 1191) (by decide +kernel), List.mem_of_getElem? (i := 1192) (by decide +kernel)⟩
theorem lw_p58 : lw_okq (⟨"MaskDeskModel", "tell", "(I)V"⟩, 51) := ⟨⟨by decide +kernel, by decide +kernel⟩, List.mem_of_getElem? (i := 859) (by decide +kernel), List.mem_of_getElem? (i := 1195) (by decide +kernel), List.mem_of_getElem? (i := 1196) (by decide +kernel)⟩
theorem lw_p59 : lw_okq (⟨"MaskDeskModel", "line", "(III)I"⟩, 51) := ⟨⟨by decide +kernel, by decide +kernel⟩, List.mem_of_getElem? (i := 859) (by decide +kernel), List.mem_of_getElem? (i := 1199) (by decide +kernel), List.mem_of_getElem? (i := 1200) (by decide +kernel)⟩
theorem lw_p60 : lw_okq (⟨"MaskDeskModel", "scan", "(I)I"⟩, 51) := ⟨⟨by decide +kernel, by decide +kernel⟩, List.mem_of_getElem? (i := 859) (by decide +kernel), List.mem_of_getElem? (i := 1215) (by decide +kernel), List.mem_of_getElem? (i := 1216) (by decide +kernel)⟩
theorem lw_p61 : lw_okq (⟨"MaskDeskModel", "byteOf", "(I)I"⟩, 51) := ⟨⟨by decide +kernel, by decide +kernel⟩, List.mem_of_getElem? (i := 859) (by decide +kernel), List.mem_of_getElem? (i := 1219) (by decide +kernel), List.mem_of_getElem? (i := 1220) (by decide +kernel)⟩
theorem lw_p62 : lw_okq (⟨"MaskDeskModel", "lineAt", "(III)I"⟩, 51) := ⟨⟨by decide +kernel, by decide +kernel⟩, List.mem_of_getElem? (i := 859) (by decide +kernel), List.mem_of_getElem? (i := 1223) (by decide +kernel), List.mem_of_getElem? (i := 1224) (by decide +kernel)⟩
def lw_privs_4 : List (MethodName × Nat) := [(⟨"MaskDeskModel", "fault", "(IIII)V"⟩, 51), (⟨"MaskDeskModel", "choose", "()I"⟩, 51), (⟨"MaskDeskModel", "isApart", "(I)Z"⟩, 51), (⟨"MaskDeskModel", "takes", "(II)Z"⟩, 51), (⟨"MaskDeskModel", "touch", "(II)Z"⟩, 51), (⟨"MaskDeskModel", "cutChords", "(I)V"⟩, 51), (⟨"MaskDeskModel", "cut", "(IIZ)V"⟩, 51), (⟨"MaskDeskModel", "cutOn", "(III)V"⟩, 51), (⟨"MaskDeskModel", "piece", "(III)V"⟩, 51), (⟨"MaskDeskModel", "next", "(III)I"⟩, 51), (⟨"MaskDeskModel", "tell", "(I)V"⟩, 51), (⟨"MaskDeskModel", "line", "(III)I"⟩, 51), (⟨"MaskDeskModel", "scan", "(I)I"⟩, 51), (⟨"MaskDeskModel", "byteOf", "(I)I"⟩, 51), (⟨"MaskDeskModel", "lineAt", "(III)I"⟩, 51)]
theorem lw_r4 : ∀ q ∈ lw_privs_4, lw_okq q := List.forall_mem_cons.mpr ⟨lw_p48, List.forall_mem_cons.mpr ⟨lw_p49, List.forall_mem_cons.mpr ⟨lw_p50, List.forall_mem_cons.mpr ⟨lw_p51, List.forall_mem_cons.mpr ⟨lw_p52, List.forall_mem_cons.mpr ⟨lw_p53, List.forall_mem_cons.mpr ⟨lw_p54, List.forall_mem_cons.mpr ⟨lw_p55, List.forall_mem_cons.mpr ⟨lw_p56, List.forall_mem_cons.mpr ⟨lw_p57, List.forall_mem_cons.mpr ⟨lw_p58, List.forall_mem_cons.mpr ⟨lw_p59, List.forall_mem_cons.mpr ⟨lw_p60, List.forall_mem_cons.mpr ⟨lw_p61, List.forall_mem_cons.mpr ⟨lw_p62, fun _ h => absurd h List.not_mem_nil⟩⟩⟩⟩⟩⟩⟩⟩⟩⟩⟩⟩⟩⟩⟩
def lw_privs : List (MethodName × Nat) := lw_privs_1 ++ (lw_privs_2 ++ (lw_privs_3 ++ (lw_privs_4)))
def lw_tbl : List Cond := k2_sels lw_privs ++ tables_1
theorem lw_privs_ok : ∀ q ∈ lw_privs, lw_okq q := by
  show ∀ q ∈ lw_privs_1 ++ (lw_privs_2 ++ (lw_privs_3 ++ (lw_privs_4))), lw_okq q
  exact List.forall_mem_append.mpr ⟨lw_r1, List.forall_mem_append.mpr ⟨lw_r2, List.forall_mem_append.mpr ⟨lw_r3, lw_r4⟩⟩⟩
-- ===== end of PART A; names =====
def RX0 : String := "MaskDesk$Cells"
def TX0 : u_T := fun k => match k with
  | _ => ("MaskDesk$Cells", "rows", "[I", true)
def tyX0 : Nat → FieldType := fun k => match k with
  | _ => .array .int
abbrev wsX00 : List Cond := u_ws RX0 TX0 1
theorem nmX0 : ∀ a, a < 1 → ∀ b, b < 1 → a ≠ b → (TX0 a).2.1 ≠ (TX0 b).2.1 := by decide +kernel
theorem tyX0_ok : ∀ k, k < 1 → parseFieldDescriptor (TX0 k).2.2.1 = some (tyX0 k) := by decide +kernel
abbrev cX0_init : ByteArray := prog_2_method_1_code
def yX0_init : MethodName := ⟨RX0, "<init>", "()V"⟩
abbrev cX0_row : ByteArray := prog_2_method_2_code
def yX0_row : MethodName := ⟨RX0, "row", "(I)I"⟩
abbrev cX0_column : ByteArray := prog_2_method_3_code
def yX0_column : MethodName := ⟨RX0, "column", "(I)I"⟩
abbrev cX0_holds : ByteArray := prog_2_method_4_code
def yX0_holds : MethodName := ⟨RX0, "holds", "(II)Z"⟩
abbrev cX0_count : ByteArray := prog_2_method_5_code
def yX0_count : MethodName := ⟨RX0, "count", "()I"⟩
abbrev cX0_setRow : ByteArray := prog_2_method_6_code
def yX0_setRow : MethodName := ⟨RX0, "setRow", "(II)V"⟩
abbrev cX0_wipe : ByteArray := prog_2_method_7_code
def yX0_wipe : MethodName := ⟨RX0, "wipe", "()V"⟩
abbrev cX0_become : ByteArray := prog_2_method_8_code
def yX0_become : MethodName := ⟨RX0, "become", "(LMaskDesk$Cells;)V"⟩
abbrev cX0_becomeAllBut : ByteArray := prog_2_method_9_code
def yX0_becomeAllBut : MethodName := ⟨RX0, "becomeAllBut", "(LMaskDesk$Cells;)V"⟩
abbrev cX0_addAll : ByteArray := prog_2_method_10_code
def yX0_addAll : MethodName := ⟨RX0, "addAll", "(LMaskDesk$Cells;)V"⟩
abbrev cX0_removeAll : ByteArray := prog_2_method_11_code
def yX0_removeAll : MethodName := ⟨RX0, "removeAll", "(LMaskDesk$Cells;)V"⟩
abbrev cX0_addRectangle : ByteArray := prog_2_method_12_code
def yX0_addRectangle : MethodName := ⟨RX0, "addRectangle", "(IIII)V"⟩
abbrev cX0_removeRectangle : ByteArray := prog_2_method_13_code
def yX0_removeRectangle : MethodName := ⟨RX0, "removeRectangle", "(IIII)V"⟩
abbrev cX0_combine : ByteArray := prog_2_method_14_code
def yX0_combine : MethodName := ⟨RX0, "combine", "(LMaskDesk$Cells;LMaskDesk$Cells;I)V"⟩
abbrev cX0_combineRows : ByteArray := prog_2_method_15_code
def yX0_combineRows : MethodName := ⟨RX0, "combineRows", "(III)I"⟩
abbrev cX0_growByOne : ByteArray := prog_2_method_16_code
def yX0_growByOne : MethodName := ⟨RX0, "growByOne", "()V"⟩
abbrev cX0_shrinkByOne : ByteArray := prog_2_method_17_code
def yX0_shrinkByOne : MethodName := ⟨RX0, "shrinkByOne", "()V"⟩
def RX1 : String := "MaskDesk$Chords"
def TX1 : u_T := fun k => match k with
  | 0 => ("MaskDesk$Chords", "corners", "[I", true)
  | 1 => ("MaskDesk$Chords", "lines", "[I", true)
  | 2 => ("MaskDesk$Chords", "starts", "[I", true)
  | 3 => ("MaskDesk$Chords", "ends", "[I", true)
  | 4 => ("MaskDesk$Chords", "touching", "[I", true)
  | 5 => ("MaskDesk$Chords", "partners", "[I", true)
  | 6 => ("MaskDesk$Chords", "count", "I", false)
  | 7 => ("MaskDesk$Chords", "levels", "I", false)
  | 8 => ("MaskDesk$Chords", "chosen", "I", false)
  | _ => ("MaskDesk$Chords", "tried", "I", false)
def tyX1 : Nat → FieldType := fun k => match k with
  | 0 => .array .int
  | 1 => .array .int
  | 2 => .array .int
  | 3 => .array .int
  | 4 => .array .int
  | 5 => .array .int
  | 6 => .int
  | 7 => .int
  | 8 => .int
  | _ => .int
abbrev wsX10 : List Cond := u_ws RX1 TX1 10
theorem nmX1 : ∀ a, a < 10 → ∀ b, b < 10 → a ≠ b → (TX1 a).2.1 ≠ (TX1 b).2.1 := by decide +kernel
theorem tyX1_ok : ∀ k, k < 10 → parseFieldDescriptor (TX1 k).2.2.1 = some (tyX1 k) := by decide +kernel
abbrev cX1_init : ByteArray := prog_3_method_1_code
def yX1_init : MethodName := ⟨RX1, "<init>", "()V"⟩
abbrev cX1_find : ByteArray := prog_3_method_2_code
def yX1_find : MethodName := ⟨RX1, "find", "(LMaskDesk$Cells;)V"⟩
abbrev cX1_count : ByteArray := prog_3_method_3_code
def yX1_count : MethodName := ⟨RX1, "count", "()I"⟩
abbrev cX1_areAllKept : ByteArray := prog_3_method_4_code
def yX1_areAllKept : MethodName := ⟨RX1, "areAllKept", "()Z"⟩
abbrev cX1_countCorners : ByteArray := prog_3_method_5_code
def yX1_countCorners : MethodName := ⟨RX1, "countCorners", "()I"⟩
abbrev cX1_cornerRow : ByteArray := prog_3_method_6_code
def yX1_cornerRow : MethodName := ⟨RX1, "cornerRow", "(I)I"⟩
abbrev cX1_isChosen : ByteArray := prog_3_method_7_code
def yX1_isChosen : MethodName := ⟨RX1, "isChosen", "(I)Z"⟩
abbrev cX1_isLevel : ByteArray := prog_3_method_8_code
def yX1_isLevel : MethodName := ⟨RX1, "isLevel", "(I)Z"⟩
abbrev cX1_line : ByteArray := prog_3_method_9_code
def yX1_line : MethodName := ⟨RX1, "line", "(I)I"⟩
abbrev cX1_start : ByteArray := prog_3_method_10_code
def yX1_start : MethodName := ⟨RX1, "start", "(I)I"⟩
abbrev cX1_end : ByteArray := prog_3_method_11_code
def yX1_end : MethodName := ⟨RX1, "end", "(I)I"⟩
abbrev cX1_findCorners : ByteArray := prog_3_method_12_code
def yX1_findCorners : MethodName := ⟨RX1, "findCorners", "(LMaskDesk$Cells;)V"⟩
abbrev cX1_findLevel : ByteArray := prog_3_method_13_code
def yX1_findLevel : MethodName := ⟨RX1, "findLevel", "(LMaskDesk$Cells;)V"⟩
abbrev cX1_findUpright : ByteArray := prog_3_method_14_code
def yX1_findUpright : MethodName := ⟨RX1, "findUpright", "(LMaskDesk$Cells;)V"⟩
abbrev cX1_isCorner : ByteArray := prog_3_method_15_code
def yX1_isCorner : MethodName := ⟨RX1, "isCorner", "(II)Z"⟩
abbrev cX1_keep : ByteArray := prog_3_method_16_code
def yX1_keep : MethodName := ⟨RX1, "keep", "(III)V"⟩
abbrev cX1_choose : ByteArray := prog_3_method_17_code
def yX1_choose : MethodName := ⟨RX1, "choose", "()V"⟩
abbrev cX1_findTouching : ByteArray := prog_3_method_18_code
def yX1_findTouching : MethodName := ⟨RX1, "findTouching", "()V"⟩
abbrev cX1_touch : ByteArray := prog_3_method_19_code
def yX1_touch : MethodName := ⟨RX1, "touch", "(II)Z"⟩
abbrev cX1_greatestAmong : ByteArray := prog_3_method_20_code
def yX1_greatestAmong : MethodName := ⟨RX1, "greatestAmong", "(I)I"⟩
abbrev cX1_findPartner : ByteArray := prog_3_method_21_code
def yX1_findPartner : MethodName := ⟨RX1, "findPartner", "(III)Z"⟩
def RX2 : String := "MaskDesk$Cutter"
def TX2 : u_T := fun k => match k with
  | 0 => ("MaskDesk$Cutter", "levelCuts", "[I", true)
  | 1 => ("MaskDesk$Cutter", "uprightCuts", "[I", true)
  | 2 => ("MaskDesk$Cutter", "cutPoints", "[I", true)
  | 3 => ("MaskDesk$Cutter", "openCorners", "[I", true)
  | _ => ("MaskDesk$Cutter", "left", "LMaskDesk$Cells;", true)
def tyX2 : Nat → FieldType := fun k => match k with
  | 0 => .array .int
  | 1 => .array .int
  | 2 => .array .int
  | 3 => .array .int
  | _ => .object "MaskDesk$Cells"
abbrev wsX20 : List Cond := u_ws RX2 TX2 5
theorem nmX2 : ∀ a, a < 5 → ∀ b, b < 5 → a ≠ b → (TX2 a).2.1 ≠ (TX2 b).2.1 := by decide +kernel
theorem tyX2_ok : ∀ k, k < 5 → parseFieldDescriptor (TX2 k).2.2.1 = some (tyX2 k) := by decide +kernel
abbrev cX2_init : ByteArray := prog_4_method_1_code
def yX2_init : MethodName := ⟨RX2, "<init>", "()V"⟩
abbrev cX2_cut : ByteArray := prog_4_method_2_code
def yX2_cut : MethodName := ⟨RX2, "cut", "(LMaskDesk$Cells;LMaskDesk$Chords;)V"⟩
abbrev cX2_cutChord : ByteArray := prog_4_method_3_code
def yX2_cutChord : MethodName := ⟨RX2, "cutChord", "(LMaskDesk$Chords;I)V"⟩
abbrev cX2_cutLevel : ByteArray := prog_4_method_4_code
def yX2_cutLevel : MethodName := ⟨RX2, "cutLevel", "(III)V"⟩
abbrev cX2_cutUpright : ByteArray := prog_4_method_5_code
def yX2_cutUpright : MethodName := ⟨RX2, "cutUpright", "(III)V"⟩
abbrev cX2_cutFrom : ByteArray := prog_4_method_6_code
def yX2_cutFrom : MethodName := ⟨RX2, "cutFrom", "(III)V"⟩
abbrev cX2_collect : ByteArray := prog_4_method_7_code
def yX2_collect : MethodName := ⟨RX2, "collect", "(LMaskDesk$Cells;LMaskDesk$Items;)V"⟩
abbrev cX2_widthFrom : ByteArray := prog_4_method_8_code
def yX2_widthFrom : MethodName := ⟨RX2, "widthFrom", "(II)I"⟩
abbrev cX2_heightFrom : ByteArray := prog_4_method_9_code
def yX2_heightFrom : MethodName := ⟨RX2, "heightFrom", "(II)I"⟩
def RX3 : String := "MaskDesk$Items"
def TX3 : u_T := fun k => match k with
  | 0 => ("MaskDesk$Items", "packed", "[I", true)
  | _ => ("MaskDesk$Items", "count", "I", false)
def tyX3 : Nat → FieldType := fun k => match k with
  | 0 => .array .int
  | _ => .int
abbrev wsX30 : List Cond := u_ws RX3 TX3 2
theorem nmX3 : ∀ a, a < 2 → ∀ b, b < 2 → a ≠ b → (TX3 a).2.1 ≠ (TX3 b).2.1 := by decide +kernel
theorem tyX3_ok : ∀ k, k < 2 → parseFieldDescriptor (TX3 k).2.2.1 = some (tyX3 k) := by decide +kernel
abbrev cX3_init : ByteArray := prog_5_method_1_code
def yX3_init : MethodName := ⟨RX3, "<init>", "()V"⟩
abbrev cX3_wipe : ByteArray := prog_5_method_2_code
def yX3_wipe : MethodName := ⟨RX3, "wipe", "()V"⟩
abbrev cX3_count : ByteArray := prog_5_method_3_code
def yX3_count : MethodName := ⟨RX3, "count", "()I"⟩
abbrev cX3_append : ByteArray := prog_5_method_4_code
def yX3_append : MethodName := ⟨RX3, "append", "(IIII)V"⟩
abbrev cX3_value : ByteArray := prog_5_method_5_code
def yX3_value : MethodName := ⟨RX3, "value", "(II)I"⟩
def RX4 : String := "MaskDesk$Layout"
def TX4 : u_T := fun k => match k with
  | 0 => ("MaskDesk$Layout", "parts", "[LMaskDesk$Part;", true)
  | 1 => ("MaskDesk$Layout", "totals", "[I", true)
  | _ => ("MaskDesk$Layout", "coming", "[I", true)
def tyX4 : Nat → FieldType := fun k => match k with
  | 0 => .array (.object "MaskDesk$Part")
  | 1 => .array .int
  | _ => .array .int
abbrev wsX40 : List Cond := u_ws RX4 TX4 3
theorem nmX4 : ∀ a, a < 3 → ∀ b, b < 3 → a ≠ b → (TX4 a).2.1 ≠ (TX4 b).2.1 := by decide +kernel
theorem tyX4_ok : ∀ k, k < 3 → parseFieldDescriptor (TX4 k).2.2.1 = some (tyX4 k) := by decide +kernel
abbrev cX4_init : ByteArray := prog_6_method_1_code
def yX4_init : MethodName := ⟨RX4, "<init>", "()V"⟩
abbrev cX4_addBox : ByteArray := prog_6_method_2_code
def yX4_addBox : MethodName := ⟨RX4, "addBox", "(IIIII)Z"⟩
abbrev cX4_setPlace : ByteArray := prog_6_method_3_code
def yX4_setPlace : MethodName := ⟨RX4, "setPlace", "(III)V"⟩
abbrev cX4_setSteps : ByteArray := prog_6_method_4_code
def yX4_setSteps : MethodName := ⟨RX4, "setSteps", "(II)V"⟩
abbrev cX4_addPlacement : ByteArray := prog_6_method_5_code
def yX4_addPlacement : MethodName := ⟨RX4, "addPlacement", "(IIII)Z"⟩
abbrev cX4_wipePart : ByteArray := prog_6_method_6_code
def yX4_wipePart : MethodName := ⟨RX4, "wipePart", "(I)V"⟩
abbrev cX4_countAll : ByteArray := prog_6_method_7_code
def yX4_countAll : MethodName := ⟨RX4, "countAll", "(I)I"⟩
abbrev cX4_layAll : ByteArray := prog_6_method_8_code
def yX4_layAll : MethodName := ⟨RX4, "layAll", "(IIILMaskDesk$Cells;)Z"⟩
abbrev cX4_layPart : ByteArray := prog_6_method_9_code
def yX4_layPart : MethodName := ⟨RX4, "layPart", "(IIIILMaskDesk$Cells;)Z"⟩
abbrev cX4_layCopies : ByteArray := prog_6_method_10_code
def yX4_layCopies : MethodName := ⟨RX4, "layCopies", "(IIIIILMaskDesk$Cells;)Z"⟩
abbrev cX4_layBox : ByteArray := prog_6_method_11_code
def yX4_layBox : MethodName := ⟨RX4, "layBox", "(LMaskDesk$Part;IIIILMaskDesk$Cells;)Z"⟩
abbrev cX4_turnedX : ByteArray := prog_6_method_12_code
def yX4_turnedX : MethodName := ⟨RX4, "turnedX", "(III)I"⟩
abbrev cX4_turnedY : ByteArray := prog_6_method_13_code
def yX4_turnedY : MethodName := ⟨RX4, "turnedY", "(III)I"⟩
abbrev cX4_turnAfter : ByteArray := prog_6_method_14_code
def yX4_turnAfter : MethodName := ⟨RX4, "turnAfter", "(II)I"⟩
def RX5 : String := "MaskDesk$Outline"
def TX5 : u_T := fun k => match k with
  | 0 => ("MaskDesk$Outline", "xs", "[I", true)
  | 1 => ("MaskDesk$Outline", "ys", "[I", true)
  | _ => ("MaskDesk$Outline", "count", "I", false)
def tyX5 : Nat → FieldType := fun k => match k with
  | 0 => .array .int
  | 1 => .array .int
  | _ => .int
abbrev wsX50 : List Cond := u_ws RX5 TX5 3
theorem nmX5 : ∀ a, a < 3 → ∀ b, b < 3 → a ≠ b → (TX5 a).2.1 ≠ (TX5 b).2.1 := by decide +kernel
theorem tyX5_ok : ∀ k, k < 3 → parseFieldDescriptor (TX5 k).2.2.1 = some (tyX5 k) := by decide +kernel
abbrev cX5_init : ByteArray := prog_7_method_1_code
def yX5_init : MethodName := ⟨RX5, "<init>", "()V"⟩
abbrev cX5_addPoint : ByteArray := prog_7_method_2_code
def yX5_addPoint : MethodName := ⟨RX5, "addPoint", "(II)Z"⟩
abbrev cX5_wipe : ByteArray := prog_7_method_3_code
def yX5_wipe : MethodName := ⟨RX5, "wipe", "()V"⟩
abbrev cX5_isRing : ByteArray := prog_7_method_4_code
def yX5_isRing : MethodName := ⟨RX5, "isRing", "()Z"⟩
abbrev cX5_findInside : ByteArray := prog_7_method_5_code
def yX5_findInside : MethodName := ⟨RX5, "findInside", "(LMaskDesk$Cells;)V"⟩
abbrev cX5_after : ByteArray := prog_7_method_6_code
def yX5_after : MethodName := ⟨RX5, "after", "(I)I"⟩
abbrev cX5_isLevel : ByteArray := prog_7_method_7_code
def yX5_isLevel : MethodName := ⟨RX5, "isLevel", "(I)Z"⟩
abbrev cX5_isUpright : ByteArray := prog_7_method_8_code
def yX5_isUpright : MethodName := ⟨RX5, "isUpright", "(I)Z"⟩
def RX6 : String := "MaskDesk$Part"
def TX6 : u_T := fun k => match k with
  | 0 => ("MaskDesk$Part", "boxes", "[I", true)
  | 1 => ("MaskDesk$Part", "placements", "[I", true)
  | 2 => ("MaskDesk$Part", "boxCount", "I", false)
  | _ => ("MaskDesk$Part", "placementCount", "I", false)
def tyX6 : Nat → FieldType := fun k => match k with
  | 0 => .array .int
  | 1 => .array .int
  | 2 => .int
  | _ => .int
abbrev wsX60 : List Cond := u_ws RX6 TX6 4
theorem nmX6 : ∀ a, a < 4 → ∀ b, b < 4 → a ≠ b → (TX6 a).2.1 ≠ (TX6 b).2.1 := by decide +kernel
theorem tyX6_ok : ∀ k, k < 4 → parseFieldDescriptor (TX6 k).2.2.1 = some (tyX6 k) := by decide +kernel
abbrev cX6_init : ByteArray := prog_8_method_1_code
def yX6_init : MethodName := ⟨RX6, "<init>", "()V"⟩
abbrev cX6_wipe : ByteArray := prog_8_method_2_code
def yX6_wipe : MethodName := ⟨RX6, "wipe", "()V"⟩
abbrev cX6_countBoxes : ByteArray := prog_8_method_3_code
def yX6_countBoxes : MethodName := ⟨RX6, "countBoxes", "()I"⟩
abbrev cX6_countPlacements : ByteArray := prog_8_method_4_code
def yX6_countPlacements : MethodName := ⟨RX6, "countPlacements", "()I"⟩
abbrev cX6_addBox : ByteArray := prog_8_method_5_code
def yX6_addBox : MethodName := ⟨RX6, "addBox", "(IIII)Z"⟩
abbrev cX6_addPlacement : ByteArray := prog_8_method_6_code
def yX6_addPlacement : MethodName := ⟨RX6, "addPlacement", "([I)Z"⟩
abbrev cX6_boxField : ByteArray := prog_8_method_7_code
def yX6_boxField : MethodName := ⟨RX6, "boxField", "(II)I"⟩
abbrev cX6_placementField : ByteArray := prog_8_method_8_code
def yX6_placementField : MethodName := ⟨RX6, "placementField", "(II)I"⟩
def RX7 : String := "MaskDesk$Survey"
def TX7 : u_T := fun k => match k with
  | 0 => ("MaskDesk$Survey", "left", "LMaskDesk$Cells;", true)
  | _ => ("MaskDesk$Survey", "reached", "LMaskDesk$Cells;", true)
def tyX7 : Nat → FieldType := fun k => match k with
  | 0 => .object "MaskDesk$Cells"
  | _ => .object "MaskDesk$Cells"
abbrev wsX70 : List Cond := u_ws RX7 TX7 2
theorem nmX7 : ∀ a, a < 2 → ∀ b, b < 2 → a ≠ b → (TX7 a).2.1 ≠ (TX7 b).2.1 := by decide +kernel
theorem tyX7_ok : ∀ k, k < 2 → parseFieldDescriptor (TX7 k).2.2.1 = some (tyX7 k) := by decide +kernel
abbrev cX7_init : ByteArray := prog_9_method_1_code
def yX7_init : MethodName := ⟨RX7, "<init>", "()V"⟩
abbrev cX7_countIslands : ByteArray := prog_9_method_2_code
def yX7_countIslands : MethodName := ⟨RX7, "countIslands", "(LMaskDesk$Cells;)I"⟩
abbrev cX7_countHoles : ByteArray := prog_9_method_3_code
def yX7_countHoles : MethodName := ⟨RX7, "countHoles", "(LMaskDesk$Cells;)I"⟩
abbrev cX7_countGroups : ByteArray := prog_9_method_4_code
def yX7_countGroups : MethodName := ⟨RX7, "countGroups", "(Z)I"⟩
abbrev cX7_flood : ByteArray := prog_9_method_5_code
def yX7_flood : MethodName := ⟨RX7, "flood", "(Z)V"⟩
abbrev cX7_spreadInto : ByteArray := prog_9_method_6_code
def yX7_spreadInto : MethodName := ⟨RX7, "spreadInto", "(IZ)Z"⟩
abbrev cX7_findFaults : ByteArray := prog_9_method_7_code
def yX7_findFaults : MethodName := ⟨RX7, "findFaults", "(LMaskDesk$Cells;ZILMaskDesk$Items;)V"⟩
abbrev cX7_faultLength : ByteArray := prog_9_method_8_code
def yX7_faultLength : MethodName := ⟨RX7, "faultLength", "(IIZI)I"⟩
def RX8 : String := "MaskDesk$Tape"
def TX8 : u_T := fun k => match k with
  | 0 => ("MaskDesk$Tape", "bytes", "[I", true)
  | _ => ("MaskDesk$Tape", "count", "I", false)
def tyX8 : Nat → FieldType := fun k => match k with
  | 0 => .array .int
  | _ => .int
abbrev wsX80 : List Cond := u_ws RX8 TX8 2
theorem nmX8 : ∀ a, a < 2 → ∀ b, b < 2 → a ≠ b → (TX8 a).2.1 ≠ (TX8 b).2.1 := by decide +kernel
theorem tyX8_ok : ∀ k, k < 2 → parseFieldDescriptor (TX8 k).2.2.1 = some (tyX8 k) := by decide +kernel
abbrev cX8_init : ByteArray := prog_10_method_1_code
def yX8_init : MethodName := ⟨RX8, "<init>", "()V"⟩
abbrev cX8_wipe : ByteArray := prog_10_method_2_code
def yX8_wipe : MethodName := ⟨RX8, "wipe", "()V"⟩
abbrev cX8_count : ByteArray := prog_10_method_3_code
def yX8_count : MethodName := ⟨RX8, "count", "()I"⟩
abbrev cX8_holds : ByteArray := prog_10_method_4_code
def yX8_holds : MethodName := ⟨RX8, "holds", "(I)Z"⟩
abbrev cX8_value : ByteArray := prog_10_method_5_code
def yX8_value : MethodName := ⟨RX8, "value", "(I)I"⟩
abbrev cX8_append : ByteArray := prog_10_method_6_code
def yX8_append : MethodName := ⟨RX8, "append", "(I)Z"⟩
abbrev cX8_become : ByteArray := prog_10_method_7_code
def yX8_become : MethodName := ⟨RX8, "become", "(LMaskDesk$Tape;)V"⟩
def RX9 : String := "MaskDesk$TapeReader"
def TX9 : u_T := fun k => match k with
  | 0 => ("MaskDesk$TapeReader", "due", "I", false)
  | 1 => ("MaskDesk$TapeReader", "w", "I", false)
  | 2 => ("MaskDesk$TapeReader", "h", "I", false)
  | 3 => ("MaskDesk$TapeReader", "lines", "I", false)
  | 4 => ("MaskDesk$TapeReader", "x", "I", false)
  | 5 => ("MaskDesk$TapeReader", "y", "I", false)
  | 6 => ("MaskDesk$TapeReader", "copies", "I", false)
  | 7 => ("MaskDesk$TapeReader", "dx", "I", false)
  | 8 => ("MaskDesk$TapeReader", "dy", "I", false)
  | _ => ("MaskDesk$TapeReader", "total", "I", false)
def tyX9 : Nat → FieldType := fun k => match k with
  | 0 => .int
  | 1 => .int
  | 2 => .int
  | 3 => .int
  | 4 => .int
  | 5 => .int
  | 6 => .int
  | 7 => .int
  | 8 => .int
  | _ => .int
abbrev wsX90 : List Cond := u_ws RX9 TX9 10
theorem nmX9 : ∀ a, a < 10 → ∀ b, b < 10 → a ≠ b → (TX9 a).2.1 ≠ (TX9 b).2.1 := by decide +kernel
theorem tyX9_ok : ∀ k, k < 10 → parseFieldDescriptor (TX9 k).2.2.1 = some (tyX9 k) := by decide +kernel
abbrev cX9_init : ByteArray := prog_11_method_1_code
def yX9_init : MethodName := ⟨RX9, "<init>", "()V"⟩
abbrev cX9_decode : ByteArray := prog_11_method_2_code
def yX9_decode : MethodName := ⟨RX9, "decode", "(LMaskDesk$Tape;LMaskDesk$Cells;)I"⟩
abbrev cX9_accept : ByteArray := prog_11_method_3_code
def yX9_accept : MethodName := ⟨RX9, "accept", "(ILMaskDesk$Cells;)Z"⟩
abbrev cX9_acceptWidth : ByteArray := prog_11_method_4_code
def yX9_acceptWidth : MethodName := ⟨RX9, "acceptWidth", "(I)Z"⟩
abbrev cX9_acceptCount : ByteArray := prog_11_method_5_code
def yX9_acceptCount : MethodName := ⟨RX9, "acceptCount", "(ILMaskDesk$Cells;)Z"⟩
abbrev cX9_signed : ByteArray := prog_11_method_6_code
def yX9_signed : MethodName := ⟨RX9, "signed", "(I)I"⟩
abbrev cX9_endsOnPlate : ByteArray := prog_11_method_7_code
def yX9_endsOnPlate : MethodName := ⟨RX9, "endsOnPlate", "(III)Z"⟩
abbrev cX9_finishLine : ByteArray := prog_11_method_8_code
def yX9_finishLine : MethodName := ⟨RX9, "finishLine", "(LMaskDesk$Cells;)Z"⟩
def RX10 : String := "MaskDesk$TapeWriter"
def TX10 : u_T := fun k => match k with
  | 0 => ("MaskDesk$TapeWriter", "out", "LMaskDesk$Tape;", true)
  | 1 => ("MaskDesk$TapeWriter", "xs", "[I", true)
  | 2 => ("MaskDesk$TapeWriter", "ys", "[I", true)
  | 3 => ("MaskDesk$TapeWriter", "members", "I", false)
  | _ => ("MaskDesk$TapeWriter", "fits", "Z", false)
def tyX10 : Nat → FieldType := fun k => match k with
  | 0 => .object "MaskDesk$Tape"
  | 1 => .array .int
  | 2 => .array .int
  | 3 => .int
  | _ => .boolean
abbrev wsX100 : List Cond := u_ws RX10 TX10 5
theorem nmX10 : ∀ a, a < 5 → ∀ b, b < 5 → a ≠ b → (TX10 a).2.1 ≠ (TX10 b).2.1 := by decide +kernel
theorem tyX10_ok : ∀ k, k < 5 → parseFieldDescriptor (TX10 k).2.2.1 = some (tyX10 k) := by decide +kernel
abbrev cX10_init : ByteArray := prog_12_method_1_code
def yX10_init : MethodName := ⟨RX10, "<init>", "()V"⟩
abbrev cX10_drafted : ByteArray := prog_12_method_2_code
def yX10_drafted : MethodName := ⟨RX10, "drafted", "()LMaskDesk$Tape;"⟩
abbrev cX10_draft : ByteArray := prog_12_method_3_code
def yX10_draft : MethodName := ⟨RX10, "draft", "(LMaskDesk$Items;)Z"⟩
abbrev cX10_kindOf : ByteArray := prog_12_method_4_code
def yX10_kindOf : MethodName := ⟨RX10, "kindOf", "(LMaskDesk$Items;I)I"⟩
abbrev cX10_kindAfter : ByteArray := prog_12_method_5_code
def yX10_kindAfter : MethodName := ⟨RX10, "kindAfter", "(LMaskDesk$Items;I)I"⟩
abbrev cX10_writeGroup : ByteArray := prog_12_method_6_code
def yX10_writeGroup : MethodName := ⟨RX10, "writeGroup", "(LMaskDesk$Items;I)V"⟩
abbrev cX10_gather : ByteArray := prog_12_method_7_code
def yX10_gather : MethodName := ⟨RX10, "gather", "(LMaskDesk$Items;I)V"⟩
abbrev cX10_countLines : ByteArray := prog_12_method_8_code
def yX10_countLines : MethodName := ⟨RX10, "countLines", "()I"⟩
abbrev cX10_lineEndFrom : ByteArray := prog_12_method_9_code
def yX10_lineEndFrom : MethodName := ⟨RX10, "lineEndFrom", "(I)I"⟩
abbrev cX10_isSameStep : ByteArray := prog_12_method_10_code
def yX10_isSameStep : MethodName := ⟨RX10, "isSameStep", "(II)Z"⟩
abbrev cX10_writeLine : ByteArray := prog_12_method_11_code
def yX10_writeLine : MethodName := ⟨RX10, "writeLine", "(II)V"⟩
abbrev cX10_emit : ByteArray := prog_12_method_12_code
def yX10_emit : MethodName := ⟨RX10, "emit", "(I)V"⟩
def RX11 : String := "MaskDesk"
def TX11 : u_T := fun k => match k with
  | 0 => ("MaskDesk", "shapes", "[LMaskDesk$Cells;", true)
  | 1 => ("MaskDesk", "scratch", "LMaskDesk$Cells;", true)
  | 2 => ("MaskDesk", "outline", "LMaskDesk$Outline;", true)
  | 3 => ("MaskDesk", "layout", "LMaskDesk$Layout;", true)
  | 4 => ("MaskDesk", "survey", "LMaskDesk$Survey;", true)
  | 5 => ("MaskDesk", "chords", "LMaskDesk$Chords;", true)
  | 6 => ("MaskDesk", "cutter", "LMaskDesk$Cutter;", true)
  | 7 => ("MaskDesk", "pieces", "LMaskDesk$Items;", true)
  | 8 => ("MaskDesk", "faults", "LMaskDesk$Items;", true)
  | 9 => ("MaskDesk", "tape", "LMaskDesk$Tape;", true)
  | 10 => ("MaskDesk", "writer", "LMaskDesk$TapeWriter;", true)
  | _ => ("MaskDesk", "reader", "LMaskDesk$TapeReader;", true)
def tyX11 : Nat → FieldType := fun k => match k with
  | 0 => .array (.object "MaskDesk$Cells")
  | 1 => .object "MaskDesk$Cells"
  | 2 => .object "MaskDesk$Outline"
  | 3 => .object "MaskDesk$Layout"
  | 4 => .object "MaskDesk$Survey"
  | 5 => .object "MaskDesk$Chords"
  | 6 => .object "MaskDesk$Cutter"
  | 7 => .object "MaskDesk$Items"
  | 8 => .object "MaskDesk$Items"
  | 9 => .object "MaskDesk$Tape"
  | 10 => .object "MaskDesk$TapeWriter"
  | _ => .object "MaskDesk$TapeReader"
abbrev wsX110 : List Cond := u_ws RX11 TX11 12
theorem nmX11 : ∀ a, a < 12 → ∀ b, b < 12 → a ≠ b → (TX11 a).2.1 ≠ (TX11 b).2.1 := by decide +kernel
theorem tyX11_ok : ∀ k, k < 12 → parseFieldDescriptor (TX11 k).2.2.1 = some (tyX11 k) := by decide +kernel
abbrev cX11_init : ByteArray := prog_1_method_1_code
def yX11_init : MethodName := ⟨RX11, "<init>", "()V"⟩
abbrev cX11_rect : ByteArray := prog_1_method_2_code
def yX11_rect : MethodName := ⟨RX11, "rect", "(IIIII)Z"⟩
abbrev cX11_point : ByteArray := prog_1_method_3_code
def yX11_point : MethodName := ⟨RX11, "point", "(II)Z"⟩
abbrev cX11_ring : ByteArray := prog_1_method_4_code
def yX11_ring : MethodName := ⟨RX11, "ring", "(I)Z"⟩
abbrev cX11_join : ByteArray := prog_1_method_5_code
def yX11_join : MethodName := ⟨RX11, "join", "(IIII)Z"⟩
abbrev cX11_size : ByteArray := prog_1_method_6_code
def yX11_size : MethodName := ⟨RX11, "size", "(III)Z"⟩
abbrev cX11_box : ByteArray := prog_1_method_7_code
def yX11_box : MethodName := ⟨RX11, "box", "(IIIII)Z"⟩
abbrev cX11_at : ByteArray := prog_1_method_8_code
def yX11_at : MethodName := ⟨RX11, "at", "(III)Z"⟩
abbrev cX11_steps : ByteArray := prog_1_method_9_code
def yX11_steps : MethodName := ⟨RX11, "steps", "(II)Z"⟩
abbrev cX11_place : ByteArray := prog_1_method_10_code
def yX11_place : MethodName := ⟨RX11, "place", "(IIII)Z"⟩
abbrev cX11_clear : ByteArray := prog_1_method_11_code
def yX11_clear : MethodName := ⟨RX11, "clear", "(I)Z"⟩
abbrev cX11_expand : ByteArray := prog_1_method_12_code
def yX11_expand : MethodName := ⟨RX11, "expand", "(IIII)I"⟩
abbrev cX11_filled : ByteArray := prog_1_method_13_code
def yX11_filled : MethodName := ⟨RX11, "filled", "(III)Z"⟩
abbrev cX11_measure : ByteArray := prog_1_method_14_code
def yX11_measure : MethodName := ⟨RX11, "measure", "(II)I"⟩
abbrev cX11_check : ByteArray := prog_1_method_15_code
def yX11_check : MethodName := ⟨RX11, "check", "(III)I"⟩
abbrev cX11_split : ByteArray := prog_1_method_16_code
def yX11_split : MethodName := ⟨RX11, "split", "(I)I"⟩
abbrev cX11_item : ByteArray := prog_1_method_17_code
def yX11_item : MethodName := ⟨RX11, "item", "(III)I"⟩
abbrev cX11_write : ByteArray := prog_1_method_18_code
def yX11_write : MethodName := ⟨RX11, "write", "()I"⟩
abbrev cX11_put : ByteArray := prog_1_method_19_code
def yX11_put : MethodName := ⟨RX11, "put", "(I)Z"⟩
abbrev cX11_byteAt : ByteArray := prog_1_method_20_code
def yX11_byteAt : MethodName := ⟨RX11, "byteAt", "(I)I"⟩
abbrev cX11_read : ByteArray := prog_1_method_21_code
def yX11_read : MethodName := ⟨RX11, "read", "(I)I"⟩
abbrev cX11_isShape : ByteArray := prog_1_method_22_code
def yX11_isShape : MethodName := ⟨RX11, "isShape", "(I)Z"⟩
abbrev cX11_isPart : ByteArray := prog_1_method_23_code
def yX11_isPart : MethodName := ⟨RX11, "isPart", "(I)Z"⟩
abbrev cX11_isUpTo : ByteArray := prog_1_method_24_code
def yX11_isUpTo : MethodName := ⟨RX11, "isUpTo", "(II)Z"⟩
abbrev cX11_isBit : ByteArray := prog_1_method_25_code
def yX11_isBit : MethodName := ⟨RX11, "isBit", "(II)Z"⟩
abbrev cX11_liesOnPlate : ByteArray := prog_1_method_26_code
def yX11_liesOnPlate : MethodName := ⟨RX11, "liesOnPlate", "(IIII)Z"⟩
abbrev cX11_runEnd : ByteArray := prog_1_method_27_code
def yX11_runEnd : MethodName := ⟨RX11, "runEnd", "(II)I"⟩
abbrev cX11_span : ByteArray := prog_1_method_28_code
def yX11_span : MethodName := ⟨RX11, "span", "(II)I"⟩
def RX12 : String := "MaskDeskModel"
def TX12 : u_T := fun k => match k with
  | 0 => ("MaskDeskModel", "cell", "[Z", true)
  | 1 => ("MaskDeskModel", "other", "[Z", true)
  | 2 => ("MaskDeskModel", "ringX", "[I", true)
  | 3 => ("MaskDeskModel", "ringY", "[I", true)
  | 4 => ("MaskDeskModel", "ringed", "I", false)
  | 5 => ("MaskDeskModel", "boxes", "[I", true)
  | 6 => ("MaskDeskModel", "boxX", "[I", true)
  | 7 => ("MaskDeskModel", "boxY", "[I", true)
  | 8 => ("MaskDeskModel", "boxW", "[I", true)
  | 9 => ("MaskDeskModel", "boxH", "[I", true)
  | 10 => ("MaskDeskModel", "placements", "[I", true)
  | 11 => ("MaskDeskModel", "placed", "[I", true)
  | 12 => ("MaskDeskModel", "placeX", "[I", true)
  | 13 => ("MaskDeskModel", "placeY", "[I", true)
  | 14 => ("MaskDeskModel", "placeTurn", "[I", true)
  | 15 => ("MaskDeskModel", "stepX", "[I", true)
  | 16 => ("MaskDeskModel", "stepY", "[I", true)
  | 17 => ("MaskDeskModel", "copiesX", "[I", true)
  | 18 => ("MaskDeskModel", "copiesY", "[I", true)
  | 19 => ("MaskDeskModel", "nowX", "I", false)
  | 20 => ("MaskDeskModel", "nowY", "I", false)
  | 21 => ("MaskDeskModel", "nowTurn", "I", false)
  | 22 => ("MaskDeskModel", "nowDx", "I", false)
  | 23 => ("MaskDeskModel", "nowDy", "I", false)
  | 24 => ("MaskDeskModel", "sizes", "[I", true)
  | 25 => ("MaskDeskModel", "todo", "[I", true)
  | 26 => ("MaskDeskModel", "turns", "[I", true)
  | 27 => ("MaskDeskModel", "laid", "[I", true)
  | 28 => ("MaskDeskModel", "laidCount", "I", false)
  | 29 => ("MaskDeskModel", "cornerX", "[I", true)
  | 30 => ("MaskDeskModel", "cornerY", "[I", true)
  | 31 => ("MaskDeskModel", "corners", "I", false)
  | 32 => ("MaskDeskModel", "chordFrom", "[I", true)
  | 33 => ("MaskDeskModel", "chordTo", "[I", true)
  | 34 => ("MaskDeskModel", "chordAt", "[I", true)
  | 35 => ("MaskDeskModel", "levels", "I", false)
  | 36 => ("MaskDeskModel", "chords", "I", false)
  | 37 => ("MaskDeskModel", "below", "[Z", true)
  | 38 => ("MaskDeskModel", "leftOf", "[Z", true)
  | 39 => ("MaskDeskModel", "cutAt", "[Z", true)
  | 40 => ("MaskDeskModel", "ends", "[Z", true)
  | 41 => ("MaskDeskModel", "row", "[I", true)
  | 42 => ("MaskDeskModel", "met", "[Z", true)
  | 43 => ("MaskDeskModel", "pieces", "[I", true)
  | 44 => ("MaskDeskModel", "pieceCount", "I", false)
  | 45 => ("MaskDeskModel", "faults", "[I", true)
  | 46 => ("MaskDeskModel", "faultCount", "I", false)
  | 47 => ("MaskDeskModel", "bytes", "[I", true)
  | 48 => ("MaskDeskModel", "byteCount", "I", false)
  | 49 => ("MaskDeskModel", "text", "[I", true)
  | _ => ("MaskDeskModel", "textSize", "I", false)
def tyX12 : Nat → FieldType := fun k => match k with
  | 0 => .array .boolean
  | 1 => .array .boolean
  | 2 => .array .int
  | 3 => .array .int
  | 4 => .int
  | 5 => .array .int
  | 6 => .array .int
  | 7 => .array .int
  | 8 => .array .int
  | 9 => .array .int
  | 10 => .array .int
  | 11 => .array .int
  | 12 => .array .int
  | 13 => .array .int
  | 14 => .array .int
  | 15 => .array .int
  | 16 => .array .int
  | 17 => .array .int
  | 18 => .array .int
  | 19 => .int
  | 20 => .int
  | 21 => .int
  | 22 => .int
  | 23 => .int
  | 24 => .array .int
  | 25 => .array .int
  | 26 => .array .int
  | 27 => .array .int
  | 28 => .int
  | 29 => .array .int
  | 30 => .array .int
  | 31 => .int
  | 32 => .array .int
  | 33 => .array .int
  | 34 => .array .int
  | 35 => .int
  | 36 => .int
  | 37 => .array .boolean
  | 38 => .array .boolean
  | 39 => .array .boolean
  | 40 => .array .boolean
  | 41 => .array .int
  | 42 => .array .boolean
  | 43 => .array .int
  | 44 => .int
  | 45 => .array .int
  | 46 => .int
  | 47 => .array .int
  | 48 => .int
  | 49 => .array .int
  | _ => .int
abbrev wsX120 : List Cond := u_ws RX12 TX12 51
theorem nmX12 : ∀ a, a < 51 → ∀ b, b < 51 → a ≠ b → (TX12 a).2.1 ≠ (TX12 b).2.1 := by decide +kernel
theorem tyX12_ok : ∀ k, k < 51 → parseFieldDescriptor (TX12 k).2.2.1 = some (tyX12 k) := by decide +kernel
abbrev cX12_init : ByteArray := prog_14_method_1_code
def yX12_init : MethodName := ⟨RX12, "<init>", "()V"⟩
abbrev cX12_in : ByteArray := prog_14_method_2_code
def yX12_in : MethodName := ⟨RX12, "in", "(III)Z"⟩
abbrev cX12_isShape : ByteArray := prog_14_method_3_code
def yX12_isShape : MethodName := ⟨RX12, "isShape", "(I)Z"⟩
abbrev cX12_has : ByteArray := prog_14_method_4_code
def yX12_has : MethodName := ⟨RX12, "has", "(III)Z"⟩
abbrev cX12_fill : ByteArray := prog_14_method_5_code
def yX12_fill : MethodName := ⟨RX12, "fill", "(IIIII)V"⟩
abbrev cX12_fits : ByteArray := prog_14_method_6_code
def yX12_fits : MethodName := ⟨RX12, "fits", "(IIII)Z"⟩
abbrev cX12_rect : ByteArray := prog_14_method_7_code
def yX12_rect : MethodName := ⟨RX12, "rect", "(IIIII)Z"⟩
abbrev cX12_point : ByteArray := prog_14_method_8_code
def yX12_point : MethodName := ⟨RX12, "point", "(II)Z"⟩
abbrev cX12_isRing : ByteArray := prog_14_method_9_code
def yX12_isRing : MethodName := ⟨RX12, "isRing", "()Z"⟩
abbrev cX12_isInside : ByteArray := prog_14_method_10_code
def yX12_isInside : MethodName := ⟨RX12, "isInside", "(II)Z"⟩
abbrev cX12_ring : ByteArray := prog_14_method_11_code
def yX12_ring : MethodName := ⟨RX12, "ring", "(I)Z"⟩
abbrev cX12_join : ByteArray := prog_14_method_12_code
def yX12_join : MethodName := ⟨RX12, "join", "(IIII)Z"⟩
abbrev cX12_size : ByteArray := prog_14_method_13_code
def yX12_size : MethodName := ⟨RX12, "size", "(III)Z"⟩
abbrev cX12_isPart : ByteArray := prog_14_method_14_code
def yX12_isPart : MethodName := ⟨RX12, "isPart", "(I)Z"⟩
abbrev cX12_box : ByteArray := prog_14_method_15_code
def yX12_box : MethodName := ⟨RX12, "box", "(IIIII)Z"⟩
abbrev cX12_at : ByteArray := prog_14_method_16_code
def yX12_at : MethodName := ⟨RX12, "at", "(III)Z"⟩
abbrev cX12_steps : ByteArray := prog_14_method_17_code
def yX12_steps : MethodName := ⟨RX12, "steps", "(II)Z"⟩
abbrev cX12_place : ByteArray := prog_14_method_18_code
def yX12_place : MethodName := ⟨RX12, "place", "(IIII)Z"⟩
abbrev cX12_clear : ByteArray := prog_14_method_19_code
def yX12_clear : MethodName := ⟨RX12, "clear", "(I)Z"⟩
abbrev cX12_count : ByteArray := prog_14_method_20_code
def yX12_count : MethodName := ⟨RX12, "count", "()V"⟩
abbrev cX12_put : ByteArray := prog_14_method_21_code
def yX12_put : MethodName := ⟨RX12, "put", "(IIIIIIII)I"⟩
abbrev cX12_layOut : ByteArray := prog_14_method_22_code
def yX12_layOut : MethodName := ⟨RX12, "layOut", "(III)V"⟩
abbrev cX12_expand : ByteArray := prog_14_method_23_code
def yX12_expand : MethodName := ⟨RX12, "expand", "(IIII)I"⟩
abbrev cX12_filled : ByteArray := prog_14_method_24_code
def yX12_filled : MethodName := ⟨RX12, "filled", "(III)Z"⟩
abbrev cX12_spread : ByteArray := prog_14_method_25_code
def yX12_spread : MethodName := ⟨RX12, "spread", "(IIZ)Z"⟩
abbrev cX12_islands : ByteArray := prog_14_method_26_code
def yX12_islands : MethodName := ⟨RX12, "islands", "(IZ)I"⟩
abbrev cX12_one : ByteArray := prog_14_method_27_code
def yX12_one : MethodName := ⟨RX12, "one", "(Z)I"⟩
abbrev cX12_isCorner : ByteArray := prog_14_method_28_code
def yX12_isCorner : MethodName := ⟨RX12, "isCorner", "(III)Z"⟩
abbrev cX12_isWithin : ByteArray := prog_14_method_29_code
def yX12_isWithin : MethodName := ⟨RX12, "isWithin", "(IIIZ)Z"⟩
abbrev cX12_look : ByteArray := prog_14_method_30_code
def yX12_look : MethodName := ⟨RX12, "look", "(I)V"⟩
abbrev cX12_chord : ByteArray := prog_14_method_31_code
def yX12_chord : MethodName := ⟨RX12, "chord", "(IIIZ)V"⟩
abbrev cX12_measure : ByteArray := prog_14_method_32_code
def yX12_measure : MethodName := ⟨RX12, "measure", "(II)I"⟩
abbrev cX12_fault : ByteArray := prog_14_method_33_code
def yX12_fault : MethodName := ⟨RX12, "fault", "(IIII)V"⟩
abbrev cX12_check : ByteArray := prog_14_method_34_code
def yX12_check : MethodName := ⟨RX12, "check", "(III)I"⟩
abbrev cX12_touch : ByteArray := prog_14_method_35_code
def yX12_touch : MethodName := ⟨RX12, "touch", "(II)Z"⟩
abbrev cX12_choose : ByteArray := prog_14_method_36_code
def yX12_choose : MethodName := ⟨RX12, "choose", "()I"⟩
abbrev cX12_takes : ByteArray := prog_14_method_37_code
def yX12_takes : MethodName := ⟨RX12, "takes", "(II)Z"⟩
abbrev cX12_isApart : ByteArray := prog_14_method_38_code
def yX12_isApart : MethodName := ⟨RX12, "isApart", "(I)Z"⟩
abbrev cX12_cut : ByteArray := prog_14_method_39_code
def yX12_cut : MethodName := ⟨RX12, "cut", "(IIZ)V"⟩
abbrev cX12_cutChords : ByteArray := prog_14_method_40_code
def yX12_cutChords : MethodName := ⟨RX12, "cutChords", "(I)V"⟩
abbrev cX12_cutOn : ByteArray := prog_14_method_41_code
def yX12_cutOn : MethodName := ⟨RX12, "cutOn", "(III)V"⟩
abbrev cX12_piece : ByteArray := prog_14_method_42_code
def yX12_piece : MethodName := ⟨RX12, "piece", "(III)V"⟩
abbrev cX12_split : ByteArray := prog_14_method_43_code
def yX12_split : MethodName := ⟨RX12, "split", "(I)I"⟩
abbrev cX12_item : ByteArray := prog_14_method_44_code
def yX12_item : MethodName := ⟨RX12, "item", "(III)I"⟩
abbrev cX12_tell : ByteArray := prog_14_method_45_code
def yX12_tell : MethodName := ⟨RX12, "tell", "(I)V"⟩
abbrev cX12_next : ByteArray := prog_14_method_46_code
def yX12_next : MethodName := ⟨RX12, "next", "(III)I"⟩
abbrev cX12_line : ByteArray := prog_14_method_47_code
def yX12_line : MethodName := ⟨RX12, "line", "(III)I"⟩
abbrev cX12_write : ByteArray := prog_14_method_48_code
def yX12_write : MethodName := ⟨RX12, "write", "()I"⟩
abbrev cX12_put_ : ByteArray := prog_14_method_49_code
def yX12_put_ : MethodName := ⟨RX12, "put", "(I)Z"⟩
abbrev cX12_byteAt : ByteArray := prog_14_method_50_code
def yX12_byteAt : MethodName := ⟨RX12, "byteAt", "(I)I"⟩
abbrev cX12_byteOf : ByteArray := prog_14_method_51_code
def yX12_byteOf : MethodName := ⟨RX12, "byteOf", "(I)I"⟩
abbrev cX12_lineAt : ByteArray := prog_14_method_52_code
def yX12_lineAt : MethodName := ⟨RX12, "lineAt", "(III)I"⟩
abbrev cX12_signed : ByteArray := prog_14_method_53_code
def yX12_signed : MethodName := ⟨RX12, "signed", "(I)I"⟩
abbrev cX12_scan : ByteArray := prog_14_method_54_code
def yX12_scan : MethodName := ⟨RX12, "scan", "(I)I"⟩
abbrev cX12_read : ByteArray := prog_14_method_55_code
def yX12_read : MethodName := ⟨RX12, "read", "(I)I"⟩
def RJ6 : String := "java/lang/Integer"
def TJ6 : u_T := fun k => match k with
  | _ => ("", "", "", false)
def tyJ6 : Nat → FieldType := fun k => match k with
  | _ => .int
abbrev wsJ60 : List Cond := u_ws RJ6 TJ6 0
theorem nmJ6 : ∀ a, a < 0 → ∀ b, b < 0 → a ≠ b → (TJ6 a).2.1 ≠ (TJ6 b).2.1 := by decide +kernel
theorem tyJ6_ok : ∀ k, k < 0 → parseFieldDescriptor (TJ6 k).2.2.1 = some (tyJ6 k) := by decide +kernel
abbrev cJ6_bitCount_0f7a4 : ByteArray := prog_15_method_49_code
def yJ6_bitCount_0f7a4 : MethodName := ⟨RJ6, "bitCount", "(I)I"⟩
def RJ9 : String := "java/lang/Math"
def TJ9 : u_T := fun k => match k with
  | _ => ("", "", "", false)
def tyJ9 : Nat → FieldType := fun k => match k with
  | _ => .int
abbrev wsJ90 : List Cond := u_ws RJ9 TJ9 0
theorem nmJ9 : ∀ a, a < 0 → ∀ b, b < 0 → a ≠ b → (TJ9 a).2.1 ≠ (TJ9 b).2.1 := by decide +kernel
theorem tyJ9_ok : ∀ k, k < 0 → parseFieldDescriptor (TJ9 k).2.2.1 = some (tyJ9 k) := by decide +kernel
abbrev cJ9_abs_0f7a4 : ByteArray := prog_16_method_59_code
def yJ9_abs_0f7a4 : MethodName := ⟨RJ9, "abs", "(I)I"⟩
abbrev cJ9_max_7cf53 : ByteArray := prog_16_method_65_code
def yJ9_max_7cf53 : MethodName := ⟨RJ9, "max", "(II)I"⟩
abbrev cJ9_min_7cf53 : ByteArray := prog_16_method_69_code
def yJ9_min_7cf53 : MethodName := ⟨RJ9, "min", "(II)I"⟩
def RL : String := "MaskDeskLaw"
abbrev cL_law : ByteArray := code
def yL_law : MethodName := ⟨RL, "law", "([I)Z"⟩
abbrev vwCl : List vw_C := [(RX0, TX0, 1), (RX1, TX1, 10), (RX2, TX2, 5), (RX3, TX3, 2), (RX4, TX4, 3), (RX5, TX5, 3), (RX6, TX6, 4), (RX7, TX7, 2), (RX8, TX8, 2), (RX9, TX9, 10), (RX10, TX10, 5), (RX11, TX11, 12), (RX12, TX12, 51)]
