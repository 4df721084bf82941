section
-- ===== PART A: goes FIRST, ahead of the names: the tables' words, and 'selects' of the private methods out of them =====
/-- a private method of a class that the tables say can be made, by its rows of tables_1 -/
def lw_okq (q : MethodName × Nat) : Prop := (q.1.cls ≠ "java/lang/invoke/MethodHandle" ∧ q.1.cls ≠ "java/lang/invoke/VarHandle") ∧ Cond.instantiable q.1.cls q.2 ∈ tables_1 ∧ Cond.privateMethod q.1 ∈ tables_1 ∧ Cond.instanceMethod q.1 ∈ tables_1
theorem lw_p0 : lw_okq (⟨"MaskDesk$Outline", "after", "(I)I"⟩, 3) := ⟨⟨by decide +kernel, by decide +kernel⟩, List.mem_of_getElem? (i := 37) (by decide +kernel), List.mem_of_getElem? (i := 323) (by decide +kernel), List.mem_of_getElem? (i := 324) (by decide +kernel)⟩
theorem lw_p1 : lw_okq (⟨"MaskDesk$Outline", "isLevel", "(I)Z"⟩, 3) := ⟨⟨by decide +kernel, by decide +kernel⟩, List.mem_of_getElem? (i := 37) (by decide +kernel), List.mem_of_getElem? (i := 327) (by decide +kernel), List.mem_of_getElem? (i := 328) (by decide +kernel)⟩
theorem lw_p2 : lw_okq (⟨"MaskDesk$Outline", "isUpright", "(I)Z"⟩, 3) := ⟨⟨by decide +kernel, by decide +kernel⟩, List.mem_of_getElem? (i := 37) (by decide +kernel), List.mem_of_getElem? (i := 331) (by decide +kernel), List.mem_of_getElem? (i := 332) (by decide +kernel)⟩
theorem lw_p3 : lw_okq (⟨"MaskDesk$Layout", "layPart", "(IIIILMaskDesk$Cells;)Z"⟩, 3) := ⟨⟨by decide +kernel, by decide +kernel⟩, List.mem_of_getElem? (i := 53) (by decide +kernel), List.mem_of_getElem? (i := 479) (by decide +kernel), List.mem_of_getElem? (i := 480) (by decide +kernel)⟩
theorem lw_p4 : lw_okq (⟨"MaskDesk$Layout", "layCopies", "(IIIIILMaskDesk$Cells;)Z"⟩, 3) := ⟨⟨by decide +kernel, by decide +kernel⟩, List.mem_of_getElem? (i := 53) (by decide +kernel), List.mem_of_getElem? (i := 501) (by decide +kernel), List.mem_of_getElem? (i := 502) (by decide +kernel)⟩
theorem lw_p5 : lw_okq (⟨"MaskDesk$Survey", "countGroups", "(Z)I"⟩, 2) := ⟨⟨by decide +kernel, by decide +kernel⟩, List.mem_of_getElem? (i := 89) (by decide +kernel), List.mem_of_getElem? (i := 538) (by decide +kernel), List.mem_of_getElem? (i := 539) (by decide +kernel)⟩
theorem lw_p6 : lw_okq (⟨"MaskDesk$Survey", "flood", "(Z)V"⟩, 2) := ⟨⟨by decide +kernel, by decide +kernel⟩, List.mem_of_getElem? (i := 89) (by decide +kernel), List.mem_of_getElem? (i := 545) (by decide +kernel), List.mem_of_getElem? (i := 546) (by decide +kernel)⟩
theorem lw_p7 : lw_okq (⟨"MaskDesk$Survey", "spreadInto", "(IZ)Z"⟩, 2) := ⟨⟨by decide +kernel, by decide +kernel⟩, List.mem_of_getElem? (i := 89) (by decide +kernel), List.mem_of_getElem? (i := 549) (by decide +kernel), List.mem_of_getElem? (i := 550) (by decide +kernel)⟩
theorem lw_p8 : lw_okq (⟨"MaskDesk$Chords", "findCorners", "(LMaskDesk$Cells;)V"⟩, 10) := ⟨⟨by decide +kernel, by decide +kernel⟩, List.mem_of_getElem? (i := 104) (by decide +kernel), List.mem_of_getElem? (i := 570) (by decide +kernel), List.mem_of_getElem? (i := 571) (by decide +kernel)⟩
theorem lw_p9 : lw_okq (⟨"MaskDesk$Chords", "findLevel", "(LMaskDesk$Cells;)V"⟩, 10) := ⟨⟨by decide +kernel, by decide +kernel⟩, List.mem_of_getElem? (i := 104) (by decide +kernel), List.mem_of_getElem? (i := 575) (by decide +kernel), List.mem_of_getElem? (i := 576) (by decide +kernel)⟩
theorem lw_p10 : lw_okq (⟨"MaskDesk$Chords", "isCorner", "(II)Z"⟩, 10) := ⟨⟨by decide +kernel, by decide +kernel⟩, List.mem_of_getElem? (i := 104) (by decide +kernel), List.mem_of_getElem? (i := 579) (by decide +kernel), List.mem_of_getElem? (i := 580) (by decide +kernel)⟩
theorem lw_p11 : lw_okq (⟨"MaskDesk$Chords", "keep", "(III)V"⟩, 10) := ⟨⟨by decide +kernel, by decide +kernel⟩, List.mem_of_getElem? (i := 104) (by decide +kernel), List.mem_of_getElem? (i := 588) (by decide +kernel), List.mem_of_getElem? (i := 589) (by decide +kernel)⟩
theorem lw_p12 : lw_okq (⟨"MaskDesk$Chords", "findUpright", "(LMaskDesk$Cells;)V"⟩, 10) := ⟨⟨by decide +kernel, by decide +kernel⟩, List.mem_of_getElem? (i := 104) (by decide +kernel), List.mem_of_getElem? (i := 592) (by decide +kernel), List.mem_of_getElem? (i := 593) (by decide +kernel)⟩
theorem lw_p13 : lw_okq (⟨"MaskDesk$Chords", "findTouching", "()V"⟩, 10) := ⟨⟨by decide +kernel, by decide +kernel⟩, List.mem_of_getElem? (i := 104) (by decide +kernel), List.mem_of_getElem? (i := 649) (by decide +kernel), List.mem_of_getElem? (i := 650) (by decide +kernel)⟩
theorem lw_p14 : lw_okq (⟨"MaskDesk$Chords", "touch", "(II)Z"⟩, 10) := ⟨⟨by decide +kernel, by decide +kernel⟩, List.mem_of_getElem? (i := 104) (by decide +kernel), List.mem_of_getElem? (i := 653) (by decide +kernel), List.mem_of_getElem? (i := 654) (by decide +kernel)⟩
theorem lw_p15 : lw_okq (⟨"MaskDesk$Chords", "greatestAmong", "(I)I"⟩, 10) := ⟨⟨by decide +kernel, by decide +kernel⟩, List.mem_of_getElem? (i := 104) (by decide +kernel), List.mem_of_getElem? (i := 657) (by decide +kernel), List.mem_of_getElem? (i := 658) (by decide +kernel)⟩
def lw_privs_1 : List (MethodName × Nat) := [(⟨"MaskDesk$Outline", "after", "(I)I"⟩, 3), (⟨"MaskDesk$Outline", "isLevel", "(I)Z"⟩, 3), (⟨"MaskDesk$Outline", "isUpright", "(I)Z"⟩, 3), (⟨"MaskDesk$Layout", "layPart", "(IIIILMaskDesk$Cells;)Z"⟩, 3), (⟨"MaskDesk$Layout", "layCopies", "(IIIIILMaskDesk$Cells;)Z"⟩, 3), (⟨"MaskDesk$Survey", "countGroups", "(Z)I"⟩, 2), (⟨"MaskDesk$Survey", "flood", "(Z)V"⟩, 2), (⟨"MaskDesk$Survey", "spreadInto", "(IZ)Z"⟩, 2), (⟨"MaskDesk$Chords", "findCorners", "(LMaskDesk$Cells;)V"⟩, 10), (⟨"MaskDesk$Chords", "findLevel", "(LMaskDesk$Cells;)V"⟩, 10), (⟨"MaskDesk$Chords", "isCorner", "(II)Z"⟩, 10), (⟨"MaskDesk$Chords", "keep", "(III)V"⟩, 10), (⟨"MaskDesk$Chords", "findUpright", "(LMaskDesk$Cells;)V"⟩, 10), (⟨"MaskDesk$Chords", "findTouching", "()V"⟩, 10), (⟨"MaskDesk$Chords", "touch", "(II)Z"⟩, 10), (⟨"MaskDesk$Chords", "greatestAmong", "(I)I"⟩, 10)]
theorem lw_r1 : ∀ q ∈ lw_privs_1, lw_okq q := List.forall_mem_cons.mpr ⟨lw_p0, List.forall_mem_cons.mpr ⟨lw_p1, List.forall_mem_cons.mpr ⟨lw_p2, List.forall_mem_cons.mpr ⟨lw_p3, List.forall_mem_cons.mpr ⟨lw_p4, List.forall_mem_cons.mpr ⟨lw_p5, List.forall_mem_cons.mpr ⟨lw_p6, List.forall_mem_cons.mpr ⟨lw_p7, List.forall_mem_cons.mpr ⟨lw_p8, List.forall_mem_cons.mpr ⟨lw_p9, List.forall_mem_cons.mpr ⟨lw_p10, List.forall_mem_cons.mpr ⟨lw_p11, List.forall_mem_cons.mpr ⟨lw_p12, List.forall_mem_cons.mpr ⟨lw_p13, List.forall_mem_cons.mpr ⟨lw_p14, List.forall_mem_cons.mpr ⟨lw_p15, fun _ h => absurd h List.not_mem_nil⟩⟩⟩⟩⟩⟩⟩⟩⟩⟩⟩⟩⟩⟩⟩⟩
theorem lw_p16 : lw_okq (⟨"MaskDesk$Chords", "findPartner", "(III)Z"⟩, 10) := ⟨⟨by decide +kernel, by decide +kernel⟩, List.mem_of_getElem? (i := 104) (by decide +kernel), List.mem_of_getElem? (i := 661) (by decide +kernel), List.mem_of_getElem? (i := 662) (by decide +kernel)⟩
theorem lw_p17 : lw_okq (⟨"MaskDesk$Cutter", "cutChord", "(LMaskDesk$Chords;I)V"⟩, 5) := ⟨⟨by decide +kernel, by decide +kernel⟩, List.mem_of_getElem? (i := 141) (by decide +kernel), List.mem_of_getElem? (i := 678) (by decide +kernel), List.mem_of_getElem? (i := 679) (by decide +kernel)⟩
theorem lw_p18 : lw_okq (⟨"MaskDesk$Cutter", "cutLevel", "(III)V"⟩, 5) := ⟨⟨by decide +kernel, by decide +kernel⟩, List.mem_of_getElem? (i := 141) (by decide +kernel), List.mem_of_getElem? (i := 698) (by decide +kernel), List.mem_of_getElem? (i := 699) (by decide +kernel)⟩
theorem lw_p19 : lw_okq (⟨"MaskDesk$Cutter", "cutUpright", "(III)V"⟩, 5) := ⟨⟨by decide +kernel, by decide +kernel⟩, List.mem_of_getElem? (i := 141) (by decide +kernel), List.mem_of_getElem? (i := 703) (by decide +kernel), List.mem_of_getElem? (i := 704) (by decide +kernel)⟩
theorem lw_p20 : lw_okq (⟨"MaskDesk$Cutter", "cutFrom", "(III)V"⟩, 5) := ⟨⟨by decide +kernel, by decide +kernel⟩, List.mem_of_getElem? (i := 141) (by decide +kernel), List.mem_of_getElem? (i := 709) (by decide +kernel), List.mem_of_getElem? (i := 710) (by decide +kernel)⟩
theorem lw_p21 : lw_okq (⟨"MaskDesk$Cutter", "widthFrom", "(II)I"⟩, 5) := ⟨⟨by decide +kernel, by decide +kernel⟩, List.mem_of_getElem? (i := 141) (by decide +kernel), List.mem_of_getElem? (i := 720) (by decide +kernel), List.mem_of_getElem? (i := 721) (by decide +kernel)⟩
theorem lw_p22 : lw_okq (⟨"MaskDesk$Cutter", "heightFrom", "(II)I"⟩, 5) := ⟨⟨by decide +kernel, by decide +kernel⟩, List.mem_of_getElem? (i := 141) (by decide +kernel), List.mem_of_getElem? (i := 724) (by decide +kernel), List.mem_of_getElem? (i := 725) (by decide +kernel)⟩
theorem lw_p23 : lw_okq (⟨"MaskDesk$TapeWriter", "writeGroup", "(LMaskDesk$Items;I)V"⟩, 5) := ⟨⟨by decide +kernel, by decide +kernel⟩, List.mem_of_getElem? (i := 191) (by decide +kernel), List.mem_of_getElem? (i := 761) (by decide +kernel), List.mem_of_getElem? (i := 762) (by decide +kernel)⟩
theorem lw_p24 : lw_okq (⟨"MaskDesk$TapeWriter", "gather", "(LMaskDesk$Items;I)V"⟩, 5) := ⟨⟨by decide +kernel, by decide +kernel⟩, List.mem_of_getElem? (i := 191) (by decide +kernel), List.mem_of_getElem? (i := 765) (by decide +kernel), List.mem_of_getElem? (i := 766) (by decide +kernel)⟩
theorem lw_p25 : lw_okq (⟨"MaskDesk$TapeWriter", "emit", "(I)V"⟩, 5) := ⟨⟨by decide +kernel, by decide +kernel⟩, List.mem_of_getElem? (i := 191) (by decide +kernel), List.mem_of_getElem? (i := 769) (by decide +kernel), List.mem_of_getElem? (i := 770) (by decide +kernel)⟩
theorem lw_p26 : lw_okq (⟨"MaskDesk$TapeWriter", "countLines", "()I"⟩, 5) := ⟨⟨by decide +kernel, by decide +kernel⟩, List.mem_of_getElem? (i := 191) (by decide +kernel), List.mem_of_getElem? (i := 777) (by decide +kernel), List.mem_of_getElem? (i := 778) (by decide +kernel)⟩
theorem lw_p27 : lw_okq (⟨"MaskDesk$TapeWriter", "lineEndFrom", "(I)I"⟩, 5) := ⟨⟨by decide +kernel, by decide +kernel⟩, List.mem_of_getElem? (i := 191) (by decide +kernel), List.mem_of_getElem? (i := 781) (by decide +kernel), List.mem_of_getElem? (i := 782) (by decide +kernel)⟩
theorem lw_p28 : lw_okq (⟨"MaskDesk$TapeWriter", "isSameStep", "(II)Z"⟩, 5) := ⟨⟨by decide +kernel, by decide +kernel⟩, List.mem_of_getElem? (i := 191) (by decide +kernel), List.mem_of_getElem? (i := 785) (by decide +kernel), List.mem_of_getElem? (i := 786) (by decide +kernel)⟩
theorem lw_p29 : lw_okq (⟨"MaskDesk$TapeWriter", "writeLine", "(II)V"⟩, 5) := ⟨⟨by decide +kernel, by decide +kernel⟩, List.mem_of_getElem? (i := 191) (by decide +kernel), List.mem_of_getElem? (i := 789) (by decide +kernel), List.mem_of_getElem? (i := 790) (by decide +kernel)⟩
theorem lw_p30 : lw_okq (⟨"MaskDesk$TapeReader", "accept", "(ILMaskDesk$Cells;)Z"⟩, 10) := ⟨⟨by decide +kernel, by decide +kernel⟩, List.mem_of_getElem? (i := 215) (by decide +kernel), List.mem_of_getElem? (i := 834) (by decide +kernel), List.mem_of_getElem? (i := 835) (by decide +kernel)⟩
theorem lw_p31 : lw_okq (⟨"MaskDesk$TapeReader", "acceptWidth", "(I)Z"⟩, 10) := ⟨⟨by decide +kernel, by decide +kernel⟩, List.mem_of_getElem? (i := 215) (by decide +kernel), List.mem_of_getElem? (i := 838) (by decide +kernel), List.mem_of_getElem? (i := 839) (by decide +kernel)⟩
def lw_privs_2 : List (MethodName × Nat) := [(⟨"MaskDesk$Chords", "findPartner", "(III)Z"⟩, 10), (⟨"MaskDesk$Cutter", "cutChord", "(LMaskDesk$Chords;I)V"⟩, 5), (⟨"MaskDesk$Cutter", "cutLevel", "(III)V"⟩, 5), (⟨"MaskDesk$Cutter", "cutUpright", "(III)V"⟩, 5), (⟨"MaskDesk$Cutter", "cutFrom", "(III)V"⟩, 5), (⟨"MaskDesk$Cutter", "widthFrom", "(II)I"⟩, 5), (⟨"MaskDesk$Cutter", "heightFrom", "(II)I"⟩, 5), (⟨"MaskDesk$TapeWriter", "writeGroup", "(LMaskDesk$Items;I)V"⟩, 5), (⟨"MaskDesk$TapeWriter", "gather", "(LMaskDesk$Items;I)V"⟩, 5), (⟨"MaskDesk$TapeWriter", "emit", "(I)V"⟩, 5), (⟨"MaskDesk$TapeWriter", "countLines", "()I"⟩, 5), (⟨"MaskDesk$TapeWriter", "lineEndFrom", "(I)I"⟩, 5), (⟨"MaskDesk$TapeWriter", "isSameStep", "(II)Z"⟩, 5), (⟨"MaskDesk$TapeWriter", "writeLine", "(II)V"⟩, 5), (⟨"MaskDesk$TapeReader", "accept", "(ILMaskDesk$Cells;)Z"⟩, 10), (⟨"MaskDesk$TapeReader", "acceptWidth", "(I)Z"⟩, 10)]
theorem lw_r2 : ∀ q ∈ lw_privs_2, lw_okq q := List.forall_mem_cons.mpr ⟨lw_p16, List.forall_mem_cons.mpr ⟨lw_p17, List.forall_mem_cons.mpr ⟨lw_p18, List.forall_mem_cons.mpr ⟨lw_p19, List.forall_mem_cons.mpr ⟨lw_p20, List.forall_mem_cons.mpr ⟨lw_p21, List.forall_mem_cons.mpr ⟨lw_p22, List.forall_mem_cons.mpr ⟨lw_p23, List.forall_mem_cons.mpr ⟨lw_p24, List.forall_mem_cons.mpr ⟨lw_p25, List.forall_mem_cons.mpr ⟨lw_p26, List.forall_mem_cons.mpr ⟨lw_p27, List.forall_mem_cons.mpr ⟨lw_p28, List.forall_mem_cons.mpr ⟨lw_p29, List.forall_mem_cons.mpr ⟨lw_p30, List.forall_mem_cons.mpr ⟨lw_p31, fun _ h => absurd h List.not_mem_nil⟩⟩⟩⟩⟩⟩⟩⟩⟩⟩⟩⟩⟩⟩⟩⟩
theorem lw_p32 : lw_okq (⟨"MaskDesk$TapeReader", "acceptCount", "(ILMaskDesk$Cells;)Z"⟩, 10) := ⟨⟨by decide +kernel, by decide +kernel⟩, List.mem_of_getElem? (i := 215) (by decide +kernel), List.mem_of_getElem? (i := 842) (by decide +kernel), List.mem_of_getElem? (i := 843) (by decide +kernel)⟩
theorem lw_p33 : lw_okq (⟨"MaskDesk$TapeReader", "finishLine", "(LMaskDesk$Cells;)Z"⟩, 10) := ⟨⟨by decide +kernel, by decide +kernel⟩, List.mem_of_getElem? (i := 215) (by decide +kernel), List.mem_of_getElem? (i := 846) (by decide +kernel), List.mem_of_getElem? (i := 847) (by decide +kernel)⟩
theorem lw_p34 : lw_okq (⟨"MaskDesk$TapeReader", "endsOnPlate", "(III)Z"⟩, 10) := ⟨⟨by decide +kernel, by decide +kernel⟩, List.mem_of_getElem? (i := 215) (by decide +kernel), List.mem_of_getElem? (i := 854) (by decide +kernel), List.mem_of_getElem? (i := 855) (by decide +kernel)⟩
theorem lw_p35 : lw_okq (⟨"MaskDeskModel", "fill", "(IIIII)V"⟩, 51) := ⟨⟨by decide +kernel, by decide +kernel⟩, List.mem_of_getElem? (i := 859) (by decide +kernel), List.mem_of_getElem? (i := 1033) (by decide +kernel), List.mem_of_getElem? (i := 1034) (by decide +kernel)⟩
theorem lw_p36 : lw_okq (⟨"MaskDeskModel", "isRing", "()Z"⟩, 51) := ⟨⟨by decide +kernel, by decide +kernel⟩, List.mem_of_getElem? (i := 859) (by decide +kernel), List.mem_of_getElem? (i := 1045) (by decide +kernel), List.mem_of_getElem? (i := 1046) (by decide +kernel)⟩
theorem lw_p37 : lw_okq (⟨"MaskDeskModel", "isInside", "(II)Z"⟩, 51) := ⟨⟨by decide +kernel, by decide +kernel⟩, List.mem_of_getElem? (i := 859) (by decide +kernel), List.mem_of_getElem? (i := 1049) (by decide +kernel), List.mem_of_getElem? (i := 1050) (by decide +kernel)⟩
theorem lw_p38 : lw_okq (⟨"MaskDeskModel", "has", "(III)Z"⟩, 51) := ⟨⟨by decide +kernel, by decide +kernel⟩, List.mem_of_getElem? (i := 859) (by decide +kernel), List.mem_of_getElem? (i := 1061) (by decide +kernel), List.mem_of_getElem? (i := 1062) (by decide +kernel)⟩
theorem lw_p39 : lw_okq (⟨"MaskDeskModel", "count", "()V"⟩, 51) := ⟨⟨by decide +kernel, by decide +kernel⟩, List.mem_of_getElem? (i := 859) (by decide +kernel), List.mem_of_getElem? (i := 1092) (by decide +kernel), List.mem_of_getElem? (i := 1093) (by decide +kernel)⟩
theorem lw_p40 : lw_okq (⟨"MaskDeskModel", "layOut", "(III)V"⟩, 51) := ⟨⟨by decide +kernel, by decide +kernel⟩, List.mem_of_getElem? (i := 859) (by decide +kernel), List.mem_of_getElem? (i := 1096) (by decide +kernel), List.mem_of_getElem? (i := 1097) (by decide +kernel)⟩
theorem lw_p41 : lw_okq (⟨"MaskDeskModel", "put", "(IIIIIIII)I"⟩, 51) := ⟨⟨by decide +kernel, by decide +kernel⟩, List.mem_of_getElem? (i := 859) (by decide +kernel), List.mem_of_getElem? (i := 1100) (by decide +kernel), List.mem_of_getElem? (i := 1101) (by decide +kernel)⟩
theorem lw_p42 : lw_okq (⟨"MaskDeskModel", "islands", "(IZ)I"⟩, 51) := ⟨⟨by decide +kernel, by decide +kernel⟩, List.mem_of_getElem? (i := 859) (by decide +kernel), List.mem_of_getElem? (i := 1115) (by decide +kernel), List.mem_of_getElem? (i := 1116) (by decide +kernel)⟩
theorem lw_p43 : lw_okq (⟨"MaskDeskModel", "spread", "(IIZ)Z"⟩, 51) := ⟨⟨by decide +kernel, by decide +kernel⟩, List.mem_of_getElem? (i := 859) (by decide +kernel), List.mem_of_getElem? (i := 1119) (by decide +kernel), List.mem_of_getElem? (i := 1120) (by decide +kernel)⟩
theorem lw_p44 : lw_okq (⟨"MaskDeskModel", "look", "(I)V"⟩, 51) := ⟨⟨by decide +kernel, by decide +kernel⟩, List.mem_of_getElem? (i := 859) (by decide +kernel), List.mem_of_getElem? (i := 1123) (by decide +kernel), List.mem_of_getElem? (i := 1124) (by decide +kernel)⟩
theorem lw_p45 : lw_okq (⟨"MaskDeskModel", "isCorner", "(III)Z"⟩, 51) := ⟨⟨by decide +kernel, by decide +kernel⟩, List.mem_of_getElem? (i := 859) (by decide +kernel), List.mem_of_getElem? (i := 1127) (by decide +kernel), List.mem_of_getElem? (i := 1128) (by decide +kernel)⟩
theorem lw_p46 : lw_okq (⟨"MaskDeskModel", "chord", "(IIIZ)V"⟩, 51) := ⟨⟨by decide +kernel, by decide +kernel⟩, List.mem_of_getElem? (i := 859) (by decide +kernel), List.mem_of_getElem? (i := 1131) (by decide +kernel), List.mem_of_getElem? (i := 1132) (by decide +kernel)⟩
theorem lw_p47 : lw_okq (⟨"MaskDeskModel", "isWithin", "(IIIZ)Z"⟩, 51) := ⟨⟨by decide +kernel, by decide +kernel⟩, List.mem_of_getElem? (i := 859) (by decide +kernel), List.mem_of_getElem? (i := 1135) (by decide +kernel), List.mem_of_getElem? (i := 1136) (by decide +kernel)⟩
def lw_privs_3 : List (MethodName × Nat) := [(⟨"MaskDesk$TapeReader", "acceptCount", "(ILMaskDesk$Cells;)Z"⟩, 10), (⟨"MaskDesk$TapeReader", "finishLine", "(LMaskDesk$Cells;)Z"⟩, 10), (⟨"MaskDesk$TapeReader", "endsOnPlate", "(III)Z"⟩, 10), (⟨"MaskDeskModel", "fill", "(IIIII)V"⟩, 51), (⟨"MaskDeskModel", "isRing", "()Z"⟩, 51), (⟨"MaskDeskModel", "isInside", "(II)Z"⟩, 51), (⟨"MaskDeskModel", "has", "(III)Z"⟩, 51), (⟨"MaskDeskModel", "count", "()V"⟩, 51), (⟨"MaskDeskModel", "layOut", "(III)V"⟩, 51), (⟨"MaskDeskModel", "put", "(IIIIIIII)I"⟩, 51), (⟨"MaskDeskModel", "islands", "(IZ)I"⟩, 51), (⟨"MaskDeskModel", "spread", "(IIZ)Z"⟩, 51), (⟨"MaskDeskModel", "look", "(I)V"⟩, 51), (⟨"MaskDeskModel", "isCorner", "(III)Z"⟩, 51), (⟨"MaskDeskModel", "chord", "(IIIZ)V"⟩, 51), (⟨"MaskDeskModel", "isWithin", "(IIIZ)Z"⟩, 51)]
theorem lw_r3 : ∀ q ∈ lw_privs_3, lw_okq q := List.forall_mem_cons.mpr ⟨lw_p32, List.forall_mem_cons.mpr ⟨lw_p33, List.forall_mem_cons.mpr ⟨lw_p34, List.forall_mem_cons.mpr ⟨lw_p35, List.forall_mem_cons.mpr ⟨lw_p36, List.forall_mem_cons.mpr ⟨lw_p37, List.forall_mem_cons.mpr ⟨lw_p38, List.forall_mem_cons.mpr ⟨lw_p39, List.forall_mem_cons.mpr ⟨lw_p40, List.forall_mem_cons.mpr ⟨lw_p41, List.forall_mem_cons.mpr ⟨lw_p42, List.forall_mem_cons.mpr ⟨lw_p43, List.forall_mem_cons.mpr ⟨lw_p44, List.forall_mem_cons.mpr ⟨lw_p45, List.forall_mem_cons.mpr ⟨lw_p46, List.forall_mem_cons.mpr ⟨lw_p47, fun _ h => absurd h List.not_mem_nil⟩⟩⟩⟩⟩⟩⟩⟩⟩⟩⟩⟩⟩⟩⟩⟩
theorem lw_p48 : lw_okq (⟨"MaskDeskModel", "fault", "(IIII)V"⟩, 51) := ⟨⟨by decide +kernel, by decide +kernel⟩, List.mem_of_getElem? (i := 859) (by decide +kernel), List.mem_of_getElem? (i := 1143) (by decide +kernel), List.mem_of_getElem? (i := 1144) (by decide +kernel)⟩
theorem lw_p49 : lw_okq (⟨"MaskDeskModel", "choose", "()I"⟩, 51) := ⟨⟨by decide +kernel, by decide +kernel⟩, List.mem_of_getElem? (i := 859) (by decide +kernel), List.mem_of_getElem? (i := 1151) (by decide +kernel), List.mem_of_getElem? (i := 1152) (by decide +kernel)⟩
theorem lw_p50 : lw_okq (⟨"MaskDeskModel", "isApart", "(I)Z"⟩, 51) := ⟨⟨by decide +kernel, by decide +kernel⟩, List.mem_of_getElem? (i := 859) (by decide +kernel), List.mem_of_getElem? (i := 1155) (by decide +kernel), List.mem_of_getElem? (i := 1156) (by decide +kernel)⟩
theorem lw_p51 : lw_okq (⟨"MaskDeskModel", "takes", "(II)Z"⟩, 51) := ⟨⟨by decide +kernel, by decide +kernel⟩, List.mem_of_getElem? (i := 859) (by decide +kernel), List.mem_of_getElem? (i := 1159) (by decide +kernel), List.mem_of_getElem? (i := 1160) (by decide +kernel)⟩
theorem lw_p52 : lw_okq (⟨"MaskDeskModel", "touch", "(II)Z"⟩, 51) := ⟨⟨by decide +kernel, by decide +kernel⟩, List.mem_of_getElem? (i := 859) (by decide +kernel), List.mem_of_getElem? (i := 1163) (by decide +kernel), List.mem_of_getElem? (i := 1164) (by decide +kernel)⟩
theorem lw_p53 : lw_okq (⟨"MaskDeskModel", "cutChords", "(I)V"⟩, 51) := ⟨⟨by decide +kernel, by decide +kernel⟩, List.mem_of_getElem? (i := 859) (by decide +kernel), List.mem_of_getElem? (i := 1167) (by decide +kernel), List.mem_of_getElem? (i := 1168) (by decide +kernel)⟩
theorem lw_p54 : lw_okq (⟨"MaskDeskModel", "cut", "(IIZ)V"⟩, 51) := ⟨⟨by decide +kernel, by decide +kernel⟩, List.mem_of_getElem? (i := 859) (by decide +kernel), List.mem_of_getElem? (i := 1171) (by decide +kernel), List.mem_of_getElem? (i := 1172) (by decide +kernel)⟩
theorem lw_p55 : lw_okq (⟨"MaskDeskModel", "cutOn", "(III)V"⟩, 51) := ⟨⟨by decide +kernel, by decide +kernel⟩, List.mem_of_getElem? (i := 859) (by decide +kernel), List.mem_of_getElem? (i := 1175) (by decide +kernel), List.mem_of_getElem? (i := 1176) (by decide +kernel)⟩
theorem lw_p56 : lw_okq (⟨"MaskDeskModel", "piece", "(III)V"⟩, 51) := ⟨⟨by decide +kernel, by decide +kernel⟩, List.mem_of_getElem? (i := 859) (by decide +kernel), List.mem_of_getElem? (i := 1179) (by decide +kernel), List.mem_of_getElem? (i := 1180) (by decide +kernel)⟩
theorem lw_p57 : lw_okq (⟨"MaskDeskModel", "next", "(III)I"⟩, 51) := ⟨⟨by decide +kernel, by decide +kernel⟩, List.mem_of_getElem? (i := 859) (by decide +kernel), List.mem_of_getElem? (i := 1191) (by decide +kernel), List.mem_of_getElem? (i := 1192) (by decide +kernel)⟩
theorem lw_p58 : lw_okq (⟨"MaskDeskModel", "tell", "(I)V"⟩, 51) := ⟨⟨by decide +kernel, by decide +kernel⟩, List.mem_of_getElem? (i := 859) (by decide +kernel), List.mem_of_getElem? (i := 1195) (by decide +kernel), List.mem_of_getElem? (i := 1196) (by decide +kernel)⟩
theorem lw_p59 : lw_okq (⟨"MaskDeskModel", "line", "(III)I"⟩, 51) := ⟨⟨by decide +kernel, by decide +kernel⟩, List.mem_of_getElem? (i := 859) (by decide +kernel), List.mem_of_getElem? (i := 1199) (by decide +kernel), List.mem_of_getElem? (i := 1200) (by decide +kernel)⟩
theorem lw_p60 : lw_okq (⟨"MaskDeskModel", "scan", "(I)I"⟩, 51) := ⟨⟨by decide +kernel, by decide +kernel⟩, List.mem_of_getElem? (i := 859) (by decide +kernel), List.mem_of_getElem? (i := 1215) (by decide +kernel), List.mem_of_getElem? (i := 1216) (by decide +kernel)⟩
theorem lw_p61 : lw_okq (⟨"MaskDeskModel", "byteOf", "(I)I"⟩, 51) := ⟨⟨by decide +kernel, by decide +kernel⟩, List.mem_of_getElem? (i := 859) (by decide +kernel), List.mem_of_getElem? (i := 1219) (by decide +kernel), List.mem_of_getElem? (i := 1220) (by decide +kernel)⟩
theorem lw_p62 : lw_okq (⟨"MaskDeskModel", "lineAt", "(III)I"⟩, 51) := ⟨⟨by decide +kernel, by decide +kernel⟩, List.mem_of_getElem? (i := 859) (by decide +kernel), List.mem_of_getElem? (i := 1223) (by decide +kernel), List.mem_of_getElem? (i := 1224) (by decide +kernel)⟩
def lw_privs_4 : List (MethodName × Nat) := [(⟨"MaskDeskModel", "fault", "(IIII)V"⟩, 51), (⟨"MaskDeskModel", "choose", "()I"⟩, 51), (⟨"MaskDeskModel", "isApart", "(I)Z"⟩, 51), (⟨"MaskDeskModel", "takes", "(II)Z"⟩, 51), (⟨"MaskDeskModel", "touch", "(II)Z"⟩, 51), (⟨"MaskDeskModel", "cutChords", "(I)V"⟩, 51), (⟨"MaskDeskModel", "cut", "(IIZ)V"⟩, 51), (⟨"MaskDeskModel", "cutOn", "(III)V"⟩, 51), (⟨"MaskDeskModel", "piece", "(III)V"⟩, 51), (⟨"MaskDeskModel", "next", "(III)I"⟩, 51), (⟨"MaskDeskModel", "tell", "(I)V"⟩, 51), (⟨"MaskDeskModel", "line", "(III)I"⟩, 51), (⟨"MaskDeskModel", "scan", "(I)I"⟩, 51), (⟨"MaskDeskModel", "byteOf", "(I)I"⟩, 51), (⟨"MaskDeskModel", "lineAt", "(III)I"⟩, 51)]
theorem lw_r4 : ∀ q ∈ lw_privs_4, lw_okq q := List.forall_mem_cons.mpr ⟨lw_p48, List.forall_mem_cons.mpr ⟨lw_p49, List.forall_mem_cons.mpr ⟨lw_p50, List.forall_mem_cons.mpr ⟨lw_p51, List.forall_mem_cons.mpr ⟨lw_p52, List.forall_mem_cons.mpr ⟨lw_p53, List.forall_mem_cons.mpr ⟨lw_p54, List.forall_mem_cons.mpr ⟨lw_p55, List.forall_mem_cons.mpr ⟨lw_p56, List.forall_mem_cons.mpr ⟨lw_p57, List.forall_mem_cons.mpr ⟨lw_p58, List.forall_mem_cons.mpr ⟨lw_p59, List.forall_mem_cons.mpr ⟨lw_p60, List.forall_mem_cons.mpr ⟨lw_p61, List.forall_mem_cons.mpr ⟨lw_p62, fun _ h => absurd h List.not_mem_nil⟩⟩⟩⟩⟩⟩⟩⟩⟩⟩⟩⟩⟩⟩⟩
def lw_privs : List (MethodName × Nat) := lw_privs_1 ++ (lw_privs_2 ++ (lw_privs_3 ++ (lw_privs_4)))
def lw_tbl : List Cond := k2_sels lw_privs ++ tables_1
theorem lw_privs_ok : ∀ q ∈ lw_privs, lw_okq q := by
  show ∀ q ∈ lw_privs_1 ++ (lw_privs_2 ++ (lw_privs_3 ++ (lw_privs_4))), lw_okq q
  exact List.forall_mem_append.mpr ⟨lw_r1, List.forall_mem_append.mpr ⟨lw_r2, List.forall_mem_append.mpr ⟨lw_r3, lw_r4⟩⟩⟩
-- ===== end of PART A; names =====
def RX0 : String := "MaskDesk$Cells"
def TX0 : u_T := fun k => match k with
  | _ => ("MaskDesk$Cells", "rows", "[I", true)
def tyX0 : Nat → FieldType := fun k => match k with
  | _ => .array .int
abbrev wsX00 : List Cond := u_ws RX0 TX0 1
theorem nmX0 : ∀ a, a < 1 → ∀ b, b < 1 → a ≠ b → (TX0 a).2.1 ≠ (TX0 b).2.1 := by decide +kernel
theorem tyX0_ok : ∀ k, k < 1 → parseFieldDescriptor (TX0 k).2.2.1 = some (tyX0 k) := by decide +kernel
abbrev cX0_init : ByteArray := prog_2_method_1_code
def yX0_init : MethodName := ⟨RX0, "<init>", "()V"⟩
abbrev cX0_row : ByteArray := prog_2_method_2_code
def yX0_row : MethodName := ⟨RX0, "row", "(I)I"⟩
abbrev cX0_column : ByteArray := prog_2_method_3_code
def yX0_column : MethodName := ⟨RX0, "column", "(I)I"⟩
abbrev cX0_holds : ByteArray := prog_2_method_4_code
def yX0_holds : MethodName := ⟨RX0, "holds", "(II)Z"⟩
abbrev cX0_count : ByteArray := prog_2_method_5_code
def yX0_count : MethodName := ⟨RX0, "count", "()I"⟩
abbrev cX0_setRow : ByteArray := prog_2_method_6_code
def yX0_setRow : MethodName := ⟨RX0, "setRow", "(II)V"⟩
abbrev cX0_wipe : ByteArray := prog_2_method_7_code
def yX0_wipe : MethodName := ⟨RX0, "wipe", "()V"⟩
abbrev cX0_become : ByteArray := prog_2_method_8_code
def yX0_become : MethodName := ⟨RX0, "become", "(LMaskDesk$Cells;)V"⟩
abbrev cX0_becomeAllBut : ByteArray := prog_2_method_9_code
def yX0_becomeAllBut : MethodName := ⟨RX0, "becomeAllBut", "(LMaskDesk$Cells;)V"⟩
abbrev cX0_addAll : ByteArray := prog_2_method_10_code
def yX0_addAll : MethodName := ⟨RX0, "addAll", "(LMaskDesk$Cells;)V"⟩
abbrev cX0_removeAll : ByteArray := prog_2_method_11_code
def yX0_removeAll : MethodName := ⟨RX0, "removeAll", "(LMaskDesk$Cells;)V"⟩
abbrev cX0_addRectangle : ByteArray := prog_2_method_12_code
def yX0_addRectangle : MethodName := ⟨RX0, "addRectangle", "(IIII)V"⟩
abbrev cX0_removeRectangle : ByteArray := prog_2_method_13_code
def yX0_removeRectangle : MethodName := ⟨RX0, "removeRectangle", "(IIII)V"⟩
abbrev cX0_combine : ByteArray := prog_2_method_14_code
def yX0_combine : MethodName := ⟨RX0, "combine", "(LMaskDesk$Cells;LMaskDesk$Cells;I)V"⟩
abbrev cX0_combineRows : ByteArray := prog_2_method_15_code
def yX0_combineRows : MethodName := ⟨RX0, "combineRows", "(III)I"⟩
abbrev cX0_growByOne : ByteArray := prog_2_method_16_code
def yX0_growByOne : MethodName := ⟨RX0, "growByOne", "()V"⟩
abbrev cX0_shrinkByOne : ByteArray := prog_2_method_17_code
def yX0_shrinkByOne : MethodName := ⟨RX0, "shrinkByOne", "()V"⟩
def RX1 : String := "MaskDesk$Chords"
def TX1 : u_T := fun k => match k with
  | 0 => ("MaskDesk$Chords", "corners", "[I", true)
  | 1 => ("MaskDesk$Chords", "lines", "[I", true)
  | 2 => ("MaskDesk$Chords", "starts", "[I", true)
  | 3 => ("MaskDesk$Chords", "ends", "[I", true)
  | 4 => ("MaskDesk$Chords", "touching", "[I", true)
  | 5 => ("MaskDesk$Chords", "partners", "[I", true)
  | 6 => ("MaskDesk$Chords", "count", "I", false)
  | 7 => ("MaskDesk$Chords", "levels", "I", false)
  | 8 => ("MaskDesk$Chords", "chosen", "I", false)
  | _ => ("MaskDesk$Chords", "tried", "I", false)
def tyX1 : Nat → FieldType := fun k => match k with
  | 0 => .array .int
  | 1 => .array .int
  | 2 => .array .int
  | 3 => .array .int
  | 4 => .array .int
  | 5 => .array .int
  | 6 => .int
  | 7 => .int
  | 8 => .int
  | _ => .int
abbrev wsX10 : List Cond := u_ws RX1 TX1 10
theorem nmX1 : ∀ a, a < 10 → ∀ b, b < 10 → a ≠ b → (TX1 a).2.1 ≠ (TX1 b).2.1 := by decide +kernel
theorem tyX1_ok : ∀ k, k < 10 → parseFieldDescriptor (TX1 k).2.2.1 = some (tyX1 k) := by decide +kernel
abbrev cX1_init : ByteArray := prog_3_method_1_code
def yX1_init : MethodName := ⟨RX1, "<init>", "()V"⟩
abbrev cX1_find : ByteArray := prog_3_method_2_code
def yX1_find : MethodName := ⟨RX1, "find", "(LMaskDesk$Cells;)V"⟩
abbrev cX1_count : ByteArray := prog_3_method_3_code
def yX1_count : MethodName := ⟨RX1, "count", "()I"⟩
abbrev cX1_areAllKept : ByteArray := prog_3_method_4_code
def yX1_areAllKept : MethodName := ⟨RX1, "areAllKept", "()Z"⟩
abbrev cX1_countCorners : ByteArray := prog_3_method_5_code
def yX1_countCorners : MethodName := ⟨RX1, "countCorners", "()I"⟩
abbrev cX1_cornerRow : ByteArray := prog_3_method_6_code
def yX1_cornerRow : MethodName := ⟨RX1, "cornerRow", "(I)I"⟩
abbrev cX1_isChosen : ByteArray := prog_3_method_7_code
def yX1_isChosen : MethodName := ⟨RX1, "isChosen", "(I)Z"⟩
abbrev cX1_isLevel : ByteArray := prog_3_method_8_code
def yX1_isLevel : MethodName := ⟨RX1, "isLevel", "(I)Z"⟩
abbrev cX1_line : ByteArray := prog_3_method_9_code
def yX1_line : MethodName := ⟨RX1, "line", "(I)I"⟩
abbrev cX1_start : ByteArray := prog_3_method_10_code
def yX1_start : MethodName := ⟨RX1, "start", "(I)I"⟩
abbrev cX1_end : ByteArray := prog_3_method_11_code
def yX1_end : MethodName := ⟨RX1, "end", "(I)I"⟩
abbrev cX1_findCorners : ByteArray := prog_3_method_12_code
def yX1_findCorners : MethodName := ⟨RX1, "findCorners", "(LMaskDesk$Cells;)V"⟩
abbrev cX1_findLevel : ByteArray := prog_3_method_13_code
def yX1_findLevel : MethodName := ⟨RX1, "findLevel", "(LMaskDesk$Cells;)V"⟩
abbrev cX1_findUpright : ByteArray := prog_3_method_14_code
def yX1_findUpright : MethodName := ⟨RX1, "findUpright", "(LMaskDesk$Cells;)V"⟩
abbrev cX1_isCorner : ByteArray := prog_3_method_15_code
def yX1_isCorner : MethodName := ⟨RX1, "isCorner", "(II)Z"⟩
abbrev cX1_keep : ByteArray := prog_3_method_16_code
def yX1_keep : MethodName := ⟨RX1, "keep", "(III)V"⟩
abbrev cX1_choose : ByteArray := prog_3_method_17_code
def yX1_choose : MethodName := ⟨RX1, "choose", "()V"⟩
abbrev cX1_findTouching : ByteArray := prog_3_method_18_code
def yX1_findTouching : MethodName := ⟨RX1, "findTouching", "()V"⟩
abbrev cX1_touch : ByteArray := prog_3_method_19_code
def yX1_touch : MethodName := ⟨RX1, "touch", "(II)Z"⟩
abbrev cX1_greatestAmong : ByteArray := prog_3_method_20_code
def yX1_greatestAmong : MethodName := ⟨RX1, "greatestAmong", "(I)I"⟩
abbrev cX1_findPartner : ByteArray := prog_3_method_21_code
def yX1_findPartner : MethodName := ⟨RX1, "findPartner", "(III)Z"⟩
def RX2 : String := "MaskDesk$Cutter"
def TX2 : u_T := fun k => match k with
  | 0 => ("MaskDesk$Cutter", "levelCuts", "[I", true)
  | 1 => ("MaskDesk$Cutter", "uprightCuts", "[I", true)
  | 2 => ("MaskDesk$Cutter", "cutPoints", "[I", true)
  | 3 => ("MaskDesk$Cutter", "openCorners", "[I", true)
  | _ => ("MaskDesk$Cutter", "left", "LMaskDesk$Cells;", true)
def tyX2 : Nat → FieldType := fun k => match k with
  | 0 => .array .int
  | 1 => .array .int
  | 2 => .array .int
  | 3 => .array .int
  | _ => .object "MaskDesk$Cells"
abbrev wsX20 : List Cond := u_ws RX2 TX2 5
theorem nmX2 : ∀ a, a < 5 → ∀ b, b < 5 → a ≠ b → (TX2 a).2.1 ≠ (TX2 b).2.1 := by decide +kernel
theorem tyX2_ok : ∀ k, k < 5 → parseFieldDescriptor (TX2 k).2.2.1 = some (tyX2 k) := by decide +kernel
abbrev cX2_init : ByteArray := prog_4_method_1_code
def yX2_init : MethodName := ⟨RX2, "<init>", "()V"⟩
abbrev cX2_cut : ByteArray := prog_4_method_2_code
def yX2_cut : MethodName := ⟨RX2, "cut", "(LMaskDesk$Cells;LMaskDesk$Chords;)V"⟩
abbrev cX2_cutChord : ByteArray := prog_4_method_3_code
def yX2_cutChord : MethodName := ⟨RX2, "cutChord", "(LMaskDesk$Chords;I)V"⟩
abbrev cX2_cutLevel : ByteArray := prog_4_method_4_code
def yX2_cutLevel : MethodName := ⟨RX2, "cutLevel", "(III)V"⟩
abbrev cX2_cutUpright : ByteArray := prog_4_method_5_code
def yX2_cutUpright : MethodName := ⟨RX2, "cutUpright", "(III)V"⟩
abbrev cX2_cutFrom : ByteArray := prog_4_method_6_code
def yX2_cutFrom : MethodName := ⟨RX2, "cutFrom", "(III)V"⟩
abbrev cX2_collect : ByteArray := prog_4_method_7_code
def yX2_collect : MethodName := ⟨RX2, "collect", "(LMaskDesk$Cells;LMaskDesk$Items;)V"⟩
abbrev cX2_widthFrom : ByteArray := prog_4_method_8_code
def yX2_widthFrom : MethodName := ⟨RX2, "widthFrom", "(II)I"⟩
abbrev cX2_heightFrom : ByteArray := prog_4_method_9_code
def yX2_heightFrom : MethodName := ⟨RX2, "heightFrom", "(II)I"⟩
def RX3 : String := "MaskDesk$Items"
def TX3 : u_T := fun k => match k with
  | 0 => ("MaskDesk$Items", "packed", "[I", true)
  | _ => ("MaskDesk$Items", "count", "I", false)
def tyX3 : Nat → FieldType := fun k => match k with
  | 0 => .array .int
  | _ => .int
abbrev wsX30 : List Cond := u_ws RX3 TX3 2
theorem nmX3 : ∀ a, a < 2 → ∀ b, b < 2 → a ≠ b → (TX3 a).2.1 ≠ (TX3 b).2.1 := by decide +kernel
theorem tyX3_ok : ∀ k, k < 2 → parseFieldDescriptor (TX3 k).2.2.1 = some (tyX3 k) := by decide +kernel
abbrev cX3_init : ByteArray := prog_5_method_1_code
def yX3_init : MethodName := ⟨RX3, "<init>", "()V"⟩
abbrev cX3_wipe : ByteArray := prog_5_method_2_code
def yX3_wipe : MethodName := ⟨RX3, "wipe", "()V"⟩
abbrev cX3_count : ByteArray := prog_5_method_3_code
def yX3_count : MethodName := ⟨RX3, "count", "()I"⟩
abbrev cX3_append : ByteArray := prog_5_method_4_code
def yX3_append : MethodName := ⟨RX3, "append", "(IIII)V"⟩
abbrev cX3_value : ByteArray := prog_5_method_5_code
def yX3_value : MethodName := ⟨RX3, "value", "(II)I"⟩
def RX4 : String := "MaskDesk$Layout"
def TX4 : u_T := fun k => match k with
  | 0 => ("MaskDesk$Layout", "parts", "[LMaskDesk$Part;", true)
  | 1 => ("MaskDesk$Layout", "totals", "[I", true)
  | _ => ("MaskDesk$Layout", "coming", "[I", true)
def tyX4 : Nat → FieldType := fun k => match k with
  | 0 => .array (.object "MaskDesk$Part")
  | 1 => .array .int
  | _ => .array .int
abbrev wsX40 : List Cond := u_ws RX4 TX4 3
theorem nmX4 : ∀ a, a < 3 → ∀ b, b < 3 → a ≠ b → (TX4 a).2.1 ≠ (TX4 b).2.1 := by decide +kernel
theorem tyX4_ok : ∀ k, k < 3 → parseFieldDescriptor (TX4 k).2.2.1 = some (tyX4 k) := by decide +kernel
abbrev cX4_init : ByteArray := prog_6_method_1_code
def yX4_init : MethodName := ⟨RX4, "<init>", "()V"⟩
abbrev cX4_addBox : ByteArray := prog_6_method_2_code
def yX4_addBox : MethodName := ⟨RX4, "addBox", "(IIIII)Z"⟩
abbrev cX4_setPlace : ByteArray := prog_6_method_3_code
def yX4_setPlace : MethodName := ⟨RX4, "setPlace", "(III)V"⟩
abbrev cX4_setSteps : ByteArray := prog_6_method_4_code
def yX4_setSteps : MethodName := ⟨RX4, "setSteps", "(II)V"⟩
abbrev cX4_addPlacement : ByteArray := prog_6_method_5_code
def yX4_addPlacement : MethodName := ⟨RX4, "addPlacement", "(IIII)Z"⟩
abbrev cX4_wipePart : ByteArray := prog_6_method_6_code
def yX4_wipePart : MethodName := ⟨RX4, "wipePart", "(I)V"⟩
abbrev cX4_countAll : ByteArray := prog_6_method_7_code
def yX4_countAll : MethodName := ⟨RX4, "countAll", "(I)I"⟩
abbrev cX4_layAll : ByteArray := prog_6_method_8_code
def yX4_layAll : MethodName := ⟨RX4, "layAll", "(IIILMaskDesk$Cells;)Z"⟩
abbrev cX4_layPart : ByteArray := prog_6_method_9_code
def yX4_layPart : MethodName := ⟨RX4, "layPart", "(IIIILMaskDesk$Cells;)Z"⟩
abbrev cX4_layCopies : ByteArray := prog_6_method_10_code
def yX4_layCopies : MethodName := ⟨RX4, "layCopies", "(IIIIILMaskDesk$Cells;)Z"⟩
abbrev cX4_layBox : ByteArray := prog_6_method_11_code
def yX4_layBox : MethodName := ⟨RX4, "layBox", "(LMaskDesk$Part;IIIILMaskDesk$Cells;)Z"⟩
abbrev cX4_turnedX : ByteArray := prog_6_method_12_code
def yX4_turnedX : MethodName := ⟨RX4, "turnedX", "(III)I"⟩
abbrev cX4_turnedY : ByteArray := prog_6_method_13_code
def yX4_turnedY : MethodName := ⟨RX4, "turnedY", "(III)I"⟩
abbrev cX4_turnAfter : ByteArray := prog_6_method_14_code
def yX4_turnAfter : MethodName := ⟨RX4, "turnAfter", "(II)I"⟩
def RX5 : String := "MaskDesk$Outline"
def TX5 : u_T := fun k => match k with
  | 0 => ("MaskDesk$Outline", "xs", "[I", true)
  | 1 => ("MaskDesk$Outline", "ys", "[I", true)
  | _ => ("MaskDesk$Outline", "count", "I", false)
def tyX5 : Nat → FieldType := fun k => match k with
  | 0 => .array .int
  | 1 => .array .int
  | _ => .int
abbrev wsX50 : List Cond := u_ws RX5 TX5 3
theorem nmX5 : ∀ a, a < 3 → ∀ b, b < 3 → a ≠ b → (TX5 a).2.1 ≠ (TX5 b).2.1 := by decide +kernel
theorem tyX5_ok : ∀ k, k < 3 → parseFieldDescriptor (TX5 k).2.2.1 = some (tyX5 k) := by decide +kernel
abbrev cX5_init : ByteArray := prog_7_method_1_code
def yX5_init : MethodName := ⟨RX5, "<init>", "()V"⟩
abbrev cX5_addPoint : ByteArray := prog_7_method_2_code
def yX5_addPoint : MethodName := ⟨RX5, "addPoint", "(II)Z"⟩
abbrev cX5_wipe : ByteArray := prog_7_method_3_code
def yX5_wipe : MethodName := ⟨RX5, "wipe", "()V"⟩
abbrev cX5_isRing : ByteArray := prog_7_method_4_code
def yX5_isRing : MethodName := ⟨RX5, "isRing", "()Z"⟩
abbrev cX5_findInside : ByteArray := prog_7_method_5_code
def yX5_findInside : MethodName := ⟨RX5, "findInside", "(LMaskDesk$Cells;)V"⟩
abbrev cX5_after : ByteArray := prog_7_method_6_code
def yX5_after : MethodName := ⟨RX5, "after", "(I)I"⟩
abbrev cX5_isLevel : ByteArray := prog_7_method_7_code
def yX5_isLevel : MethodName := ⟨RX5, "isLevel", "(I)Z"⟩
abbrev cX5_isUpright : ByteArray := prog_7_method_8_code
def yX5_isUpright : MethodName := ⟨RX5, "isUpright", "(I)Z"⟩
def RX6 : String := "MaskDesk$Part"
def TX6 : u_T := fun k => match k with
  | 0 => ("MaskDesk$Part", "boxes", "[I", true)
  | 1 => ("MaskDesk$Part", "placements", "[I", true)
  | 2 => ("MaskDesk$Part", "boxCount", "I", false)
  | _ => ("MaskDesk$Part", "placementCount", "I", false)
def tyX6 : Nat → FieldType := fun k => match k with
  | 0 => .array .int
  | 1 => .array .int
  | 2 => .int
  | _ => .int
abbrev wsX60 : List Cond := u_ws RX6 TX6 4
theorem nmX6 : ∀ a, a < 4 → ∀ b, b < 4 → a ≠ b → (TX6 a).2.1 ≠ (TX6 b).2.1 := by decide +kernel
theorem tyX6_ok : ∀ k, k < 4 → parseFieldDescriptor (TX6 k).2.2.1 = some (tyX6 k) := by decide +kernel
abbrev cX6_init : ByteArray := prog_8_method_1_code
def yX6_init : MethodName := ⟨RX6, "<init>", "()V"⟩
abbrev cX6_wipe : ByteArray := prog_8_method_2_code
def yX6_wipe : MethodName := ⟨RX6, "wipe", "()V"⟩
abbrev cX6_countBoxes : ByteArray := prog_8_method_3_code
def yX6_countBoxes : MethodName := ⟨RX6, "countBoxes", "()I"⟩
abbrev cX6_countPlacements : ByteArray := prog_8_method_4_code
def yX6_countPlacements : MethodName := ⟨RX6, "countPlacements", "()I"⟩
abbrev cX6_addBox : ByteArray := prog_8_method_5_code
def yX6_addBox : MethodName := ⟨RX6, "addBox", "(IIII)Z"⟩
abbrev cX6_addPlacement : ByteArray := prog_8_method_6_code
def yX6_addPlacement : MethodName := ⟨RX6, "addPlacement", "([I)Z"⟩
abbrev cX6_boxField : ByteArray := prog_8_method_7_code
def yX6_boxField : MethodName := ⟨RX6, "boxField", "(II)I"⟩
abbrev cX6_placementField : ByteArray := prog_8_method_8_code
def yX6_placementField : MethodName := ⟨RX6, "placementField", "(II)I"⟩
def RX7 : String := "MaskDesk$Survey"
def TX7 : u_T := fun k => match k with
  | 0 => ("MaskDesk$Survey", "left", "LMaskDesk$Cells;", true)
  | _ => ("MaskDesk$Survey", "reached", "LMaskDesk$Cells;", true)
def tyX7 : Nat → FieldType := fun k => match k with
  | 0 => .object "MaskDesk$Cells"
  | _ => .object "MaskDesk$Cells"
abbrev wsX70 : List Cond := u_ws RX7 TX7 2
theorem nmX7 : ∀ a, a < 2 → ∀ b, b < 2 → a ≠ b → (TX7 a).2.1 ≠ (TX7 b).2.1 := by decide +kernel
theorem tyX7_ok : ∀ k, k < 2 → parseFieldDescriptor (TX7 k).2.2.1 = some (tyX7 k) := by decide +kernel
abbrev cX7_init : ByteArray := prog_9_method_1_code
def yX7_init : MethodName := ⟨RX7, "<init>", "()V"⟩
abbrev cX7_countIslands : ByteArray := prog_9_method_2_code
def yX7_countIslands : MethodName := ⟨RX7, "countIslands", "(LMaskDesk$Cells;)I"⟩
abbrev cX7_countHoles : ByteArray := prog_9_method_3_code
def yX7_countHoles : MethodName := ⟨RX7, "countHoles", "(LMaskDesk$Cells;)I"⟩
abbrev cX7_countGroups : ByteArray := prog_9_method_4_code
def yX7_countGroups : MethodName := ⟨RX7, "countGroups", "(Z)I"⟩
abbrev cX7_flood : ByteArray := prog_9_method_5_code
def yX7_flood : MethodName := ⟨RX7, "flood", "(Z)V"⟩
abbrev cX7_spreadInto : ByteArray := prog_9_method_6_code
def yX7_spreadInto : MethodName := ⟨RX7, "spreadInto", "(IZ)Z"⟩
abbrev cX7_findFaults : ByteArray := prog_9_method_7_code
def yX7_findFaults : MethodName := ⟨RX7, "findFaults", "(LMaskDesk$Cells;ZILMaskDesk$Items;)V"⟩
abbrev cX7_faultLength : ByteArray := prog_9_method_8_code
def yX7_faultLength : MethodName := ⟨RX7, "faultLength", "(IIZI)I"⟩
def RX8 : String := "MaskDesk$Tape"
def TX8 : u_T := fun k => match k with
  | 0 => ("MaskDesk$Tape", "bytes", "[I", true)
  | _ => ("MaskDesk$Tape", "count", "I", false)
def tyX8 : Nat → FieldType := fun k => match k with
  | 0 => .array .int
  | _ => .int
abbrev wsX80 : List Cond := u_ws RX8 TX8 2
theorem nmX8 : ∀ a, a < 2 → ∀ b, b < 2 → a ≠ b → (TX8 a).2.1 ≠ (TX8 b).2.1 := by decide +kernel
theorem tyX8_ok : ∀ k, k < 2 → parseFieldDescriptor (TX8 k).2.2.1 = some (tyX8 k) := by decide +kernel
abbrev cX8_init : ByteArray := prog_10_method_1_code
def yX8_init : MethodName := ⟨RX8, "<init>", "()V"⟩
abbrev cX8_wipe : ByteArray := prog_10_method_2_code
def yX8_wipe : MethodName := ⟨RX8, "wipe", "()V"⟩
abbrev cX8_count : ByteArray := prog_10_method_3_code
def yX8_count : MethodName := ⟨RX8, "count", "()I"⟩
abbrev cX8_holds : ByteArray := prog_10_method_4_code
def yX8_holds : MethodName := ⟨RX8, "holds", "(I)Z"⟩
abbrev cX8_value : ByteArray := prog_10_method_5_code
def yX8_value : MethodName := ⟨RX8, "value", "(I)I"⟩
abbrev cX8_append : ByteArray := prog_10_method_6_code
def yX8_append : MethodName := ⟨RX8, "append", "(I)Z"⟩
abbrev cX8_become : ByteArray := prog_10_method_7_code
def yX8_become : MethodName := ⟨RX8, "become", "(LMaskDesk$Tape;)V"⟩
def RX9 : String := "MaskDesk$TapeReader"
def TX9 : u_T := fun k => match k with
  | 0 => ("MaskDesk$TapeReader", "due", "I", false)
  | 1 => ("MaskDesk$TapeReader", "w", "I", false)
  | 2 => ("MaskDesk$TapeReader", "h", "I", false)
  | 3 => ("MaskDesk$TapeReader", "lines", "I", false)
  | 4 => ("MaskDesk$TapeReader", "x", "I", false)
  | 5 => ("MaskDesk$TapeReader", "y", "I", false)
  | 6 => ("MaskDesk$TapeReader", "copies", "I", false)
  | 7 => ("MaskDesk$TapeReader", "dx", "I", false)
  | 8 => ("MaskDesk$TapeReader", "dy", "I", false)
  | _ => ("MaskDesk$TapeReader", "total", "I", false)
def tyX9 : Nat → FieldType := fun k => match k with
  | 0 => .int
  | 1 => .int
  | 2 => .int
  | 3 => .int
  | 4 => .int
  | 5 => .int
  | 6 => .int
  | 7 => .int
  | 8 => .int
  | _ => .int
abbrev wsX90 : List Cond := u_ws RX9 TX9 10
theorem nmX9 : ∀ a, a < 10 → ∀ b, b < 10 → a ≠ b → (TX9 a).2.1 ≠ (TX9 b).2.1 := by decide +kernel
theorem tyX9_ok : ∀ k, k < 10 → parseFieldDescriptor (TX9 k).2.2.1 = some (tyX9 k) := by decide +kernel
abbrev cX9_init : ByteArray := prog_11_method_1_code
def yX9_init : MethodName := ⟨RX9, "<init>", "()V"⟩
abbrev cX9_decode : ByteArray := prog_11_method_2_code
def yX9_decode : MethodName := ⟨RX9, "decode", "(LMaskDesk$Tape;LMaskDesk$Cells;)I"⟩
abbrev cX9_accept : ByteArray := prog_11_method_3_code
def yX9_accept : MethodName := ⟨RX9, "accept", "(ILMaskDesk$Cells;)Z"⟩
abbrev cX9_acceptWidth : ByteArray := prog_11_method_4_code
def yX9_acceptWidth : MethodName := ⟨RX9, "acceptWidth", "(I)Z"⟩
abbrev cX9_acceptCount : ByteArray := prog_11_method_5_code
def yX9_acceptCount : MethodName := ⟨RX9, "acceptCount", "(ILMaskDesk$Cells;)Z"⟩
abbrev cX9_signed : ByteArray := prog_11_method_6_code
def yX9_signed : MethodName := ⟨RX9, "signed", "(I)I"⟩
abbrev cX9_endsOnPlate : ByteArray := prog_11_method_7_code
def yX9_endsOnPlate : MethodName := ⟨RX9, "endsOnPlate", "(III)Z"⟩
abbrev cX9_finishLine : ByteArray := prog_11_method_8_code
def yX9_finishLine : MethodName := ⟨RX9, "finishLine", "(LMaskDesk$Cells;)Z"⟩
def RX10 : String := "MaskDesk$TapeWriter"
def TX10 : u_T := fun k => match k with
  | 0 => ("MaskDesk$TapeWriter", "out", "LMaskDesk$Tape;", true)
  | 1 => ("MaskDesk$TapeWriter", "xs", "[I", true)
  | 2 => ("MaskDesk$TapeWriter", "ys", "[I", true)
  | 3 => ("MaskDesk$TapeWriter", "members", "I", false)
  | _ => ("MaskDesk$TapeWriter", "fits", "Z", false)
def tyX10 : Nat → FieldType := fun k => match k with
  | 0 => .object "MaskDesk$Tape"
  | 1 => .array .int
  | 2 => .array .int
  | 3 => .int
  | _ => .boolean
abbrev wsX100 : List Cond := u_ws RX10 TX10 5
theorem nmX10 : ∀ a, a < 5 → ∀ b, b < 5 → a ≠ b → (TX10 a).2.1 ≠ (TX10 b).2.1 := by decide +kernel
theorem tyX10_ok : ∀ k, k < 5 → parseFieldDescriptor (TX10 k).2.2.1 = some (tyX10 k) := by decide +kernel
abbrev cX10_init : ByteArray := prog_12_method_1_code
def yX10_init : MethodName := ⟨RX10, "<init>", "()V"⟩
abbrev cX10_drafted : ByteArray := prog_12_method_2_code
def yX10_drafted : MethodName := ⟨RX10, "drafted", "()LMaskDesk$Tape;"⟩
abbrev cX10_draft : ByteArray := prog_12_method_3_code
def yX10_draft : MethodName := ⟨RX10, "draft", "(LMaskDesk$Items;)Z"⟩
abbrev cX10_kindOf : ByteArray := prog_12_method_4_code
def yX10_kindOf : MethodName := ⟨RX10, "kindOf", "(LMaskDesk$Items;I)I"⟩
abbrev cX10_kindAfter : ByteArray := prog_12_method_5_code
def yX10_kindAfter : MethodName := ⟨RX10, "kindAfter", "(LMaskDesk$Items;I)I"⟩
abbrev cX10_writeGroup : ByteArray := prog_12_method_6_code
def yX10_writeGroup : MethodName := ⟨RX10, "writeGroup", "(LMaskDesk$Items;I)V"⟩
abbrev cX10_gather : ByteArray := prog_12_method_7_code
def yX10_gather : MethodName := ⟨RX10, "gather", "(LMaskDesk$Items;I)V"⟩
abbrev cX10_countLines : ByteArray := prog_12_method_8_code
def yX10_countLines : MethodName := ⟨RX10, "countLines", "()I"⟩
abbrev cX10_lineEndFrom : ByteArray := prog_12_method_9_code
def yX10_lineEndFrom : MethodName := ⟨RX10, "lineEndFrom", "(I)I"⟩
abbrev cX10_isSameStep : ByteArray := prog_12_method_10_code
def yX10_isSameStep : MethodName := ⟨RX10, "isSameStep", "(II)Z"⟩
abbrev cX10_writeLine : ByteArray := prog_12_method_11_code
def yX10_writeLine : MethodName := ⟨RX10, "writeLine", "(II)V"⟩
abbrev cX10_emit : ByteArray := prog_12_method_12_code
def yX10_emit : MethodName := ⟨RX10, "emit", "(I)V"⟩
def RX11 : String := "MaskDesk"
def TX11 : u_T := fun k => match k with
  | 0 => ("MaskDesk", "shapes", "[LMaskDesk$Cells;", true)
  | 1 => ("MaskDesk", "scratch", "LMaskDesk$Cells;", true)
  | 2 => ("MaskDesk", "outline", "LMaskDesk$Outline;", true)
  | 3 => ("MaskDesk", "layout", "LMaskDesk$Layout;", true)
  | 4 => ("MaskDesk", "survey", "LMaskDesk$Survey;", true)
  | 5 => ("MaskDesk", "chords", "LMaskDesk$Chords;", true)
  | 6 => ("MaskDesk", "cutter", "LMaskDesk$Cutter;", true)
  | 7 => ("MaskDesk", "pieces", "LMaskDesk$Items;", true)
  | 8 => ("MaskDesk", "faults", "LMaskDesk$Items;", true)
  | 9 => ("MaskDesk", "tape", "LMaskDesk$Tape;", true)
  | 10 => ("MaskDesk", "writer", "LMaskDesk$TapeWriter;", true)
  | _ => ("MaskDesk", "reader", "LMaskDesk$TapeReader;", true)
def tyX11 : Nat → FieldType := fun k => match k with
  | 0 => .array (.object "MaskDesk$Cells")
  | 1 => .object "MaskDesk$Cells"
  | 2 => .object "MaskDesk$Outline"
  | 3 => .object "MaskDesk$Layout"
  | 4 => .object "MaskDesk$Survey"
  | 5 => .object "MaskDesk$Chords"
  | 6 => .object "MaskDesk$Cutter"
  | 7 => .object "MaskDesk$Items"
  | 8 => .object "MaskDesk$Items"
  | 9 => .object "MaskDesk$Tape"
  | 10 => .object "MaskDesk$TapeWriter"
  | _ => .object "MaskDesk$TapeReader"
abbrev wsX110 : List Cond := u_ws RX11 TX11 12
theorem nmX11 : ∀ a, a < 12 → ∀ b, b < 12 → a ≠ b → (TX11 a).2.1 ≠ (TX11 b).2.1 := by decide +kernel
theorem tyX11_ok : ∀ k, k < 12 → parseFieldDescriptor (TX11 k).2.2.1 = some (tyX11 k) := by decide +kernel
abbrev cX11_init : ByteArray := prog_1_method_1_code
def yX11_init : MethodName := ⟨RX11, "<init>", "()V"⟩
abbrev cX11_rect : ByteArray := prog_1_method_2_code
def yX11_rect : MethodName := ⟨RX11, "rect", "(IIIII)Z"⟩
abbrev cX11_point : ByteArray := prog_1_method_3_code
def yX11_point : MethodName := ⟨RX11, "point", "(II)Z"⟩
abbrev cX11_ring : ByteArray := prog_1_method_4_code
def yX11_ring : MethodName := ⟨RX11, "ring", "(I)Z"⟩
abbrev cX11_join : ByteArray := prog_1_method_5_code
def yX11_join : MethodName := ⟨RX11, "join", "(IIII)Z"⟩
abbrev cX11_size : ByteArray := prog_1_method_6_code
def yX11_size : MethodName := ⟨RX11, "size", "(III)Z"⟩
abbrev cX11_box : ByteArray := prog_1_method_7_code
def yX11_box : MethodName := ⟨RX11, "box", "(IIIII)Z"⟩
abbrev cX11_at : ByteArray := prog_1_method_8_code
def yX11_at : MethodName := ⟨RX11, "at", "(III)Z"⟩
abbrev cX11_steps : ByteArray := prog_1_method_9_code
def yX11_steps : MethodName := ⟨RX11, "steps", "(II)Z"⟩
abbrev cX11_place : ByteArray := prog_1_method_10_code
def yX11_place : MethodName := ⟨RX11, "place", "(IIII)Z"⟩
abbrev cX11_clear : ByteArray := prog_1_method_11_code
def yX11_clear : MethodName := ⟨RX11, "clear", "(I)Z"⟩
abbrev cX11_expand : ByteArray := prog_1_method_12_code
def yX11_expand : MethodName := ⟨RX11, "expand", "(IIII)I"⟩
abbrev cX11_filled : ByteArray := prog_1_method_13_code
def yX11_filled : MethodName := ⟨RX11, "filled", "(III)Z"⟩
abbrev cX11_measure : ByteArray := prog_1_method_14_code
def yX11_measure : MethodName := ⟨RX11, "measure", "(II)I"⟩
abbrev cX11_check : ByteArray := prog_1_method_15_code
def yX11_check : MethodName := ⟨RX11, "check", "(III)I"⟩
abbrev cX11_split : ByteArray := prog_1_method_16_code
def yX11_split : MethodName := ⟨RX11, "split", "(I)I"⟩
abbrev cX11_item : ByteArray := prog_1_method_17_code
def yX11_item : MethodName := ⟨RX11, "item", "(III)I"⟩
abbrev cX11_write : ByteArray := prog_1_method_18_code
def yX11_write : MethodName := ⟨RX11, "write", "()I"⟩
abbrev cX11_put : ByteArray := prog_1_method_19_code
def yX11_put : MethodName := ⟨RX11, "put", "(I)Z"⟩
abbrev cX11_byteAt : ByteArray := prog_1_method_20_code
def yX11_byteAt : MethodName := ⟨RX11, "byteAt", "(I)I"⟩
abbrev cX11_read : ByteArray := prog_1_method_21_code
def yX11_read : MethodName := ⟨RX11, "read", "(I)I"⟩
abbrev cX11_isShape : ByteArray := prog_1_method_22_code
def yX11_isShape : MethodName := ⟨RX11, "isShape", "(I)Z"⟩
abbrev cX11_isPart : ByteArray := prog_1_method_23_code
def yX11_isPart : MethodName := ⟨RX11, "isPart", "(I)Z"⟩
abbrev cX11_isUpTo : ByteArray := prog_1_method_24_code
def yX11_isUpTo : MethodName := ⟨RX11, "isUpTo", "(II)Z"⟩
abbrev cX11_isBit : ByteArray := prog_1_method_25_code
def yX11_isBit : MethodName := ⟨RX11, "isBit", "(II)Z"⟩
abbrev cX11_liesOnPlate : ByteArray := prog_1_method_26_code
def yX11_liesOnPlate : MethodName := ⟨RX11, "liesOnPlate", "(IIII)Z"⟩
abbrev cX11_runEnd : ByteArray := prog_1_method_27_code
def yX11_runEnd : MethodName := ⟨RX11, "runEnd", "(II)I"⟩
abbrev cX11_span : ByteArray := prog_1_method_28_code
def yX11_span : MethodName := ⟨RX11, "span", "(II)I"⟩
def RX12 : String := "MaskDeskModel"
def TX12 : u_T := fun k => match k with
  | 0 => ("MaskDeskModel", "cell", "[Z", true)
  | 1 => ("MaskDeskModel", "other", "[Z", true)
  | 2 => ("MaskDeskModel", "ringX", "[I", true)
  | 3 => ("MaskDeskModel", "ringY", "[I", true)
  | 4 => ("MaskDeskModel", "ringed", "I", false)
  | 5 => ("MaskDeskModel", "boxes", "[I", true)
  | 6 => ("MaskDeskModel", "boxX", "[I", true)
  | 7 => ("MaskDeskModel", "boxY", "[I", true)
  | 8 => ("MaskDeskModel", "boxW", "[I", true)
  | 9 => ("MaskDeskModel", "boxH", "[I", true)
  | 10 => ("MaskDeskModel", "placements", "[I", true)
  | 11 => ("MaskDeskModel", "placed", "[I", true)
  | 12 => ("MaskDeskModel", "placeX", "[I", true)
  | 13 => ("MaskDeskModel", "placeY", "[I", true)
  | 14 => ("MaskDeskModel", "placeTurn", "[I", true)
  | 15 => ("MaskDeskModel", "stepX", "[I", true)
  | 16 => ("MaskDeskModel", "stepY", "[I", true)
  | 17 => ("MaskDeskModel", "copiesX", "[I", true)
  | 18 => ("MaskDeskModel", "copiesY", "[I", true)
  | 19 => ("MaskDeskModel", "nowX", "I", false)
  | 20 => ("MaskDeskModel", "nowY", "I", false)
  | 21 => ("MaskDeskModel", "nowTurn", "I", false)
  | 22 => ("MaskDeskModel", "nowDx", "I", false)
  | 23 => ("MaskDeskModel", "nowDy", "I", false)
  | 24 => ("MaskDeskModel", "sizes", "[I", true)
  | 25 => ("MaskDeskModel", "todo", "[I", true)
  | 26 => ("MaskDeskModel", "turns", "[I", true)
  | 27 => ("MaskDeskModel", "laid", "[I", true)
  | 28 => ("MaskDeskModel", "laidCount", "I", false)
  | 29 => ("MaskDeskModel", "cornerX", "[I", true)
  | 30 => ("MaskDeskModel", "cornerY", "[I", true)
  | 31 => ("MaskDeskModel", "corners", "I", false)
  | 32 => ("MaskDeskModel", "chordFrom", "[I", true)
  | 33 => ("MaskDeskModel", "chordTo", "[I", true)
  | 34 => ("MaskDeskModel", "chordAt", "[I", true)
  | 35 => ("MaskDeskModel", "levels", "I", false)
  | 36 => ("MaskDeskModel", "chords", "I", false)
  | 37 => ("MaskDeskModel", "below", "[Z", true)
  | 38 => ("MaskDeskModel", "leftOf", "[Z", true)
  | 39 => ("MaskDeskModel", "cutAt", "[Z", true)
  | 40 => ("MaskDeskModel", "ends", "[Z", true)
  | 41 => ("MaskDeskModel", "row", "[I", true)
  | 42 => ("MaskDeskModel", "met", "[Z", true)
  | 43 => ("MaskDeskModel", "pieces", "[I", true)
  | 44 => ("MaskDeskModel", "pieceCount", "I", false)
  | 45 => ("MaskDeskModel", "faults", "[I", true)
  | 46 => ("MaskDeskModel", "faultCount", "I", false)
  | 47 => ("MaskDeskModel", "bytes", "[I", true)
  | 48 => ("MaskDeskModel", "byteCount", "I", false)
  | 49 => ("MaskDeskModel", "text", "[I", true)
  | _ => ("MaskDeskModel", "textSize", "I", false)
def tyX12 : Nat → FieldType := fun k => match k with
  | 0 => .array .boolean
  | 1 => .array .boolean
  | 2 => .array .int
  | 3 => .array .int
  | 4 => .int
  | 5 => .array .int
  | 6 => .array .int
  | 7 => .array .int
  | 8 => .array .int
  | 9 => .array .int
  | 10 => .array .int
  | 11 => .array .int
  | 12 => .array .int
  | 13 => .array .int
  | 14 => .array .int
  | 15 => .array .int
  | 16 => .array .int
  | 17 => .array .int
  | 18 => .array .int
  | 19 => .int
  | 20 => .int
  | 21 => .int
  | 22 => .int
  | 23 => .int
  | 24 => .array .int
  | 25 => .array .int
  | 26 => .array .int
  | 27 => .array .int
  | 28 => .int
  | 29 => .array .int
  | 30 => .array .int
  | 31 => .int
  | 32 => .array .int
  | 33 => .array .int
  | 34 => .array .int
  | 35 => .int
  | 36 => .int
  | 37 => .array .boolean
  | 38 => .array .boolean
  | 39 => .array .boolean
  | 40 => .array .boolean
  | 41 => .array .int
  | 42 => .array .boolean
  | 43 => .array .int
  | 44 => .int
  | 45 => .array .int
  | 46 => .int
  | 47 => .array .int
  | 48 => .int
  | 49 => .array .int
  | _ => .int
abbrev wsX120 : List Cond := u_ws RX12 TX12 51
theorem nmX12 : ∀ a, a < 51 → ∀ b, b < 51 → a ≠ b → (TX12 a).2.1 ≠ (TX12 b).2.1 := by decide +kernel
theorem tyX12_ok : ∀ k, k < 51 → parseFieldDescriptor (TX12 k).2.2.1 = some (tyX12 k) := by decide +kernel
abbrev cX12_init : ByteArray := prog_14_method_1_code
def yX12_init : MethodName := ⟨RX12, "<init>", "()V"⟩
abbrev cX12_in : ByteArray := prog_14_method_2_code
def yX12_in : MethodName := ⟨RX12, "in", "(III)Z"⟩
abbrev cX12_isShape : ByteArray := prog_14_method_3_code
def yX12_isShape : MethodName := ⟨RX12, "isShape", "(I)Z"⟩
abbrev cX12_has : ByteArray := prog_14_method_4_code
def yX12_has : MethodName := ⟨RX12, "has", "(III)Z"⟩
abbrev cX12_fill : ByteArray := prog_14_method_5_code
def yX12_fill : MethodName := ⟨RX12, "fill", "(IIIII)V"⟩
abbrev cX12_fits : ByteArray := prog_14_method_6_code
def yX12_fits : MethodName := ⟨RX12, "fits", "(IIII)Z"⟩
abbrev cX12_rect : ByteArray := prog_14_method_7_code
def yX12_rect : MethodName := ⟨RX12, "rect", "(IIIII)Z"⟩
abbrev cX12_point : ByteArray := prog_14_method_8_code
def yX12_point : MethodName := ⟨RX12, "point", "(II)Z"⟩
abbrev cX12_isRing : ByteArray := prog_14_method_9_code
def yX12_isRing : MethodName := ⟨RX12, "isRing", "()Z"⟩
abbrev cX12_isInside : ByteArray := prog_14_method_10_code
def yX12_isInside : MethodName := ⟨RX12, "isInside", "(II)Z"⟩
abbrev cX12_ring : ByteArray := prog_14_method_11_code
def yX12_ring : MethodName := ⟨RX12, "ring", "(I)Z"⟩
abbrev cX12_join : ByteArray := prog_14_method_12_code
def yX12_join : MethodName := ⟨RX12, "join", "(IIII)Z"⟩
abbrev cX12_size : ByteArray := prog_14_method_13_code
def yX12_size : MethodName := ⟨RX12, "size", "(III)Z"⟩
abbrev cX12_isPart : ByteArray := prog_14_method_14_code
def yX12_isPart : MethodName := ⟨RX12, "isPart", "(I)Z"⟩
abbrev cX12_box : ByteArray := prog_14_method_15_code
def yX12_box : MethodName := ⟨RX12, "box", "(IIIII)Z"⟩
abbrev cX12_at : ByteArray := prog_14_method_16_code
def yX12_at : MethodName := ⟨RX12, "at", "(III)Z"⟩
abbrev cX12_steps : ByteArray := prog_14_method_17_code
def yX12_steps : MethodName := ⟨RX12, "steps", "(II)Z"⟩
abbrev cX12_place : ByteArray := prog_14_method_18_code
def yX12_place : MethodName := ⟨RX12, "place", "(IIII)Z"⟩
abbrev cX12_clear : ByteArray := prog_14_method_19_code
def yX12_clear : MethodName := ⟨RX12, "clear", "(I)Z"⟩
abbrev cX12_count : ByteArray := prog_14_method_20_code
def yX12_count : MethodName := ⟨RX12, "count", "()V"⟩
abbrev cX12_put : ByteArray := prog_14_method_21_code
def yX12_put : MethodName := ⟨RX12, "put", "(IIIIIIII)I"⟩
abbrev cX12_layOut : ByteArray := prog_14_method_22_code
def yX12_layOut : MethodName := ⟨RX12, "layOut", "(III)V"⟩
abbrev cX12_expand : ByteArray := prog_14_method_23_code
def yX12_expand : MethodName := ⟨RX12, "expand", "(IIII)I"⟩
abbrev cX12_filled : ByteArray := prog_14_method_24_code
def yX12_filled : MethodName := ⟨RX12, "filled", "(III)Z"⟩
abbrev cX12_spread : ByteArray := prog_14_method_25_code
def yX12_spread : MethodName := ⟨RX12, "spread", "(IIZ)Z"⟩
abbrev cX12_islands : ByteArray := prog_14_method_26_code
def yX12_islands : MethodName := ⟨RX12, "islands", "(IZ)I"⟩
abbrev cX12_one : ByteArray := prog_14_method_27_code
def yX12_one : MethodName := ⟨RX12, "one", "(Z)I"⟩
abbrev cX12_isCorner : ByteArray := prog_14_method_28_code
def yX12_isCorner : MethodName := ⟨RX12, "isCorner", "(III)Z"⟩
abbrev cX12_isWithin : ByteArray := prog_14_method_29_code
def yX12_isWithin : MethodName := ⟨RX12, "isWithin", "(IIIZ)Z"⟩
abbrev cX12_look : ByteArray := prog_14_method_30_code
def yX12_look : MethodName := ⟨RX12, "look", "(I)V"⟩
abbrev cX12_chord : ByteArray := prog_14_method_31_code
def yX12_chord : MethodName := ⟨RX12, "chord", "(IIIZ)V"⟩
abbrev cX12_measure : ByteArray := prog_14_method_32_code
def yX12_measure : MethodName := ⟨RX12, "measure", "(II)I"⟩
abbrev cX12_fault : ByteArray := prog_14_method_33_code
def yX12_fault : MethodName := ⟨RX12, "fault", "(IIII)V"⟩
abbrev cX12_check : ByteArray := prog_14_method_34_code
def yX12_check : MethodName := ⟨RX12, "check", "(III)I"⟩
abbrev cX12_touch : ByteArray := prog_14_method_35_code
def yX12_touch : MethodName := ⟨RX12, "touch", "(II)Z"⟩
abbrev cX12_choose : ByteArray := prog_14_method_36_code
def yX12_choose : MethodName := ⟨RX12, "choose", "()I"⟩
abbrev cX12_takes : ByteArray := prog_14_method_37_code
def yX12_takes : MethodName := ⟨RX12, "takes", "(II)Z"⟩
abbrev cX12_isApart : ByteArray := prog_14_method_38_code
def yX12_isApart : MethodName := ⟨RX12, "isApart", "(I)Z"⟩
abbrev cX12_cut : ByteArray := prog_14_method_39_code
def yX12_cut : MethodName := ⟨RX12, "cut", "(IIZ)V"⟩
abbrev cX12_cutChords : ByteArray := prog_14_method_40_code
def yX12_cutChords : MethodName := ⟨RX12, "cutChords", "(I)V"⟩
abbrev cX12_cutOn : ByteArray := prog_14_method_41_code
def yX12_cutOn : MethodName := ⟨RX12, "cutOn", "(III)V"⟩
abbrev cX12_piece : ByteArray := prog_14_method_42_code
def yX12_piece : MethodName := ⟨RX12, "piece", "(III)V"⟩
abbrev cX12_split : ByteArray := prog_14_method_43_code
def yX12_split : MethodName := ⟨RX12, "split", "(I)I"⟩
abbrev cX12_item : ByteArray := prog_14_method_44_code
def yX12_item : MethodName := ⟨RX12, "item", "(III)I"⟩
abbrev cX12_tell : ByteArray := prog_14_method_45_code
def yX12_tell : MethodName := ⟨RX12, "tell", "(I)V"⟩
abbrev cX12_next : ByteArray := prog_14_method_46_code
def yX12_next : MethodName := ⟨RX12, "next", "(III)I"⟩
abbrev cX12_line : ByteArray := prog_14_method_47_code
def yX12_line : MethodName := ⟨RX12, "line", "(III)I"⟩
abbrev cX12_write : ByteArray := prog_14_method_48_code
def yX12_write : MethodName := ⟨RX12, "write", "()I"⟩
abbrev cX12_put_ : ByteArray := prog_14_method_49_code
def yX12_put_ : MethodName := ⟨RX12, "put", "(I)Z"⟩
abbrev cX12_byteAt : ByteArray := prog_14_method_50_code
def yX12_byteAt : MethodName := ⟨RX12, "byteAt", "(I)I"⟩
abbrev cX12_byteOf : ByteArray := prog_14_method_51_code
def yX12_byteOf : MethodName := ⟨RX12, "byteOf", "(I)I"⟩
abbrev cX12_lineAt : ByteArray := prog_14_method_52_code
def yX12_lineAt : MethodName := ⟨RX12, "lineAt", "(III)I"⟩
abbrev cX12_signed : ByteArray := prog_14_method_53_code
def yX12_signed : MethodName := ⟨RX12, "signed", "(I)I"⟩
abbrev cX12_scan : ByteArray := prog_14_method_54_code
def yX12_scan : MethodName := ⟨RX12, "scan", "(I)I"⟩
abbrev cX12_read : ByteArray := prog_14_method_55_code
def yX12_read : MethodName := ⟨RX12, "read", "(I)I"⟩
def RJ6 : String := "java/lang/Integer"
def TJ6 : u_T := fun k => match k with
  | _ => ("", "", "", false)
def tyJ6 : Nat → FieldType := fun k => match k with
  | _ => .int
abbrev wsJ60 : List Cond := u_ws RJ6 TJ6 0
theorem nmJ6 : ∀ a, a < 0 → ∀ b, b < 0 → a ≠ b → (TJ6 a).2.1 ≠ (TJ6 b).2.1 := by decide +kernel
theorem tyJ6_ok : ∀ k, k < 0 → parseFieldDescriptor (TJ6 k).2.2.1 = some (tyJ6 k) := by decide +kernel
abbrev cJ6_bitCount_0f7a4 : ByteArray := prog_15_method_49_code
def yJ6_bitCount_0f7a4 : MethodName := ⟨RJ6, "bitCount", "(I)I"⟩
def RJ9 : String := "java/lang/Math"
def TJ9 : u_T := fun k => match k with
  | _ => ("", "", "", false)
def tyJ9 : Nat → FieldType := fun k => match k with
  | _ => .int
abbrev wsJ90 : List Cond := u_ws RJ9 TJ9 0
theorem nmJ9 : ∀ a, a < 0 → ∀ b, b < 0 → a ≠ b → (TJ9 a).2.1 ≠ (TJ9 b).2.1 := by decide +kernel
theorem tyJ9_ok : ∀ k, k < 0 → parseFieldDescriptor (TJ9 k).2.2.1 = some (tyJ9 k) := by decide +kernel
abbrev cJ9_abs_0f7a4 : ByteArray := prog_16_method_59_code
def yJ9_abs_0f7a4 : MethodName := ⟨RJ9, "abs", "(I)I"⟩
abbrev cJ9_max_7cf53 : ByteArray := prog_16_method_65_code
def yJ9_max_7cf53 : MethodName := ⟨RJ9, "max", "(II)I"⟩
abbrev cJ9_min_7cf53 : ByteArray := prog_16_method_69_code
def yJ9_min_7cf53 : MethodName := ⟨RJ9, "min", "(II)I"⟩
def RL : String := "MaskDeskLaw"
abbrev cL_law : ByteArray := code
def yL_law : MethodName := ⟨RL, "law", "([I)Z"⟩
abbrev vwCl : List vw_C := [(RX0, TX0, 1), (RX1, TX1, 10), (RX2, TX2, 5), (RX3, TX3, 2), (RX4, TX4, 3), (RX5, TX5, 3), (RX6, TX6, 4), (RX7, TX7, 2), (RX8, TX8, 2), (RX9, TX9, 10), (RX10, TX10, 5), (RX11, TX11, 12), (RX12, TX12, 51)]
end
section
-- ===== tables of the small machine (by wip/whole/gen01.py) =====
def mm_cnL : List String := [RX0, RX1, RX2, RX3, RX4, RX5, RX6, RX7, RX8, RX9, RX10, RX11, RX12, RL, RJ6, RJ9]
def mm_cn (o : Nat) : String := mm_cnL.getD o ""
def mm_T (c : Nat) : u_T := match c with
  | 0 => TX0
  | 1 => TX1
  | 2 => TX2
  | 3 => TX3
  | 4 => TX4
  | 5 => TX5
  | 6 => TX6
  | 7 => TX7
  | 8 => TX8
  | 9 => TX9
  | 10 => TX10
  | 11 => TX11
  | _ => TX12
def mm_NL : List Nat := [1, 10, 5, 2, 3, 3, 4, 2, 2, 10, 5, 12, 51]
def mm_N (c : Nat) : Nat := mm_NL.getD c 0
def mm_fy (c : Nat) : Nat → FieldType := match c with
  | 0 => tyX0
  | 1 => tyX1
  | 2 => tyX2
  | 3 => tyX3
  | 4 => tyX4
  | 5 => tyX5
  | 6 => tyX6
  | 7 => tyX7
  | 8 => tyX8
  | 9 => tyX9
  | 10 => tyX10
  | 11 => tyX11
  | _ => tyX12
def mm_dfL : List (List Value) := [[.null], [.null, .null, .null, .null, .null, .null, .int 0, .int 0, .int 0, .int 0], [.null, .null, .null, .null, .null], [.null, .int 0], [.null, .null, .null], [.null, .null, .int 0], [.null, .null, .int 0, .int 0], [.null, .null], [.null, .int 0], [.int 0, .int 0, .int 0, .int 0, .int 0, .int 0, .int 0, .int 0, .int 0, .int 0], [.null, .null, .null, .int 0, .int 0], [.null, .null, .null, .null, .null, .null, .null, .null, .null, .null, .null, .null], [.null, .null, .null, .null, .int 0, .null, .null, .null, .null, .null, .null, .null, .null, .null, .null, .null, .null, .null, .null, .int 0, .int 0, .int 0, .int 0, .int 0, .null, .null, .null, .null, .int 0, .null, .null, .int 0, .null, .null, .null, .int 0, .int 0, .null, .null, .null, .null, .null, .null, .null, .int 0, .null, .int 0, .null, .int 0, .null, .int 0]]
def mm_df (c : Nat) : List Value := mm_dfL.getD c []
def mm_tyL : List FieldType := [.int, .boolean, .object "MaskDesk$Cells", .object "MaskDesk$Part"]
def mm_ty (t : Nat) : FieldType := mm_tyL.getD t .int
/-- the class of the elements of an array of references -/
def mm_tc (t : Nat) : Option Nat := [none, none, some 0, some 6].getD t none
def mm_fT : List ((Nat × Nat) × Nat × Nat × Nat) := [((0, 9), 0, 0, 94), ((1, 9), 1, 0, 172), ((1, 15), 1, 1, 173), ((1, 18), 1, 2, 174), ((1, 21), 1, 3, 175), ((1, 24), 1, 4, 176), ((1, 27), 1, 5, 177), ((1, 34), 1, 6, 178), ((1, 38), 1, 8, 180), ((1, 44), 1, 7, 179), ((1, 92), 1, 9, 181), ((2, 9), 2, 0, 211), ((2, 15), 2, 1, 212), ((2, 18), 2, 2, 213), ((2, 21), 2, 3, 214), ((2, 27), 2, 4, 215), ((3, 9), 3, 0, 233), ((3, 15), 3, 1, 234), ((4, 11), 4, 0, 141), ((4, 17), 4, 1, 142), ((4, 21), 4, 2, 143), ((5, 11), 5, 0, 105), ((5, 15), 5, 1, 106), ((5, 18), 5, 2, 107), ((6, 9), 6, 0, 128), ((6, 13), 6, 1, 129), ((6, 16), 6, 2, 130), ((6, 20), 6, 3, 131), ((7, 12), 7, 0, 159), ((7, 18), 7, 1, 160), ((8, 9), 8, 0, 246), ((8, 13), 8, 1, 247), ((9, 16), 9, 0, 283), ((9, 20), 9, 9, 292), ((9, 41), 9, 2, 285), ((9, 44), 9, 3, 286), ((9, 47), 9, 4, 287), ((9, 50), 9, 1, 284), ((9, 53), 9, 5, 288), ((9, 62), 9, 7, 290), ((9, 69), 9, 8, 291), ((9, 76), 9, 6, 289), ((10, 12), 10, 0, 261), ((10, 18), 10, 1, 262), ((10, 22), 10, 2, 263), ((10, 28), 10, 4, 265), ((10, 63), 10, 3, 264), ((11, 11), 11, 0, 314), ((11, 16), 11, 1, 315), ((11, 23), 11, 2, 316), ((11, 30), 11, 3, 317), ((11, 37), 11, 4, 318), ((11, 44), 11, 5, 319), ((11, 51), 11, 6, 320), ((11, 58), 11, 7, 321), ((11, 62), 11, 8, 322), ((11, 68), 11, 9, 323), ((11, 75), 11, 10, 324), ((11, 82), 11, 11, 325), ((12, 7), 12, 0, 927), ((12, 13), 12, 1, 928), ((12, 16), 12, 2, 929), ((12, 20), 12, 3, 930), ((12, 23), 12, 5, 932), ((12, 26), 12, 6, 933), ((12, 29), 12, 7, 934), ((12, 32), 12, 8, 935), ((12, 35), 12, 9, 936), ((12, 38), 12, 10, 937), ((12, 41), 12, 11, 938), ((12, 44), 12, 12, 939), ((12, 47), 12, 13, 940), ((12, 50), 12, 14, 941), ((12, 53), 12, 15, 942), ((12, 56), 12, 16, 943), ((12, 59), 12, 17, 944), ((12, 62), 12, 18, 945), ((12, 65), 12, 24, 951), ((12, 68), 12, 25, 952), ((12, 71), 12, 26, 953), ((12, 74), 12, 27, 954), ((12, 77), 12, 29, 956), ((12, 80), 12, 30, 957), ((12, 83), 12, 32, 959), ((12, 86), 12, 33, 960), ((12, 89), 12, 34, 961), ((12, 92), 12, 37, 964), ((12, 95), 12, 38, 965), ((12, 98), 12, 39, 966), ((12, 101), 12, 40, 967), ((12, 104), 12, 41, 968), ((12, 107), 12, 42, 969), ((12, 110), 12, 43, 970), ((12, 113), 12, 45, 972), ((12, 116), 12, 47, 974), ((12, 119), 12, 49, 976), ((12, 138), 12, 4, 931), ((12, 156), 12, 19, 946), ((12, 159), 12, 20, 947), ((12, 162), 12, 21, 948), ((12, 165), 12, 22, 949), ((12, 168), 12, 23, 950), ((12, 171), 12, 28, 955), ((12, 193), 12, 31, 958), ((12, 199), 12, 36, 963), ((12, 206), 12, 35, 962), ((12, 221), 12, 46, 973), ((12, 241), 12, 44, 971), ((12, 257), 12, 50, 977), ((12, 270), 12, 48, 975)]
def mm_nT : List ((Nat × Nat) × Nat × Nat) := [((2, 24), 0, 209), ((4, 9), 6, 121), ((7, 9), 0, 157), ((10, 9), 8, 259), ((11, 9), 0, 87), ((11, 20), 5, 99), ((11, 27), 4, 115), ((11, 34), 7, 151), ((11, 41), 1, 166), ((11, 48), 2, 203), ((11, 55), 3, 227), ((11, 65), 8, 240), ((11, 72), 10, 253), ((11, 79), 9, 277), ((13, 7), 11, 79), ((13, 10), 12, 921)]
def mm_aT : List ((Nat × Nat) × Nat × Nat × Nat) := [((4, 9), 3, 121, 122), ((11, 9), 2, 87, 88)]
def mm_cT : List ((Nat × Nat) × Int32 × Nat) := [((0, 28), 65535, 420), ((5, 50), 65535, 415), ((7, 43), 32769, 627), ((7, 69), 65535, 686), ((14, 265), 1431655765, 592), ((14, 266), 858993459, 593), ((14, 267), 252645135, 594)]
def mm_mT : List ((Nat × Nat) × Nat × Nat × Nat × Nat) := [((0, 15), 2, 0, 0, 455), ((0, 19), 142, 1, 1, 578), ((0, 23), 201, 1, 0, 589), ((0, 29), 143, 1, 1, 365), ((0, 33), 145, 1, 1, 366), ((0, 37), 15, 1, 0, 437), ((1, 30), 29, 0, 0, 632), ((1, 41), 30, 0, 0, 637), ((1, 47), 31, 0, 0, 654), ((1, 50), 201, 1, 0, 666), ((1, 56), 142, 1, 1, 645), ((1, 60), 2, 0, 0, 636), ((1, 65), 32, 0, 0, 641), ((1, 68), 144, 1, 1, 646), ((1, 72), 33, 0, 0, 650), ((1, 76), 3, 0, 0, 658), ((1, 79), 21, 0, 0, 710), ((1, 83), 35, 0, 0, 711), ((1, 86), 37, 0, 0, 719), ((1, 89), 36, 0, 0, 715), ((1, 95), 38, 0, 0, 723), ((2, 26), 1, 2, 1, 210), ((2, 31), 23, 0, 0, 731), ((2, 37), 20, 0, 0, 735), ((2, 41), 24, 0, 0, 736), ((2, 45), 41, 0, 0, 740), ((2, 49), 142, 1, 1, 769), ((2, 53), 2, 0, 0, 770), ((2, 56), 44, 0, 0, 771), ((2, 60), 26, 0, 0, 744), ((2, 63), 27, 0, 0, 748), ((2, 66), 28, 0, 0, 752), ((2, 69), 25, 0, 0, 756), ((2, 72), 42, 0, 0, 760), ((2, 75), 43, 0, 0, 765), ((2, 78), 145, 1, 1, 764), ((2, 82), 49, 0, 0, 779), ((2, 87), 8, 0, 0, 780), ((2, 91), 4, 0, 0, 781), ((2, 94), 46, 0, 0, 782), ((2, 97), 47, 0, 0, 786), ((2, 100), 13, 0, 0, 790), ((2, 104), 51, 0, 0, 794), ((4, 24), 75, 2, 1, 124), ((4, 25), 79, 0, 0, 471), ((4, 29), 80, 0, 0, 499), ((4, 33), 76, 0, 0, 511), ((4, 36), 77, 0, 0, 523), ((4, 40), 78, 0, 0, 527), ((4, 43), 82, 0, 0, 531), ((4, 52), 7, 0, 0, 540), ((4, 55), 61, 0, 0, 541), ((4, 59), 63, 1, 0, 545), ((4, 63), 62, 0, 0, 563), ((4, 67), 66, 1, 0, 567), ((4, 70), 64, 1, 0, 552), ((4, 74), 65, 1, 0, 555), ((4, 77), 81, 0, 0, 548), ((4, 84), 143, 1, 1, 561), ((4, 87), 12, 0, 0, 562), ((5, 22), 72, 0, 0, 385), ((5, 26), 73, 0, 0, 389), ((5, 30), 74, 0, 0, 393), ((5, 33), 7, 0, 0, 401), ((5, 47), 2, 0, 0, 411), ((5, 51), 6, 0, 0, 416), ((7, 11), 1, 2, 1, 158), ((7, 21), 8, 0, 0, 599), ((7, 25), 86, 0, 0, 600), ((7, 29), 9, 0, 0, 623), ((7, 32), 7, 0, 0, 605), ((7, 35), 2, 0, 0, 604), ((7, 39), 6, 0, 0, 606), ((7, 44), 87, 0, 0, 607), ((7, 48), 11, 0, 0, 615), ((7, 51), 88, 0, 0, 611), ((7, 55), 49, 0, 0, 679), ((7, 58), 90, 1, 0, 683), ((7, 62), 51, 0, 0, 689), ((7, 66), 3, 0, 0, 693), ((7, 70), 142, 1, 1, 687), ((7, 74), 144, 1, 1, 688), ((8, 17), 94, 0, 0, 884), ((9, 9), 7, 0, 0, 893), ((9, 23), 93, 0, 0, 894), ((9, 29), 95, 0, 0, 895), ((9, 33), 100, 0, 0, 896), ((9, 37), 101, 0, 0, 900), ((9, 56), 102, 0, 0, 904), ((9, 59), 103, 1, 0, 913), ((9, 65), 104, 0, 0, 916), ((9, 72), 105, 0, 0, 908), ((9, 79), 12, 0, 0, 912), ((10, 11), 91, 2, 1, 260), ((10, 25), 92, 0, 0, 811), ((10, 32), 110, 1, 0, 815), ((10, 36), 111, 0, 0, 823), ((10, 40), 117, 0, 0, 831), ((10, 44), 52, 0, 0, 822), ((10, 50), 50, 0, 0, 818), ((10, 54), 109, 1, 0, 819), ((10, 57), 112, 0, 0, 827), ((10, 60), 113, 0, 0, 839), ((10, 67), 114, 0, 0, 843), ((10, 71), 116, 0, 0, 851), ((10, 75), 115, 0, 0, 847), ((10, 79), 96, 0, 0, 835), ((11, 15), 1, 2, 1, 90), ((11, 22), 67, 2, 1, 101), ((11, 29), 53, 2, 0, 117), ((11, 36), 83, 2, 1, 153), ((11, 43), 18, 2, 1, 168), ((11, 50), 39, 2, 1, 205), ((11, 57), 48, 2, 1, 229), ((11, 67), 91, 2, 1, 242), ((11, 74), 106, 2, 1, 255), ((11, 81), 98, 2, 1, 279), ((11, 86), 139, 1, 0, 355), ((11, 90), 143, 1, 0, 358), ((11, 94), 12, 0, 0, 361), ((11, 98), 68, 0, 0, 373), ((11, 102), 70, 0, 0, 381), ((11, 106), 71, 0, 0, 397), ((11, 110), 10, 0, 0, 421), ((11, 113), 69, 0, 0, 425), ((11, 116), 14, 0, 0, 433), ((11, 120), 141, 1, 0, 444), ((11, 123), 8, 0, 0, 447), ((11, 126), 16, 0, 0, 451), ((11, 129), 17, 0, 0, 456), ((11, 132), 140, 1, 0, 464), ((11, 135), 54, 0, 0, 467), ((11, 139), 55, 0, 0, 479), ((11, 143), 56, 0, 0, 487), ((11, 147), 57, 0, 0, 495), ((11, 150), 58, 0, 0, 507), ((11, 154), 59, 0, 0, 519), ((11, 158), 60, 0, 0, 536), ((11, 162), 4, 0, 0, 574), ((11, 165), 5, 0, 0, 585), ((11, 169), 84, 0, 0, 595), ((11, 173), 85, 0, 0, 619), ((11, 176), 19, 0, 0, 628), ((11, 179), 22, 0, 0, 662), ((11, 182), 20, 0, 0, 667), ((11, 183), 89, 0, 0, 675), ((11, 187), 50, 0, 0, 694), ((11, 188), 21, 0, 0, 702), ((11, 191), 34, 0, 0, 706), ((11, 194), 40, 0, 0, 727), ((11, 198), 45, 0, 0, 775), ((11, 202), 52, 0, 0, 799), ((11, 206), 108, 0, 0, 807), ((11, 210), 107, 0, 0, 855), ((11, 214), 97, 0, 0, 859), ((11, 217), 93, 0, 0, 863), ((11, 218), 96, 0, 0, 871), ((11, 221), 94, 0, 0, 876), ((11, 223), 95, 0, 0, 880), ((11, 225), 99, 0, 0, 889), ((11, 229), 92, 0, 0, 920), ((11, 230), 142, 1, 0, 649), ((12, 122), 147, 1, 0, 1089), ((12, 126), 148, 1, 0, 1086), ((12, 130), 151, 1, 0, 1092), ((12, 134), 150, 0, 0, 1095), ((12, 142), 154, 0, 0, 1107), ((12, 146), 155, 0, 0, 1111), ((12, 150), 149, 0, 0, 1123), ((12, 153), 159, 1, 0, 1131), ((12, 174), 166, 0, 0, 1162), ((12, 178), 165, 0, 0, 1154), ((12, 181), 167, 0, 0, 1158), ((12, 185), 170, 0, 0, 1181), ((12, 189), 172, 1, 0, 1174), ((12, 196), 173, 0, 0, 1189), ((12, 202), 176, 0, 0, 1193), ((12, 209), 174, 0, 0, 1197), ((12, 213), 171, 0, 0, 1177), ((12, 217), 175, 0, 0, 1185), ((12, 224), 178, 0, 0, 1205), ((12, 228), 183, 0, 0, 1217), ((12, 231), 182, 0, 0, 1221), ((12, 234), 180, 0, 0, 1225), ((12, 237), 184, 0, 0, 1233), ((12, 244), 181, 0, 0, 1213), ((12, 248), 185, 0, 0, 1229), ((12, 251), 186, 0, 0, 1237), ((12, 254), 187, 0, 0, 1241), ((12, 260), 191, 0, 0, 1253), ((12, 264), 190, 0, 0, 1257), ((12, 267), 192, 0, 0, 1261), ((12, 273), 196, 0, 0, 1281), ((12, 277), 198, 1, 0, 1289), ((12, 280), 197, 0, 0, 1285), ((12, 283), 199, 0, 0, 1277), ((13, 9), 118, 2, 0, 81), ((13, 12), 146, 2, 0, 923), ((13, 13), 119, 0, 0, 351), ((13, 17), 152, 0, 0, 1082), ((13, 18), 120, 0, 0, 369), ((13, 22), 153, 0, 0, 1099), ((13, 23), 121, 0, 0, 377), ((13, 27), 156, 0, 0, 1103), ((13, 28), 122, 0, 0, 429), ((13, 32), 157, 0, 0, 1115), ((13, 33), 123, 0, 0, 440), ((13, 37), 158, 0, 0, 1119), ((13, 38), 124, 0, 0, 460), ((13, 41), 160, 0, 0, 1127), ((13, 42), 125, 0, 0, 475), ((13, 45), 161, 0, 0, 1134), ((13, 46), 126, 0, 0, 483), ((13, 49), 162, 0, 0, 1138), ((13, 50), 127, 0, 0, 491), ((13, 53), 163, 0, 0, 1142), ((13, 54), 128, 0, 0, 503), ((13, 57), 164, 0, 0, 1146), ((13, 58), 129, 0, 0, 515), ((13, 62), 168, 0, 0, 1150), ((13, 63), 130, 0, 0, 570), ((13, 66), 169, 0, 0, 1166), ((13, 67), 131, 0, 0, 581), ((13, 71), 177, 0, 0, 1170), ((13, 72), 132, 0, 0, 671), ((13, 76), 179, 0, 0, 1201), ((13, 77), 133, 0, 0, 698), ((13, 81), 188, 0, 0, 1209), ((13, 82), 134, 0, 0, 795), ((13, 85), 189, 0, 0, 1245), ((13, 86), 135, 0, 0, 803), ((13, 90), 193, 0, 0, 1249), ((13, 91), 136, 0, 0, 867), ((13, 94), 194, 0, 0, 1265), ((13, 95), 137, 0, 0, 872), ((13, 98), 195, 0, 0, 1269), ((13, 99), 138, 0, 0, 885), ((13, 102), 200, 0, 0, 1273)]
def mm_jT : List ((Nat × Nat) × Nat × Nat) := [((4, 47), 1, 535), ((4, 80), 2, 558), ((5, 38), 0, 405), ((5, 44), 1, 408)]
def mm_oT : List ((Nat × Nat) × Nat) := [((0, 3), 93), ((1, 3), 171), ((2, 3), 208), ((3, 3), 232), ((4, 3), 120), ((5, 3), 104), ((6, 1), 127), ((7, 3), 156), ((8, 1), 245), ((9, 3), 282), ((10, 3), 258), ((11, 3), 84), ((12, 1), 926)]
def mm_ciL : List (Nat × Nat) := [(89, 65), (167, 70), (204, 71), (228, 72), (116, 67), (100, 66), (123, 68), (152, 69), (241, 73), (278, 75), (254, 74), (80, 64), (922, 76)]
def mm_fp0 : List Nat := [95]
def mm_fp1 : List Nat := [182, 184, 186, 188, 190, 192, 194, 196, 198, 200]
def mm_fp2 : List Nat := [216, 218, 220, 222, 224]
def mm_fp3 : List Nat := [235, 237]
def mm_fp4 : List Nat := [144, 146, 148]
def mm_fp5 : List Nat := [108, 110, 112]
def mm_fp6 : List Nat := [132, 134, 136, 138]
def mm_fp7 : List Nat := [161, 163]
def mm_fp8 : List Nat := [248, 250]
def mm_fp9 : List Nat := [293, 295, 297, 299, 301, 303, 305, 307, 309, 311]
def mm_fp10 : List Nat := [266, 268, 270, 272, 274]
def mm_fp11 : List Nat := [326, 328, 330, 332, 334, 336, 338, 340, 342, 344, 346, 348]
def mm_fp12 : List Nat := [978, 980, 982, 984, 986, 988, 990, 992, 994, 996, 998, 1000, 1002, 1004, 1006, 1008, 1010, 1012, 1014, 1016, 1018, 1020, 1022, 1024, 1026, 1028, 1030, 1032, 1034, 1036, 1038, 1040, 1042, 1044, 1046, 1048, 1050, 1052, 1054, 1056, 1058, 1060, 1062, 1064, 1066, 1068, 1070, 1072, 1074, 1076, 1078]
def mm_yL : List MethodName := [yL_law, yX0_init, yX0_row, yX0_column, yX0_holds, yX0_count, yX0_setRow, yX0_wipe, yX0_become, yX0_becomeAllBut, yX0_addAll, yX0_removeAll, yX0_addRectangle, yX0_removeRectangle, yX0_combine, yX0_combineRows, yX0_growByOne, yX0_shrinkByOne, yX1_init, yX1_find, yX1_count, yX1_areAllKept, yX1_countCorners, yX1_cornerRow, yX1_isChosen, yX1_isLevel, yX1_line, yX1_start, yX1_end, yX1_findCorners, yX1_findLevel, yX1_findUpright, yX1_isCorner, yX1_keep, yX1_choose, yX1_findTouching, yX1_touch, yX1_greatestAmong, yX1_findPartner, yX2_init, yX2_cut, yX2_cutChord, yX2_cutLevel, yX2_cutUpright, yX2_cutFrom, yX2_collect, yX2_widthFrom, yX2_heightFrom, yX3_init, yX3_wipe, yX3_count, yX3_append, yX3_value, yX4_init, yX4_addBox, yX4_setPlace, yX4_setSteps, yX4_addPlacement, yX4_wipePart, yX4_countAll, yX4_layAll, yX4_layPart, yX4_layCopies, yX4_layBox, yX4_turnedX, yX4_turnedY, yX4_turnAfter, yX5_init, yX5_addPoint, yX5_wipe, yX5_isRing, yX5_findInside, yX5_after, yX5_isLevel, yX5_isUpright, yX6_init, yX6_wipe, yX6_countBoxes, yX6_countPlacements, yX6_addBox, yX6_addPlacement, yX6_boxField, yX6_placementField, yX7_init, yX7_countIslands, yX7_countHoles, yX7_countGroups, yX7_flood, yX7_spreadInto, yX7_findFaults, yX7_faultLength, yX8_init, yX8_wipe, yX8_count, yX8_holds, yX8_value, yX8_append, yX8_become, yX9_init, yX9_decode, yX9_accept, yX9_acceptWidth, yX9_acceptCount, yX9_signed, yX9_endsOnPlate, yX9_finishLine, yX10_init, yX10_drafted, yX10_draft, yX10_kindOf, yX10_kindAfter, yX10_writeGroup, yX10_gather, yX10_countLines, yX10_lineEndFrom, yX10_isSameStep, yX10_writeLine, yX10_emit, yX11_init, yX11_rect, yX11_point, yX11_ring, yX11_join, yX11_size, yX11_box, yX11_at, yX11_steps, yX11_place, yX11_clear, yX11_expand, yX11_filled, yX11_measure, yX11_check, yX11_split, yX11_item, yX11_write, yX11_put, yX11_byteAt, yX11_read, yX11_isShape, yX11_isPart, yX11_isUpTo, yX11_isBit, yX11_liesOnPlate, yX11_runEnd, yX11_span, yX12_init, yX12_in, yX12_isShape, yX12_has, yX12_fill, yX12_fits, yX12_rect, yX12_point, yX12_isRing, yX12_isInside, yX12_ring, yX12_join, yX12_size, yX12_isPart, yX12_box, yX12_at, yX12_steps, yX12_place, yX12_clear, yX12_count, yX12_put, yX12_layOut, yX12_expand, yX12_filled, yX12_spread, yX12_islands, yX12_one, yX12_isCorner, yX12_isWithin, yX12_look, yX12_chord, yX12_measure, yX12_fault, yX12_check, yX12_touch, yX12_choose, yX12_takes, yX12_isApart, yX12_cut, yX12_cutChords, yX12_cutOn, yX12_piece, yX12_split, yX12_item, yX12_tell, yX12_next, yX12_line, yX12_write, yX12_put_, yX12_byteAt, yX12_byteOf, yX12_lineAt, yX12_signed, yX12_scan, yX12_read, yJ6_bitCount_0f7a4, yJ9_abs_0f7a4, yJ9_max_7cf53, yJ9_min_7cf53]
def mm_byL : List ByteArray := [code, prog_2_method_1_code, prog_2_method_2_code, prog_2_method_3_code, prog_2_method_4_code, prog_2_method_5_code, prog_2_method_6_code, prog_2_method_7_code, prog_2_method_8_code, prog_2_method_9_code, prog_2_method_10_code, prog_2_method_11_code, prog_2_method_12_code, prog_2_method_13_code, prog_2_method_14_code, prog_2_method_15_code, prog_2_method_16_code, prog_2_method_17_code, prog_3_method_1_code, prog_3_method_2_code, prog_3_method_3_code, prog_3_method_4_code, prog_3_method_5_code, prog_3_method_6_code, prog_3_method_7_code, prog_3_method_8_code, prog_3_method_9_code, prog_3_method_10_code, prog_3_method_11_code, prog_3_method_12_code, prog_3_method_13_code, prog_3_method_14_code, prog_3_method_15_code, prog_3_method_16_code, prog_3_method_17_code, prog_3_method_18_code, prog_3_method_19_code, prog_3_method_20_code, prog_3_method_21_code, prog_4_method_1_code, prog_4_method_2_code, prog_4_method_3_code, prog_4_method_4_code, prog_4_method_5_code, prog_4_method_6_code, prog_4_method_7_code, prog_4_method_8_code, prog_4_method_9_code, prog_5_method_1_code, prog_5_method_2_code, prog_5_method_3_code, prog_5_method_4_code, prog_5_method_5_code, prog_6_method_1_code, prog_6_method_2_code, prog_6_method_3_code, prog_6_method_4_code, prog_6_method_5_code, prog_6_method_6_code, prog_6_method_7_code, prog_6_method_8_code, prog_6_method_9_code, prog_6_method_10_code, prog_6_method_11_code, prog_6_method_12_code, prog_6_method_13_code, prog_6_method_14_code, prog_7_method_1_code, prog_7_method_2_code, prog_7_method_3_code, prog_7_method_4_code, prog_7_method_5_code, prog_7_method_6_code, prog_7_method_7_code, prog_7_method_8_code, prog_8_method_1_code, prog_8_method_2_code, prog_8_method_3_code, prog_8_method_4_code, prog_8_method_5_code, prog_8_method_6_code, prog_8_method_7_code, prog_8_method_8_code, prog_9_method_1_code, prog_9_method_2_code, prog_9_method_3_code, prog_9_method_4_code, prog_9_method_5_code, prog_9_method_6_code, prog_9_method_7_code, prog_9_method_8_code, prog_10_method_1_code, prog_10_method_2_code, prog_10_method_3_code, prog_10_method_4_code, prog_10_method_5_code, prog_10_method_6_code, prog_10_method_7_code, prog_11_method_1_code, prog_11_method_2_code, prog_11_method_3_code, prog_11_method_4_code, prog_11_method_5_code, prog_11_method_6_code, prog_11_method_7_code, prog_11_method_8_code, prog_12_method_1_code, prog_12_method_2_code, prog_12_method_3_code, prog_12_method_4_code, prog_12_method_5_code, prog_12_method_6_code, prog_12_method_7_code, prog_12_method_8_code, prog_12_method_9_code, prog_12_method_10_code, prog_12_method_11_code, prog_12_method_12_code, prog_1_method_1_code, prog_1_method_2_code, prog_1_method_3_code, prog_1_method_4_code, prog_1_method_5_code, prog_1_method_6_code, prog_1_method_7_code, prog_1_method_8_code, prog_1_method_9_code, prog_1_method_10_code, prog_1_method_11_code, prog_1_method_12_code, prog_1_method_13_code, prog_1_method_14_code, prog_1_method_15_code, prog_1_method_16_code, prog_1_method_17_code, prog_1_method_18_code, prog_1_method_19_code, prog_1_method_20_code, prog_1_method_21_code, prog_1_method_22_code, prog_1_method_23_code, prog_1_method_24_code, prog_1_method_25_code, prog_1_method_26_code, prog_1_method_27_code, prog_1_method_28_code, prog_14_method_1_code, prog_14_method_2_code, prog_14_method_3_code, prog_14_method_4_code, prog_14_method_5_code, prog_14_method_6_code, prog_14_method_7_code, prog_14_method_8_code, prog_14_method_9_code, prog_14_method_10_code, prog_14_method_11_code, prog_14_method_12_code, prog_14_method_13_code, prog_14_method_14_code, prog_14_method_15_code, prog_14_method_16_code, prog_14_method_17_code, prog_14_method_18_code, prog_14_method_19_code, prog_14_method_20_code, prog_14_method_21_code, prog_14_method_22_code, prog_14_method_23_code, prog_14_method_24_code, prog_14_method_25_code, prog_14_method_26_code, prog_14_method_27_code, prog_14_method_28_code, prog_14_method_29_code, prog_14_method_30_code, prog_14_method_31_code, prog_14_method_32_code, prog_14_method_33_code, prog_14_method_34_code, prog_14_method_35_code, prog_14_method_36_code, prog_14_method_37_code, prog_14_method_38_code, prog_14_method_39_code, prog_14_method_40_code, prog_14_method_41_code, prog_14_method_42_code, prog_14_method_43_code, prog_14_method_44_code, prog_14_method_45_code, prog_14_method_46_code, prog_14_method_47_code, prog_14_method_48_code, prog_14_method_49_code, prog_14_method_50_code, prog_14_method_51_code, prog_14_method_52_code, prog_14_method_53_code, prog_14_method_54_code, prog_14_method_55_code, prog_15_method_49_code, prog_16_method_59_code, prog_16_method_65_code, prog_16_method_69_code]
def mm_mxL : List Nat := [4, 1, 2, 4, 3, 3, 3, 2, 3, 3, 3, 3, 6, 6, 5, 3, 6, 6, 1, 2, 1, 1, 3, 2, 2, 2, 2, 2, 2, 7, 6, 6, 3, 4, 5, 3, 3, 4, 5, 1, 5, 6, 4, 5, 5, 7, 4, 4, 1, 1, 1, 5, 3, 2, 6, 4, 3, 5, 2, 7, 5, 8, 16, 16, 3, 3, 4, 1, 3, 1, 3, 6, 2, 2, 2, 1, 1, 1, 1, 6, 4, 3, 3, 1, 2, 3, 5, 5, 9, 9, 6, 1, 1, 1, 2, 2, 2, 3, 1, 4, 3, 2, 3, 1, 5, 4, 1, 1, 4, 2, 5, 5, 4, 4, 3, 3, 3, 2, 2, 6, 3, 3, 5, 5, 6, 4, 3, 5, 2, 6, 4, 3, 4, 2, 4, 1, 2, 2, 3, 1, 1, 2, 2, 4, 3, 2, 1, 3, 1, 4, 7, 4, 6, 3, 7, 7, 4, 8, 11, 1, 7, 4, 3, 6, 2, 4, 9, 18, 6, 4, 13, 6, 1, 4, 5, 3, 8, 5, 5, 14, 3, 6, 3, 4, 4, 5, 9, 7, 3, 5, 2, 5, 10, 6, 2, 2, 2, 7, 1, 13, 4, 1, 1, 2, 2]
def mm_rtL : List (Option FieldType) := [some .boolean, none, some .int, some .int, some .boolean, some .int, none, none, none, none, none, none, none, none, none, some .int, none, none, none, none, some .int, some .boolean, some .int, some .int, some .boolean, some .boolean, some .int, some .int, some .int, none, none, none, some .boolean, none, none, none, some .boolean, some .int, some .boolean, none, none, none, none, none, none, none, some .int, some .int, none, none, some .int, none, some .int, none, some .boolean, none, none, some .boolean, none, some .int, some .boolean, some .boolean, some .boolean, some .boolean, some .int, some .int, some .int, none, some .boolean, none, some .boolean, none, some .int, some .boolean, some .boolean, none, none, some .int, some .int, some .boolean, some .boolean, some .int, some .int, none, some .int, some .int, some .int, none, some .boolean, none, some .int, none, none, some .int, some .boolean, some .int, some .boolean, none, none, some .int, some .boolean, some .boolean, some .boolean, some .int, some .boolean, some .boolean, none, some (.object "MaskDesk$Tape"), some .boolean, some .int, some .int, none, none, some .int, some .int, some .boolean, none, none, none, some .boolean, some .boolean, some .boolean, some .boolean, some .boolean, some .boolean, some .boolean, some .boolean, some .boolean, some .boolean, some .int, some .boolean, some .int, some .int, some .int, some .int, some .int, some .boolean, some .int, some .int, some .boolean, some .boolean, some .boolean, some .boolean, some .boolean, some .int, some .int, none, some .boolean, some .boolean, some .boolean, none, some .boolean, some .boolean, some .boolean, some .boolean, some .boolean, some .boolean, some .boolean, some .boolean, some .boolean, some .boolean, some .boolean, some .boolean, some .boolean, some .boolean, none, some .int, none, some .int, some .boolean, some .boolean, some .int, some .int, some .boolean, some .boolean, none, none, some .int, none, some .int, some .boolean, some .int, some .boolean, some .boolean, none, none, none, none, some .int, some .int, none, some .int, some .int, some .int, some .boolean, some .int, some .int, some .int, some .int, some .int, some .int, some .int, some .int, some .int, some .int]
def mm_owL : List Nat := [13, 0, 0, 0, 0, 0, 0, 0, 0, 0, 0, 0, 0, 0, 0, 0, 0, 0, 1, 1, 1, 1, 1, 1, 1, 1, 1, 1, 1, 1, 1, 1, 1, 1, 1, 1, 1, 1, 1, 2, 2, 2, 2, 2, 2, 2, 2, 2, 3, 3, 3, 3, 3, 4, 4, 4, 4, 4, 4, 4, 4, 4, 4, 4, 4, 4, 4, 5, 5, 5, 5, 5, 5, 5, 5, 6, 6, 6, 6, 6, 6, 6, 6, 7, 7, 7, 7, 7, 7, 7, 7, 8, 8, 8, 8, 8, 8, 8, 9, 9, 9, 9, 9, 9, 9, 9, 10, 10, 10, 10, 10, 10, 10, 10, 10, 10, 10, 10, 11, 11, 11, 11, 11, 11, 11, 11, 11, 11, 11, 11, 11, 11, 11, 11, 11, 11, 11, 11, 11, 11, 11, 11, 11, 11, 11, 11, 12, 12, 12, 12, 12, 12, 12, 12, 12, 12, 12, 12, 12, 12, 12, 12, 12, 12, 12, 12, 12, 12, 12, 12, 12, 12, 12, 12, 12, 12, 12, 12, 12, 12, 12, 12, 12, 12, 12, 12, 12, 12, 12, 12, 12, 12, 12, 12, 12, 12, 12, 12, 12, 12, 12, 14, 15, 15, 15]
def mm_npL : List Nat := [1, 0, 1, 1, 2, 0, 2, 0, 1, 1, 1, 1, 4, 4, 3, 3, 0, 0, 0, 1, 0, 0, 0, 1, 1, 1, 1, 1, 1, 1, 1, 1, 2, 3, 0, 0, 2, 1, 3, 0, 2, 2, 3, 3, 3, 2, 2, 2, 0, 0, 0, 4, 2, 0, 5, 3, 2, 4, 1, 1, 4, 5, 6, 6, 3, 3, 2, 0, 2, 0, 0, 1, 1, 1, 1, 0, 0, 0, 0, 4, 1, 2, 2, 0, 1, 1, 1, 1, 2, 4, 4, 0, 0, 0, 1, 1, 1, 1, 0, 2, 2, 1, 2, 1, 3, 1, 0, 0, 1, 2, 2, 2, 2, 0, 1, 2, 2, 1, 0, 5, 2, 1, 4, 3, 5, 3, 2, 4, 1, 4, 3, 2, 3, 1, 3, 0, 1, 1, 1, 1, 1, 2, 2, 4, 2, 2, 0, 3, 1, 3, 5, 4, 5, 2, 0, 2, 1, 4, 3, 1, 5, 3, 2, 4, 1, 0, 8, 3, 4, 3, 3, 2, 1, 3, 4, 1, 4, 2, 4, 3, 2, 0, 2, 1, 3, 1, 3, 3, 1, 3, 1, 3, 3, 0, 1, 1, 1, 3, 1, 1, 1, 1, 1, 2, 2]
def mm_inL : List Bool := [false, true, false, false, false, false, false, false, false, false, false, false, false, false, false, false, false, false, true, false, false, false, false, false, false, false, false, false, false, false, false, false, false, false, false, false, false, false, false, true, false, false, false, false, false, false, false, false, true, false, false, false, false, true, false, false, false, false, false, false, false, false, false, false, false, false, false, true, false, false, false, false, false, false, false, true, false, false, false, false, false, false, false, true, false, false, false, false, false, false, false, true, false, false, false, false, false, false, true, false, false, false, false, false, false, false, true, false, false, false, false, false, false, false, false, false, false, false, true, false, false, false, false, false, false, false, false, false, false, false, false, false, false, false, false, false, false, false, false, false, false, false, false, false, false, false, true, false, false, false, false, false, false, false, false, false, false, false, false, false, false, false, false, false, false, false, false, false, false, false, false, false, false, false, false, false, false, false, false, false, false, false, false, false, false, false, false, false, false, false, false, false, false, false, false, false, false, false, false, false, false, false, false, false, false]
def mm_poL : List (Nat × Nat × Nat × Nat) := [(0, 0, 0, 63), (92, 91, 0, 65), (414, 412, 413, 65), (661, 659, 660, 65), (577, 575, 576, 65), (588, 586, 587, 65), (419, 417, 418, 65), (404, 402, 403, 65), (450, 448, 449, 65), (626, 624, 625, 65), (424, 422, 423, 65), (618, 616, 617, 65), (364, 362, 363, 65), (793, 791, 792, 65), (436, 434, 435, 65), (439, 438, 0, 65), (454, 452, 453, 65), (459, 457, 458, 65), (170, 169, 0, 70), (631, 629, 630, 70), (670, 668, 669, 70), (705, 703, 704, 70), (665, 663, 664, 70), (734, 732, 733, 70), (739, 737, 738, 70), (759, 757, 758, 70), (747, 745, 746, 70), (751, 749, 750, 70), (755, 753, 754, 70), (635, 634, 8, 70), (640, 639, 9, 70), (657, 656, 12, 70), (644, 643, 10, 70), (653, 652, 11, 70), (709, 707, 708, 70), (714, 713, 13, 70), (718, 717, 14, 70), (722, 721, 15, 70), (726, 725, 16, 70), (207, 206, 0, 71), (730, 728, 729, 71), (743, 742, 17, 71), (763, 762, 18, 71), (768, 767, 19, 71), (774, 773, 20, 71), (778, 776, 777, 71), (785, 784, 21, 71), (789, 788, 22, 71), (231, 230, 0, 72), (682, 680, 681, 72), (697, 695, 696, 72), (692, 690, 691, 72), (802, 800, 801, 72), (119, 118, 0, 67), (470, 468, 469, 67), (482, 480, 481, 67), (490, 488, 489, 67), (498, 496, 497, 67), (510, 508, 509, 67), (522, 520, 521, 67), (539, 537, 538, 67), (544, 543, 3, 67), (566, 565, 4, 67), (547, 546, 0, 67), (554, 553, 0, 67), (557, 556, 0, 67), (569, 568, 0, 67), (103, 102, 0, 66), (376, 374, 375, 66), (428, 426, 427, 66), (384, 382, 383, 66), (400, 398, 399, 66), (388, 387, 0, 66), (392, 391, 1, 66), (396, 395, 2, 66), (126, 125, 0, 68), (514, 512, 513, 68), (526, 524, 525, 68), (530, 528, 529, 68), (474, 472, 473, 68), (502, 500, 501, 68), (551, 549, 550, 68), (534, 532, 533, 68), (155, 154, 0, 69), (598, 596, 597, 69), (622, 620, 621, 69), (603, 602, 5, 69), (610, 609, 6, 69), (614, 613, 7, 69), (678, 676, 677, 69), (685, 684, 0, 69), (244, 243, 0, 73), (814, 812, 813, 73), (866, 864, 865, 73), (879, 877, 878, 73), (883, 881, 882, 73), (838, 836, 837, 73), (862, 860, 861, 73), (281, 280, 0, 75), (892, 890, 891, 75), (899, 898, 30, 75), (903, 902, 31, 75), (907, 906, 32, 75), (915, 914, 0, 75), (919, 918, 34, 75), (911, 910, 33, 75), (257, 256, 0, 74), (858, 856, 857, 74), (810, 808, 809, 74), (821, 820, 0, 74), (817, 816, 0, 74), (826, 825, 23, 74), (830, 829, 24, 74), (842, 841, 26, 74), (846, 845, 27, 74), (850, 849, 28, 74), (854, 853, 29, 74), (834, 833, 25, 74), (83, 82, 0, 64), (354, 352, 353, 64), (372, 370, 371, 64), (380, 378, 379, 64), (432, 430, 431, 64), (443, 441, 442, 64), (463, 461, 462, 64), (478, 476, 477, 64), (486, 484, 485, 64), (494, 492, 493, 64), (506, 504, 505, 64), (518, 516, 517, 64), (573, 571, 572, 64), (584, 582, 583, 64), (674, 672, 673, 64), (701, 699, 700, 64), (798, 796, 797, 64), (806, 804, 805, 64), (870, 868, 869, 64), (875, 873, 874, 64), (888, 886, 887, 64), (357, 356, 0, 64), (466, 465, 0, 64), (446, 445, 0, 64), (580, 579, 0, 64), (360, 359, 0, 64), (648, 647, 0, 64), (368, 367, 0, 64), (925, 924, 0, 76), (1091, 1090, 0, 76), (1088, 1087, 0, 76), (1126, 1125, 38, 76), (1098, 1097, 35, 76), (1094, 1093, 0, 76), (1085, 1083, 1084, 76), (1102, 1100, 1101, 76), (1110, 1109, 36, 76), (1114, 1113, 37, 76), (1106, 1104, 1105, 76), (1118, 1116, 1117, 76), (1122, 1120, 1121, 76), (1133, 1132, 0, 76), (1130, 1128, 1129, 76), (1137, 1135, 1136, 76), (1141, 1139, 1140, 76), (1145, 1143, 1144, 76), (1149, 1147, 1148, 76), (1157, 1156, 39, 76), (1165, 1164, 41, 76), (1161, 1160, 40, 76), (1153, 1151, 1152, 76), (1169, 1167, 1168, 76), (1184, 1183, 43, 76), (1180, 1179, 42, 76), (1176, 1175, 0, 76), (1192, 1191, 45, 76), (1200, 1199, 47, 76), (1188, 1187, 44, 76), (1196, 1195, 46, 76), (1173, 1171, 1172, 76), (1208, 1207, 48, 76), (1204, 1202, 1203, 76), (1228, 1227, 52, 76), (1216, 1215, 49, 76), (1224, 1223, 51, 76), (1220, 1219, 50, 76), (1236, 1235, 54, 76), (1232, 1231, 53, 76), (1240, 1239, 55, 76), (1244, 1243, 56, 76), (1212, 1210, 1211, 76), (1248, 1246, 1247, 76), (1260, 1259, 58, 76), (1256, 1255, 57, 76), (1264, 1263, 59, 76), (1252, 1250, 1251, 76), (1268, 1266, 1267, 76), (1272, 1270, 1271, 76), (1284, 1283, 61, 76), (1288, 1287, 62, 76), (1291, 1290, 0, 76), (1280, 1279, 60, 76), (1276, 1274, 1275, 76), (591, 590, 0, 78), (560, 559, 0, 77), (407, 406, 0, 77), (410, 409, 0, 77)]
def mc_0_0 : List (Nat × Instr) := [(0, .new 7), (3, .dup), (4, .invokespecial 9), (7, .astore_n 1), (8, .new 10), (11, .dup), (12, .invokespecial 12), (15, .astore_n 2), (16, .iconst 0), (17, .istore_n 3), (18, .iload_n 3), (19, .aload_n 0), (20, .arraylength), (21, .bipush 6), (23, .isub), (24, .if_icmp .gt 860), (27, .aload_n 0), (28, .iload_n 3), (29, .iaload), (30, .bipush 31), (32, .iand), (33, .tableswitch 845 0 19 #[95, 158, 191, 214, 267, 310, 373, 416, 449, 502, 525, 578, 621, 654, 697, 720, 763, 776, 799, 822]), (128, .aload_n 1), (129, .aload_n 0), (130, .iload_n 3), (131, .iconst 1), (132, .iadd), (133, .iaload), (134, .aload_n 0), (135, .iload_n 3), (136, .iconst 2), (137, .iadd), (138, .iaload), (139, .aload_n 0), (140, .iload_n 3), (141, .iconst 3), (142, .iadd), (143, .iaload), (144, .aload_n 0), (145, .iload_n 3), (146, .iconst 4), (147, .iadd), (148, .iaload), (149, .aload_n 0), (150, .iload_n 3), (151, .iconst 5), (152, .iadd), (153, .iaload), (154, .invokevirtual 13), (157, .aload_n 2)]
def mc_0_1 : List (Nat × Instr) := [(158, .aload_n 0), (159, .iload_n 3), (160, .iconst 1), (161, .iadd), (162, .iaload), (163, .aload_n 0), (164, .iload_n 3), (165, .iconst 2), (166, .iadd), (167, .iaload), (168, .aload_n 0), (169, .iload_n 3), (170, .iconst 3), (171, .iadd), (172, .iaload), (173, .aload_n 0), (174, .iload_n 3), (175, .iconst 4), (176, .iadd), (177, .iaload), (178, .aload_n 0), (179, .iload_n 3), (180, .iconst 5), (181, .iadd), (182, .iaload), (183, .invokevirtual 17), (186, .if_icmp .eq 692), (189, .iconst 0), (190, .ireturn), (191, .aload_n 1), (192, .aload_n 0), (193, .iload_n 3), (194, .iconst 1), (195, .iadd), (196, .iaload), (197, .aload_n 0), (198, .iload_n 3), (199, .iconst 2), (200, .iadd), (201, .iaload), (202, .invokevirtual 18), (205, .aload_n 2), (206, .aload_n 0), (207, .iload_n 3), (208, .iconst 1), (209, .iadd), (210, .iaload), (211, .aload_n 0), (212, .iload_n 3), (213, .iconst 2)]
def mc_0_2 : List (Nat × Instr) := [(214, .iadd), (215, .iaload), (216, .invokevirtual 22), (219, .if_icmp .eq 659), (222, .iconst 0), (223, .ireturn), (224, .aload_n 1), (225, .aload_n 0), (226, .iload_n 3), (227, .iconst 1), (228, .iadd), (229, .iaload), (230, .invokevirtual 23), (233, .aload_n 2), (234, .aload_n 0), (235, .iload_n 3), (236, .iconst 1), (237, .iadd), (238, .iaload), (239, .invokevirtual 27), (242, .if_icmp .eq 636), (245, .iconst 0), (246, .ireturn), (247, .aload_n 1), (248, .aload_n 0), (249, .iload_n 3), (250, .iconst 1), (251, .iadd), (252, .iaload), (253, .aload_n 0), (254, .iload_n 3), (255, .iconst 2), (256, .iadd), (257, .iaload), (258, .aload_n 0), (259, .iload_n 3), (260, .iconst 3), (261, .iadd), (262, .iaload), (263, .aload_n 0), (264, .iload_n 3), (265, .iconst 4), (266, .iadd), (267, .iaload), (268, .invokevirtual 28), (271, .aload_n 2), (272, .aload_n 0), (273, .iload_n 3), (274, .iconst 1), (275, .iadd)]
def mc_0_3 : List (Nat × Instr) := [(276, .iaload), (277, .aload_n 0), (278, .iload_n 3), (279, .iconst 2), (280, .iadd), (281, .iaload), (282, .aload_n 0), (283, .iload_n 3), (284, .iconst 3), (285, .iadd), (286, .iaload), (287, .aload_n 0), (288, .iload_n 3), (289, .iconst 4), (290, .iadd), (291, .iaload), (292, .invokevirtual 32), (295, .if_icmp .eq 583), (298, .iconst 0), (299, .ireturn), (300, .aload_n 1), (301, .aload_n 0), (302, .iload_n 3), (303, .iconst 1), (304, .iadd), (305, .iaload), (306, .aload_n 0), (307, .iload_n 3), (308, .iconst 2), (309, .iadd), (310, .iaload), (311, .aload_n 0), (312, .iload_n 3), (313, .iconst 3), (314, .iadd), (315, .iaload), (316, .invokevirtual 33), (319, .aload_n 2), (320, .aload_n 0), (321, .iload_n 3), (322, .iconst 1), (323, .iadd), (324, .iaload), (325, .aload_n 0), (326, .iload_n 3), (327, .iconst 2), (328, .iadd), (329, .iaload), (330, .aload_n 0), (331, .iload_n 3)]
def mc_0_4 : List (Nat × Instr) := [(332, .iconst 3), (333, .iadd), (334, .iaload), (335, .invokevirtual 37), (338, .if_icmp .eq 540), (341, .iconst 0), (342, .ireturn), (343, .aload_n 1), (344, .aload_n 0), (345, .iload_n 3), (346, .iconst 1), (347, .iadd), (348, .iaload), (349, .aload_n 0), (350, .iload_n 3), (351, .iconst 2), (352, .iadd), (353, .iaload), (354, .aload_n 0), (355, .iload_n 3), (356, .iconst 3), (357, .iadd), (358, .iaload), (359, .aload_n 0), (360, .iload_n 3), (361, .iconst 4), (362, .iadd), (363, .iaload), (364, .aload_n 0), (365, .iload_n 3), (366, .iconst 5), (367, .iadd), (368, .iaload), (369, .invokevirtual 38), (372, .aload_n 2), (373, .aload_n 0), (374, .iload_n 3), (375, .iconst 1), (376, .iadd), (377, .iaload), (378, .aload_n 0), (379, .iload_n 3), (380, .iconst 2), (381, .iadd), (382, .iaload), (383, .aload_n 0), (384, .iload_n 3), (385, .iconst 3), (386, .iadd), (387, .iaload)]
def mc_0_5 : List (Nat × Instr) := [(388, .aload_n 0), (389, .iload_n 3), (390, .iconst 4), (391, .iadd), (392, .iaload), (393, .aload_n 0), (394, .iload_n 3), (395, .iconst 5), (396, .iadd), (397, .iaload), (398, .invokevirtual 41), (401, .if_icmp .eq 477), (404, .iconst 0), (405, .ireturn), (406, .aload_n 1), (407, .aload_n 0), (408, .iload_n 3), (409, .iconst 1), (410, .iadd), (411, .iaload), (412, .aload_n 0), (413, .iload_n 3), (414, .iconst 2), (415, .iadd), (416, .iaload), (417, .aload_n 0), (418, .iload_n 3), (419, .iconst 3), (420, .iadd), (421, .iaload), (422, .invokevirtual 42), (425, .aload_n 2), (426, .aload_n 0), (427, .iload_n 3), (428, .iconst 1), (429, .iadd), (430, .iaload), (431, .aload_n 0), (432, .iload_n 3), (433, .iconst 2), (434, .iadd), (435, .iaload), (436, .aload_n 0), (437, .iload_n 3), (438, .iconst 3), (439, .iadd), (440, .iaload), (441, .invokevirtual 45), (444, .if_icmp .eq 434), (447, .iconst 0)]
def mc_0_6 : List (Nat × Instr) := [(448, .ireturn), (449, .aload_n 1), (450, .aload_n 0), (451, .iload_n 3), (452, .iconst 1), (453, .iadd), (454, .iaload), (455, .aload_n 0), (456, .iload_n 3), (457, .iconst 2), (458, .iadd), (459, .iaload), (460, .invokevirtual 46), (463, .aload_n 2), (464, .aload_n 0), (465, .iload_n 3), (466, .iconst 1), (467, .iadd), (468, .iaload), (469, .aload_n 0), (470, .iload_n 3), (471, .iconst 2), (472, .iadd), (473, .iaload), (474, .invokevirtual 49), (477, .if_icmp .eq 401), (480, .iconst 0), (481, .ireturn), (482, .aload_n 1), (483, .aload_n 0), (484, .iload_n 3), (485, .iconst 1), (486, .iadd), (487, .iaload), (488, .aload_n 0), (489, .iload_n 3), (490, .iconst 2), (491, .iadd), (492, .iaload), (493, .aload_n 0), (494, .iload_n 3), (495, .iconst 3), (496, .iadd), (497, .iaload), (498, .aload_n 0), (499, .iload_n 3), (500, .iconst 4), (501, .iadd), (502, .iaload), (503, .invokevirtual 50)]
def mc_0_7 : List (Nat × Instr) := [(506, .aload_n 2), (507, .aload_n 0), (508, .iload_n 3), (509, .iconst 1), (510, .iadd), (511, .iaload), (512, .aload_n 0), (513, .iload_n 3), (514, .iconst 2), (515, .iadd), (516, .iaload), (517, .aload_n 0), (518, .iload_n 3), (519, .iconst 3), (520, .iadd), (521, .iaload), (522, .aload_n 0), (523, .iload_n 3), (524, .iconst 4), (525, .iadd), (526, .iaload), (527, .invokevirtual 53), (530, .if_icmp .eq 348), (533, .iconst 0), (534, .ireturn), (535, .aload_n 1), (536, .aload_n 0), (537, .iload_n 3), (538, .iconst 1), (539, .iadd), (540, .iaload), (541, .invokevirtual 54), (544, .aload_n 2), (545, .aload_n 0), (546, .iload_n 3), (547, .iconst 1), (548, .iadd), (549, .iaload), (550, .invokevirtual 57), (553, .if_icmp .eq 325), (556, .iconst 0), (557, .ireturn), (558, .aload_n 1), (559, .aload_n 0), (560, .iload_n 3), (561, .iconst 1), (562, .iadd), (563, .iaload), (564, .aload_n 0), (565, .iload_n 3)]
def mc_0_8 : List (Nat × Instr) := [(566, .iconst 2), (567, .iadd), (568, .iaload), (569, .aload_n 0), (570, .iload_n 3), (571, .iconst 3), (572, .iadd), (573, .iaload), (574, .aload_n 0), (575, .iload_n 3), (576, .iconst 4), (577, .iadd), (578, .iaload), (579, .invokevirtual 58), (582, .aload_n 2), (583, .aload_n 0), (584, .iload_n 3), (585, .iconst 1), (586, .iadd), (587, .iaload), (588, .aload_n 0), (589, .iload_n 3), (590, .iconst 2), (591, .iadd), (592, .iaload), (593, .aload_n 0), (594, .iload_n 3), (595, .iconst 3), (596, .iadd), (597, .iaload), (598, .aload_n 0), (599, .iload_n 3), (600, .iconst 4), (601, .iadd), (602, .iaload), (603, .invokevirtual 62), (606, .if_icmp .eq 272), (609, .iconst 0), (610, .ireturn), (611, .aload_n 1), (612, .aload_n 0), (613, .iload_n 3), (614, .iconst 1), (615, .iadd), (616, .iaload), (617, .aload_n 0), (618, .iload_n 3), (619, .iconst 2), (620, .iadd), (621, .iaload)]
def mc_0_9 : List (Nat × Instr) := [(622, .aload_n 0), (623, .iload_n 3), (624, .iconst 3), (625, .iadd), (626, .iaload), (627, .invokevirtual 63), (630, .aload_n 2), (631, .aload_n 0), (632, .iload_n 3), (633, .iconst 1), (634, .iadd), (635, .iaload), (636, .aload_n 0), (637, .iload_n 3), (638, .iconst 2), (639, .iadd), (640, .iaload), (641, .aload_n 0), (642, .iload_n 3), (643, .iconst 3), (644, .iadd), (645, .iaload), (646, .invokevirtual 66), (649, .if_icmp .eq 229), (652, .iconst 0), (653, .ireturn), (654, .aload_n 1), (655, .aload_n 0), (656, .iload_n 3), (657, .iconst 1), (658, .iadd), (659, .iaload), (660, .aload_n 0), (661, .iload_n 3), (662, .iconst 2), (663, .iadd), (664, .iaload), (665, .invokevirtual 67), (668, .aload_n 2), (669, .aload_n 0), (670, .iload_n 3), (671, .iconst 1), (672, .iadd), (673, .iaload), (674, .aload_n 0), (675, .iload_n 3), (676, .iconst 2), (677, .iadd), (678, .iaload), (679, .invokevirtual 71)]
def mc_0_10 : List (Nat × Instr) := [(682, .if_icmp .eq 196), (685, .iconst 0), (686, .ireturn), (687, .aload_n 1), (688, .aload_n 0), (689, .iload_n 3), (690, .iconst 1), (691, .iadd), (692, .iaload), (693, .aload_n 0), (694, .iload_n 3), (695, .iconst 2), (696, .iadd), (697, .iaload), (698, .aload_n 0), (699, .iload_n 3), (700, .iconst 3), (701, .iadd), (702, .iaload), (703, .invokevirtual 72), (706, .aload_n 2), (707, .aload_n 0), (708, .iload_n 3), (709, .iconst 1), (710, .iadd), (711, .iaload), (712, .aload_n 0), (713, .iload_n 3), (714, .iconst 2), (715, .iadd), (716, .iaload), (717, .aload_n 0), (718, .iload_n 3), (719, .iconst 3), (720, .iadd), (721, .iaload), (722, .invokevirtual 76), (725, .if_icmp .eq 153), (728, .iconst 0), (729, .ireturn), (730, .aload_n 1), (731, .aload_n 0), (732, .iload_n 3), (733, .iconst 1), (734, .iadd), (735, .iaload), (736, .invokevirtual 77), (739, .aload_n 2), (740, .aload_n 0), (741, .iload_n 3)]
def mc_0_11 : List (Nat × Instr) := [(742, .iconst 1), (743, .iadd), (744, .iaload), (745, .invokevirtual 81), (748, .if_icmp .eq 130), (751, .iconst 0), (752, .ireturn), (753, .aload_n 1), (754, .aload_n 0), (755, .iload_n 3), (756, .iconst 1), (757, .iadd), (758, .iaload), (759, .aload_n 0), (760, .iload_n 3), (761, .iconst 2), (762, .iadd), (763, .iaload), (764, .aload_n 0), (765, .iload_n 3), (766, .iconst 3), (767, .iadd), (768, .iaload), (769, .invokevirtual 82), (772, .aload_n 2), (773, .aload_n 0), (774, .iload_n 3), (775, .iconst 1), (776, .iadd), (777, .iaload), (778, .aload_n 0), (779, .iload_n 3), (780, .iconst 2), (781, .iadd), (782, .iaload), (783, .aload_n 0), (784, .iload_n 3), (785, .iconst 3), (786, .iadd), (787, .iaload), (788, .invokevirtual 85), (791, .if_icmp .eq 87), (794, .iconst 0), (795, .ireturn), (796, .aload_n 1), (797, .invokevirtual 86), (800, .aload_n 2), (801, .invokevirtual 90), (804, .if_icmp .eq 74), (807, .iconst 0)]
def mc_0_12 : List (Nat × Instr) := [(808, .ireturn), (809, .aload_n 1), (810, .aload_n 0), (811, .iload_n 3), (812, .iconst 1), (813, .iadd), (814, .iaload), (815, .invokevirtual 91), (818, .aload_n 2), (819, .aload_n 0), (820, .iload_n 3), (821, .iconst 1), (822, .iadd), (823, .iaload), (824, .invokevirtual 94), (827, .if_icmp .eq 51), (830, .iconst 0), (831, .ireturn), (832, .aload_n 1), (833, .aload_n 0), (834, .iload_n 3), (835, .iconst 1), (836, .iadd), (837, .iaload), (838, .invokevirtual 95), (841, .aload_n 2), (842, .aload_n 0), (843, .iload_n 3), (844, .iconst 1), (845, .iadd), (846, .iaload), (847, .invokevirtual 98), (850, .if_icmp .eq 28), (853, .iconst 0), (854, .ireturn), (855, .aload_n 1), (856, .aload_n 0), (857, .iload_n 3), (858, .iconst 1), (859, .iadd), (860, .iaload), (861, .invokevirtual 99), (864, .aload_n 2), (865, .aload_n 0), (866, .iload_n 3), (867, .iconst 1), (868, .iadd), (869, .iaload), (870, .invokevirtual 102), (873, .if_icmp .eq 5)]
def mc_0_13 : List (Nat × Instr) := [(876, .iconst 0), (877, .ireturn), (878, .iinc 3 6), (881, .goto (-863)), (884, .iconst 1), (885, .ireturn)]
def mc_0 : List (Nat × Instr) := mc_0_0 ++ (mc_0_1 ++ (mc_0_2 ++ (mc_0_3 ++ (mc_0_4 ++ (mc_0_5 ++ (mc_0_6 ++ (mc_0_7 ++ (mc_0_8 ++ (mc_0_9 ++ (mc_0_10 ++ (mc_0_11 ++ (mc_0_12 ++ (mc_0_13)))))))))))))
def mc_1 : List (Nat × Instr) := [(0, .aload_n 0), (1, .invokespecial 3), (4, .aload_n 0), (5, .bipush 16), (7, .newarray .int), (9, .putfield 9), (12, .return_)]
def mc_2 : List (Nat × Instr) := [(0, .iload_n 1), (1, .ifCond .lt 18), (4, .iload_n 1), (5, .bipush 16), (7, .if_icmp .ge 12), (10, .aload_n 0), (11, .getfield 9), (14, .iload_n 1), (15, .iaload), (16, .goto 4), (19, .iconst 0), (20, .ireturn)]
def mc_3 : List (Nat × Instr) := [(0, .iconst 0), (1, .istore_n 2), (2, .iconst 0), (3, .istore_n 3), (4, .iload_n 3), (5, .bipush 16), (7, .if_icmp .ge 24), (10, .iload_n 2), (11, .aload_n 0), (12, .getfield 9), (15, .iload_n 3), (16, .iaload), (17, .iload_n 1), (18, .ishr), (19, .iconst 1), (20, .iand), (21, .iload_n 3), (22, .ishl), (23, .ior), (24, .istore_n 2), (25, .iinc 3 1), (28, .goto (-24)), (31, .iload_n 2), (32, .ireturn)]
def mc_4 : List (Nat × Instr) := [(0, .iload_n 1), (1, .ifCond .lt 25), (4, .iload_n 1), (5, .bipush 16), (7, .if_icmp .ge 19), (10, .aload_n 0), (11, .iload_n 2), (12, .invokevirtual 15), (15, .iload_n 1), (16, .invokestatic 19), (19, .ifCond .eq 7), (22, .iconst 1), (23, .goto 4), (26, .iconst 0), (27, .ireturn)]
def mc_5 : List (Nat × Instr) := [(0, .iconst 0), (1, .istore_n 1), (2, .iconst 0), (3, .istore_n 2), (4, .iload_n 2), (5, .bipush 16), (7, .if_icmp .ge 21), (10, .iload_n 1), (11, .aload_n 0), (12, .getfield 9), (15, .iload_n 2), (16, .iaload), (17, .invokestatic 23), (20, .iadd), (21, .istore_n 1), (22, .iinc 2 1), (25, .goto (-21)), (28, .iload_n 1), (29, .ireturn)]
def mc_6 : List (Nat × Instr) := [(0, .iload_n 1), (1, .ifCond .lt 19), (4, .iload_n 1), (5, .bipush 16), (7, .if_icmp .ge 13), (10, .aload_n 0), (11, .getfield 9), (14, .iload_n 1), (15, .iload_n 2), (16, .ldc 28), (18, .iand), (19, .iastore), (20, .return_)]
def mc_7 : List (Nat × Instr) := [(0, .iconst 0), (1, .istore_n 1), (2, .iload_n 1), (3, .bipush 16), (5, .if_icmp .ge 16), (8, .aload_n 0), (9, .getfield 9), (12, .iload_n 1), (13, .iconst 0), (14, .iastore), (15, .iinc 1 1), (18, .goto (-16)), (21, .return_)]
def mc_8 : List (Nat × Instr) := [(0, .iconst 0), (1, .istore_n 2), (2, .iload_n 2), (3, .bipush 16), (5, .if_icmp .ge 21), (8, .aload_n 0), (9, .getfield 9), (12, .iload_n 2), (13, .aload_n 1), (14, .getfield 9), (17, .iload_n 2), (18, .iaload), (19, .iastore), (20, .iinc 2 1), (23, .goto (-21)), (26, .return_)]
def mc_9 : List (Nat × Instr) := [(0, .iconst 0), (1, .istore_n 2), (2, .iload_n 2), (3, .bipush 16), (5, .if_icmp .ge 26), (8, .aload_n 0), (9, .getfield 9), (12, .iload_n 2), (13, .ldc 28), (15, .aload_n 1), (16, .getfield 9), (19, .iload_n 2), (20, .iaload), (21, .iconst (-1)), (22, .ixor), (23, .iand), (24, .iastore), (25, .iinc 2 1), (28, .goto (-26)), (31, .return_)]
def mc_10 : List (Nat × Instr) := [(0, .iconst 0), (1, .istore_n 2), (2, .iload_n 2), (3, .bipush 16), (5, .if_icmp .ge 24), (8, .aload_n 0), (9, .getfield 9), (12, .iload_n 2), (13, .dup2), (14, .iaload), (15, .aload_n 1), (16, .getfield 9), (19, .iload_n 2), (20, .iaload), (21, .ior), (22, .iastore), (23, .iinc 2 1), (26, .goto (-24)), (29, .return_)]
def mc_11 : List (Nat × Instr) := [(0, .iconst 0), (1, .istore_n 2), (2, .iload_n 2), (3, .bipush 16), (5, .if_icmp .ge 26), (8, .aload_n 0), (9, .getfield 9), (12, .iload_n 2), (13, .dup2), (14, .iaload), (15, .aload_n 1), (16, .getfield 9), (19, .iload_n 2), (20, .iaload), (21, .iconst (-1)), (22, .ixor), (23, .iand), (24, .iastore), (25, .iinc 2 1), (28, .goto (-26)), (31, .return_)]
def mc_12 : List (Nat × Instr) := [(0, .iload_n 1), (1, .iload_n 2), (2, .iload_n 3), (3, .iload 4), (5, .invokestatic 29), (8, .ifCond .eq 38), (11, .iload_n 2), (12, .istore 5), (14, .iload 5), (16, .iload_n 2), (17, .iload 4), (19, .iadd), (20, .if_icmp .ge 26), (23, .aload_n 0), (24, .getfield 9), (27, .iload 5), (29, .dup2), (30, .iaload), (31, .iload_n 1), (32, .iload_n 1), (33, .iload_n 3), (34, .iadd), (35, .invokestatic 33), (38, .ior), (39, .iastore), (40, .iinc 5 1), (43, .goto (-29)), (46, .return_)]
def mc_13 : List (Nat × Instr) := [(0, .iload_n 1), (1, .iload_n 2), (2, .iload_n 3), (3, .iload 4), (5, .invokestatic 29), (8, .ifCond .eq 40), (11, .iload_n 2), (12, .istore 5), (14, .iload 5), (16, .iload_n 2), (17, .iload 4), (19, .iadd), (20, .if_icmp .ge 28), (23, .aload_n 0), (24, .getfield 9), (27, .iload 5), (29, .dup2), (30, .iaload), (31, .iload_n 1), (32, .iload_n 1), (33, .iload_n 3), (34, .iadd), (35, .invokestatic 33), (38, .iconst (-1)), (39, .ixor), (40, .iand), (41, .iastore), (42, .iinc 5 1), (45, .goto (-31)), (48, .return_)]
def mc_14 : List (Nat × Instr) := [(0, .iconst 0), (1, .istore 4), (3, .iload 4), (5, .bipush 16), (7, .if_icmp .ge 34), (10, .aload_n 0), (11, .getfield 9), (14, .iload 4), (16, .aload_n 1), (17, .getfield 9), (20, .iload 4), (22, .iaload), (23, .aload_n 2), (24, .getfield 9), (27, .iload 4), (29, .iaload), (30, .iload_n 3), (31, .invokestatic 37), (34, .iastore), (35, .iinc 4 1), (38, .goto (-35)), (41, .return_)]
def mc_15 : List (Nat × Instr) := [(0, .iload_n 2), (1, .tableswitch 41 0 2 #[27, 31, 35]), (28, .iload_n 0), (29, .iload_n 1), (30, .ior), (31, .ireturn), (32, .iload_n 0), (33, .iload_n 1), (34, .iand), (35, .ireturn), (36, .iload_n 0), (37, .iload_n 1), (38, .iconst (-1)), (39, .ixor), (40, .iand), (41, .ireturn), (42, .iload_n 0), (43, .iload_n 1), (44, .ixor), (45, .ireturn)]
def mc_16 : List (Nat × Instr) := [(0, .iconst 0), (1, .istore_n 1), (2, .iconst 0), (3, .istore_n 2), (4, .iload_n 2), (5, .bipush 16), (7, .if_icmp .ge 74), (10, .aload_n 0), (11, .getfield 9), (14, .iload_n 2), (15, .iaload), (16, .aload_n 0), (17, .getfield 9), (20, .iload_n 2), (21, .iaload), (22, .iconst 1), (23, .ishl), (24, .ior), (25, .aload_n 0), (26, .getfield 9), (29, .iload_n 2), (30, .iaload), (31, .iconst 1), (32, .ishr), (33, .ior), (34, .istore_n 3), (35, .aload_n 0), (36, .iload_n 2), (37, .iconst 1), (38, .iadd), (39, .invokevirtual 15), (42, .istore 4), (44, .iload 4), (46, .iload 4), (48, .iconst 1), (49, .ishl), (50, .ior), (51, .iload 4), (53, .iconst 1), (54, .ishr), (55, .ior), (56, .istore 5), (58, .aload_n 0), (59, .getfield 9), (62, .iload_n 2), (63, .iload_n 1), (64, .iload_n 3), (65, .ior), (66, .iload 5), (68, .ior), (69, .ldc 28), (71, .iand), (72, .iastore), (73, .iload_n 3), (74, .istore_n 1), (75, .iinc 2 1), (78, .goto (-74)), (81, .return_)]
def mc_17 : List (Nat × Instr) := [(0, .iconst 0), (1, .istore_n 1), (2, .iconst 0), (3, .istore_n 2), (4, .iload_n 2), (5, .bipush 16), (7, .if_icmp .ge 71), (10, .aload_n 0), (11, .getfield 9), (14, .iload_n 2), (15, .iaload), (16, .aload_n 0), (17, .getfield 9), (20, .iload_n 2), (21, .iaload), (22, .iconst 1), (23, .ishl), (24, .iand), (25, .aload_n 0), (26, .getfield 9), (29, .iload_n 2), (30, .iaload), (31, .iconst 1), (32, .ishr), (33, .iand), (34, .istore_n 3), (35, .aload_n 0), (36, .iload_n 2), (37, .iconst 1), (38, .iadd), (39, .invokevirtual 15), (42, .istore 4), (44, .iload 4), (46, .iload 4), (48, .iconst 1), (49, .ishl), (50, .iand), (51, .iload 4), (53, .iconst 1), (54, .ishr), (55, .iand), (56, .istore 5), (58, .aload_n 0), (59, .getfield 9), (62, .iload_n 2), (63, .iload_n 1), (64, .iload_n 3), (65, .iand), (66, .iload 5), (68, .iand), (69, .iastore), (70, .iload_n 3), (71, .istore_n 1), (72, .iinc 2 1), (75, .goto (-71)), (78, .return_)]
def mc_18 : List (Nat × Instr) := [(0, .aload_n 0), (1, .invokespecial 3), (4, .aload_n 0), (5, .bipush 17), (7, .newarray .int), (9, .putfield 9), (12, .aload_n 0), (13, .bipush 14), (15, .newarray .int), (17, .putfield 15), (20, .aload_n 0), (21, .bipush 14), (23, .newarray .int), (25, .putfield 18), (28, .aload_n 0), (29, .bipush 14), (31, .newarray .int), (33, .putfield 21), (36, .aload_n 0), (37, .bipush 14), (39, .newarray .int), (41, .putfield 24), (44, .aload_n 0), (45, .bipush 14), (47, .newarray .int), (49, .putfield 27), (52, .return_)]
def mc_19 : List (Nat × Instr) := [(0, .aload_n 0), (1, .aload_n 1), (2, .invokevirtual 30), (5, .aload_n 0), (6, .iconst 0), (7, .putfield 34), (10, .aload_n 0), (11, .iconst 0), (12, .putfield 38), (15, .aload_n 0), (16, .aload_n 1), (17, .invokevirtual 41), (20, .aload_n 0), (21, .aload_n 0), (22, .getfield 34), (25, .putfield 44), (28, .aload_n 0), (29, .aload_n 1), (30, .invokevirtual 47), (33, .return_)]
def mc_20 : List (Nat × Instr) := [(0, .aload_n 0), (1, .getfield 34), (4, .ireturn)]
def mc_21 : List (Nat × Instr) := [(0, .aload_n 0), (1, .getfield 34), (4, .bipush 14), (6, .if_icmp .gt 7), (9, .iconst 1), (10, .goto 4), (13, .iconst 0), (14, .ireturn)]
def mc_22 : List (Nat × Instr) := [(0, .iconst 0), (1, .istore_n 1), (2, .iconst 0), (3, .istore_n 2), (4, .iload_n 2), (5, .bipush 16), (7, .if_icmp .gt 21), (10, .iload_n 1), (11, .aload_n 0), (12, .getfield 9), (15, .iload_n 2), (16, .iaload), (17, .invokestatic 50), (20, .iadd), (21, .istore_n 1), (22, .iinc 2 1), (25, .goto (-21)), (28, .iload_n 1), (29, .ireturn)]
def mc_23 : List (Nat × Instr) := [(0, .iload_n 1), (1, .ifCond .lt 18), (4, .iload_n 1), (5, .bipush 16), (7, .if_icmp .gt 12), (10, .aload_n 0), (11, .getfield 9), (14, .iload_n 1), (15, .iaload), (16, .goto 4), (19, .iconst 0), (20, .ireturn)]
def mc_24 : List (Nat × Instr) := [(0, .aload_n 0), (1, .getfield 38), (4, .iload_n 1), (5, .invokestatic 56), (8, .ireturn)]
def mc_25 : List (Nat × Instr) := [(0, .iload_n 1), (1, .aload_n 0), (2, .getfield 44), (5, .if_icmp .ge 7), (8, .iconst 1), (9, .goto 4), (12, .iconst 0), (13, .ireturn)]
def mc_26 : List (Nat × Instr) := [(0, .aload_n 0), (1, .getfield 15), (4, .iload_n 1), (5, .iaload), (6, .ireturn)]
def mc_27 : List (Nat × Instr) := [(0, .aload_n 0), (1, .getfield 18), (4, .iload_n 1), (5, .iaload), (6, .ireturn)]
def mc_28 : List (Nat × Instr) := [(0, .aload_n 0), (1, .getfield 21), (4, .iload_n 1), (5, .iaload), (6, .ireturn)]
def mc_29 : List (Nat × Instr) := [(0, .iconst 0), (1, .istore_n 2), (2, .iload_n 2), (3, .bipush 16), (5, .if_icmp .gt 62), (8, .aload_n 1), (9, .iload_n 2), (10, .iconst 1), (11, .isub), (12, .invokevirtual 60), (15, .istore_n 3), (16, .iload_n 3), (17, .iconst 1), (18, .ishl), (19, .istore 4), (21, .aload_n 1), (22, .iload_n 2), (23, .invokevirtual 60), (26, .istore 5), (28, .iload 5), (30, .iconst 1), (31, .ishl), (32, .istore 6), (34, .aload_n 0), (35, .getfield 9), (38, .iload_n 2), (39, .iload 4), (41, .iload_n 3), (42, .iand), (43, .iload 6), (45, .iload 5), (47, .ixor), (48, .iand), (49, .iload 4), (51, .iload_n 3), (52, .ixor), (53, .iload 6), (55, .iand), (56, .iload 5), (58, .iand), (59, .ior), (60, .iastore), (61, .iinc 2 1), (64, .goto (-62)), (67, .return_)]
def mc_30 : List (Nat × Instr) := [(0, .iconst 1), (1, .istore_n 2), (2, .iload_n 2), (3, .bipush 16), (5, .if_icmp .ge 88), (8, .aload_n 1), (9, .iload_n 2), (10, .iconst 1), (11, .isub), (12, .invokevirtual 60), (15, .aload_n 1), (16, .iload_n 2), (17, .invokevirtual 60), (20, .iand), (21, .istore_n 3), (22, .iconst 1), (23, .istore 4), (25, .iload 4), (27, .bipush 16), (29, .if_icmp .ge 58), (32, .aload_n 0), (33, .iload 4), (35, .iload_n 2), (36, .invokevirtual 65), (39, .ifCond .eq 12), (42, .iload_n 3), (43, .iload 4), (45, .invokestatic 68), (48, .goto 5), (51, .iload 4), (53, .istore 5), (55, .iload 5), (57, .iload 4), (59, .if_icmp .le 22), (62, .aload_n 0), (63, .iload 5), (65, .iload_n 2), (66, .invokevirtual 65), (69, .ifCond .eq 12), (72, .aload_n 0), (73, .iload_n 2), (74, .iload 4), (76, .iload 5), (78, .invokevirtual 72), (81, .iinc 4 1), (84, .goto (-59)), (87, .iinc 2 1), (90, .goto (-88)), (93, .return_)]
def mc_31 : List (Nat × Instr) := [(0, .iconst 1), (1, .istore_n 2), (2, .iload_n 2), (3, .bipush 16), (5, .if_icmp .ge 88), (8, .aload_n 1), (9, .iload_n 2), (10, .iconst 1), (11, .isub), (12, .invokevirtual 76), (15, .aload_n 1), (16, .iload_n 2), (17, .invokevirtual 76), (20, .iand), (21, .istore_n 3), (22, .iconst 1), (23, .istore 4), (25, .iload 4), (27, .bipush 16), (29, .if_icmp .ge 58), (32, .aload_n 0), (33, .iload_n 2), (34, .iload 4), (36, .invokevirtual 65), (39, .ifCond .eq 12), (42, .iload_n 3), (43, .iload 4), (45, .invokestatic 68), (48, .goto 5), (51, .iload 4), (53, .istore 5), (55, .iload 5), (57, .iload 4), (59, .if_icmp .le 22), (62, .aload_n 0), (63, .iload_n 2), (64, .iload 5), (66, .invokevirtual 65), (69, .ifCond .eq 12), (72, .aload_n 0), (73, .iload_n 2), (74, .iload 4), (76, .iload 5), (78, .invokevirtual 72), (81, .iinc 4 1), (84, .goto (-59)), (87, .iinc 2 1), (90, .goto (-88)), (93, .return_)]
def mc_32 : List (Nat × Instr) := [(0, .aload_n 0), (1, .getfield 9), (4, .iload_n 2), (5, .iaload), (6, .iload_n 1), (7, .invokestatic 56), (10, .ireturn)]
def mc_33 : List (Nat × Instr) := [(0, .aload_n 0), (1, .getfield 34), (4, .bipush 14), (6, .if_icmp .ge 33), (9, .aload_n 0), (10, .getfield 15), (13, .aload_n 0), (14, .getfield 34), (17, .iload_n 1), (18, .iastore), (19, .aload_n 0), (20, .getfield 18), (23, .aload_n 0), (24, .getfield 34), (27, .iload_n 2), (28, .iastore), (29, .aload_n 0), (30, .getfield 21), (33, .aload_n 0), (34, .getfield 34), (37, .iload_n 3), (38, .iastore), (39, .aload_n 0), (40, .dup), (41, .getfield 34), (44, .iconst 1), (45, .iadd), (46, .putfield 34), (49, .return_)]
def mc_34 : List (Nat × Instr) := [(0, .aload_n 0), (1, .iconst 0), (2, .putfield 38), (5, .aload_n 0), (6, .invokevirtual 79), (9, .ifCond .ne 4), (12, .return_), (13, .aload_n 0), (14, .invokevirtual 83), (17, .iconst 1), (18, .aload_n 0), (19, .getfield 34), (22, .ishl), (23, .iconst 1), (24, .isub), (25, .istore_n 1), (26, .aload_n 0), (27, .iload_n 1), (28, .invokevirtual 86), (31, .istore_n 2), (32, .iconst 0), (33, .istore_n 3), (34, .iload_n 3), (35, .aload_n 0), (36, .getfield 34), (39, .if_icmp .ge 76), (42, .iload_n 1), (43, .iconst 1), (44, .iload_n 3), (45, .ishl), (46, .iconst (-1)), (47, .ixor), (48, .iand), (49, .aload_n 0), (50, .getfield 24), (53, .iload_n 3), (54, .iaload), (55, .iconst (-1)), (56, .ixor), (57, .iand), (58, .istore 4), (60, .iload_n 1), (61, .iload_n 3), (62, .invokestatic 56), (65, .ifCond .eq 36), (68, .aload_n 0), (69, .iload 4), (71, .invokevirtual 86), (74, .iconst 1), (75, .iadd), (76, .iload_n 2), (77, .if_icmp .ne 24), (80, .aload_n 0), (81, .dup), (82, .getfield 38), (85, .iconst 1), (86, .iload_n 3), (87, .ishl), (88, .ior), (89, .putfield 38), (92, .iload 4), (94, .istore_n 1), (95, .iinc 2 (-1)), (98, .goto 11), (101, .iload_n 1), (102, .iconst 1), (103, .iload_n 3), (104, .ishl), (105, .iconst (-1)), (106, .ixor), (107, .iand), (108, .istore_n 1), (109, .iinc 3 1), (112, .goto (-78)), (115, .return_)]
def mc_35 : List (Nat × Instr) := [(0, .iconst 0), (1, .istore_n 1), (2, .iload_n 1), (3, .aload_n 0), (4, .getfield 34), (7, .if_icmp .ge 16), (10, .aload_n 0), (11, .getfield 24), (14, .iload_n 1), (15, .iconst 0), (16, .iastore), (17, .iinc 1 1), (20, .goto (-18)), (23, .iconst 0), (24, .istore_n 1), (25, .iload_n 1), (26, .aload_n 0), (27, .getfield 44), (30, .if_icmp .ge 61), (33, .aload_n 0), (34, .getfield 44), (37, .istore_n 2), (38, .iload_n 2), (39, .aload_n 0), (40, .getfield 34), (43, .if_icmp .ge 42), (46, .aload_n 0), (47, .iload_n 1), (48, .iload_n 2), (49, .invokevirtual 89), (52, .ifCond .eq 27), (55, .aload_n 0), (56, .getfield 24), (59, .iload_n 1), (60, .dup2), (61, .iaload), (62, .iconst 1), (63, .iload_n 2), (64, .ishl), (65, .ior), (66, .iastore), (67, .aload_n 0), (68, .getfield 24), (71, .iload_n 2), (72, .dup2), (73, .iaload), (74, .iconst 1), (75, .iload_n 1), (76, .ishl), (77, .ior), (78, .iastore), (79, .iinc 2 1), (82, .goto (-44)), (85, .iinc 1 1), (88, .goto (-63)), (91, .return_)]
def mc_36 : List (Nat × Instr) := [(0, .aload_n 0), (1, .getfield 15), (4, .iload_n 2), (5, .iaload), (6, .aload_n 0), (7, .getfield 18), (10, .iload_n 1), (11, .iaload), (12, .if_icmp .lt 52), (15, .aload_n 0), (16, .getfield 15), (19, .iload_n 2), (20, .iaload), (21, .aload_n 0), (22, .getfield 21), (25, .iload_n 1), (26, .iaload), (27, .if_icmp .gt 37), (30, .aload_n 0), (31, .getfield 15), (34, .iload_n 1), (35, .iaload), (36, .aload_n 0), (37, .getfield 18), (40, .iload_n 2), (41, .iaload), (42, .if_icmp .lt 22), (45, .aload_n 0), (46, .getfield 15), (49, .iload_n 1), (50, .iaload), (51, .aload_n 0), (52, .getfield 21), (55, .iload_n 2), (56, .iaload), (57, .if_icmp .gt 7), (60, .iconst 1), (61, .goto 4), (64, .iconst 0), (65, .ireturn)]
def mc_37 : List (Nat × Instr) := [(0, .iconst 0), (1, .istore_n 2), (2, .iload_n 2), (3, .aload_n 0), (4, .getfield 34), (7, .if_icmp .ge 16), (10, .aload_n 0), (11, .getfield 27), (14, .iload_n 2), (15, .iconst (-1)), (16, .iastore), (17, .iinc 2 1), (20, .goto (-18)), (23, .iconst 0), (24, .istore_n 2), (25, .iconst 0), (26, .istore_n 3), (27, .iload_n 3), (28, .aload_n 0), (29, .getfield 44), (32, .if_icmp .ge 35), (35, .aload_n 0), (36, .iconst 0), (37, .putfield 92), (40, .iload_n 1), (41, .iload_n 3), (42, .invokestatic 56), (45, .ifCond .eq 16), (48, .aload_n 0), (49, .iload_n 3), (50, .iload_n 1), (51, .iconst 0), (52, .invokevirtual 95), (55, .ifCond .eq 6), (58, .iinc 2 1), (61, .iinc 3 1), (64, .goto (-37)), (67, .iload_n 1), (68, .invokestatic 50), (71, .iload_n 2), (72, .isub), (73, .ireturn)]
def mc_38 : List (Nat × Instr) := [(0, .iload_n 3), (1, .bipush 14), (3, .if_icmp .le 5), (6, .iconst 0), (7, .ireturn), (8, .aload_n 0), (9, .getfield 44), (12, .istore 4), (14, .iload 4), (16, .aload_n 0), (17, .getfield 34), (20, .if_icmp .ge 87), (23, .aload_n 0), (24, .getfield 24), (27, .iload_n 1), (28, .iaload), (29, .iload_n 2), (30, .iand), (31, .aload_n 0), (32, .getfield 92), (35, .iconst (-1)), (36, .ixor), (37, .iand), (38, .iload 4), (40, .invokestatic 56), (43, .ifCond .ne 6), (46, .goto 55), (49, .aload_n 0), (50, .dup), (51, .getfield 92), (54, .iconst 1), (55, .iload 4), (57, .ishl), (58, .ior), (59, .putfield 92), (62, .aload_n 0), (63, .getfield 27), (66, .iload 4), (68, .iaload), (69, .iconst (-1)), (70, .if_icmp .eq 21), (73, .aload_n 0), (74, .aload_n 0), (75, .getfield 27), (78, .iload 4), (80, .iaload), (81, .iload_n 2), (82, .iload_n 3), (83, .iconst 1), (84, .iadd), (85, .invokevirtual 95), (88, .ifCond .eq 13), (91, .aload_n 0), (92, .getfield 27), (95, .iload 4), (97, .iload_n 1), (98, .iastore), (99, .iconst 1), (100, .ireturn), (101, .iinc 4 1), (104, .goto (-90)), (107, .iconst 0), (108, .ireturn)]
def mc_39 : List (Nat × Instr) := [(0, .aload_n 0), (1, .invokespecial 3), (4, .aload_n 0), (5, .bipush 17), (7, .newarray .int), (9, .putfield 9), (12, .aload_n 0), (13, .bipush 17), (15, .newarray .int), (17, .putfield 15), (20, .aload_n 0), (21, .bipush 17), (23, .newarray .int), (25, .putfield 18), (28, .aload_n 0), (29, .bipush 17), (31, .newarray .int), (33, .putfield 21), (36, .aload_n 0), (37, .new 24), (40, .dup), (41, .invokespecial 26), (44, .putfield 27), (47, .return_)]
def mc_40 : List (Nat × Instr) := [(0, .iconst 0), (1, .istore_n 3), (2, .iload_n 3), (3, .bipush 16), (5, .if_icmp .gt 41), (8, .aload_n 0), (9, .getfield 9), (12, .iload_n 3), (13, .iconst 0), (14, .iastore), (15, .aload_n 0), (16, .getfield 15), (19, .iload_n 3), (20, .iconst 0), (21, .iastore), (22, .aload_n 0), (23, .getfield 18), (26, .iload_n 3), (27, .iconst 0), (28, .iastore), (29, .aload_n 0), (30, .getfield 21), (33, .iload_n 3), (34, .aload_n 2), (35, .iload_n 3), (36, .invokevirtual 31), (39, .iastore), (40, .iinc 3 1), (43, .goto (-41)), (46, .iconst 0), (47, .istore_n 3), (48, .iload_n 3), (49, .aload_n 2), (50, .invokevirtual 37), (53, .if_icmp .ge 23), (56, .aload_n 2), (57, .iload_n 3), (58, .invokevirtual 41), (61, .ifCond .eq 9), (64, .aload_n 0), (65, .aload_n 2), (66, .iload_n 3), (67, .invokevirtual 45), (70, .iinc 3 1), (73, .goto (-25)), (76, .iconst 1), (77, .istore_n 3), (78, .iload_n 3), (79, .bipush 16), (81, .if_icmp .ge 59), (84, .iconst 1), (85, .istore 4), (87, .iload 4), (89, .bipush 16), (91, .if_icmp .ge 43), (94, .aload_n 0), (95, .getfield 21), (98, .iload_n 3), (99, .iaload), (100, .iload 4), (102, .invokestatic 49), (105, .ifCond .eq 23), (108, .aload_n 0), (109, .iload 4), (111, .iload_n 3), (112, .aload_n 1), (113, .iload_n 3), (114, .iconst 1), (115, .isub), (116, .invokevirtual 53), (119, .aload_n 1), (120, .iload_n 3), (121, .invokevirtual 53), (124, .iand), (125, .invokevirtual 56), (128, .iinc 4 1), (131, .goto (-44)), (134, .iinc 3 1), (137, .goto (-59)), (140, .return_)]
def mc_41 : List (Nat × Instr) := [(0, .aload_n 1), (1, .iload_n 2), (2, .invokevirtual 60), (5, .istore_n 3), (6, .aload_n 1), (7, .iload_n 2), (8, .invokevirtual 63), (11, .istore 4), (13, .aload_n 1), (14, .iload_n 2), (15, .invokevirtual 66), (18, .istore 5), (20, .aload_n 1), (21, .iload_n 2), (22, .invokevirtual 69), (25, .ifCond .eq 37), (28, .aload_n 0), (29, .iload_n 3), (30, .iload 4), (32, .iload 5), (34, .invokevirtual 72), (37, .aload_n 0), (38, .getfield 21), (41, .iload_n 3), (42, .dup2), (43, .iaload), (44, .iconst 1), (45, .iload 4), (47, .ishl), (48, .iconst (-1)), (49, .ixor), (50, .iconst 1), (51, .iload 5), (53, .ishl), (54, .iconst (-1)), (55, .ixor), (56, .iand), (57, .iand), (58, .iastore), (59, .goto 42), (62, .aload_n 0), (63, .iload_n 3), (64, .iload 4), (66, .iload 5), (68, .invokevirtual 75), (71, .aload_n 0), (72, .getfield 21), (75, .iload 4), (77, .dup2), (78, .iaload), (79, .iconst 1), (80, .iload_n 3), (81, .ishl), (82, .iconst (-1)), (83, .ixor), (84, .iand), (85, .iastore), (86, .aload_n 0), (87, .getfield 21), (90, .iload 5), (92, .dup2), (93, .iaload), (94, .iconst 1), (95, .iload_n 3), (96, .ishl), (97, .iconst (-1)), (98, .ixor), (99, .iand), (100, .iastore), (101, .return_)]
def mc_42 : List (Nat × Instr) := [(0, .aload_n 0), (1, .getfield 9), (4, .iload_n 1), (5, .dup2), (6, .iaload), (7, .iload_n 2), (8, .iload_n 3), (9, .invokestatic 78), (12, .ior), (13, .iastore), (14, .aload_n 0), (15, .getfield 18), (18, .iload_n 1), (19, .dup2), (20, .iaload), (21, .iload_n 2), (22, .iload_n 3), (23, .iconst 1), (24, .iadd), (25, .invokestatic 78), (28, .ior), (29, .iastore), (30, .return_)]
def mc_43 : List (Nat × Instr) := [(0, .iload_n 2), (1, .istore 4), (3, .iload 4), (5, .iload_n 3), (6, .if_icmp .ge 35), (9, .aload_n 0), (10, .getfield 15), (13, .iload 4), (15, .dup2), (16, .iaload), (17, .iconst 1), (18, .iload_n 1), (19, .ishl), (20, .ior), (21, .iastore), (22, .aload_n 0), (23, .getfield 18), (26, .iload 4), (28, .dup2), (29, .iaload), (30, .iconst 1), (31, .iload_n 1), (32, .ishl), (33, .ior), (34, .iastore), (35, .iinc 4 1), (38, .goto (-35)), (41, .aload_n 0), (42, .getfield 18), (45, .iload_n 3), (46, .dup2), (47, .iaload), (48, .iconst 1), (49, .iload_n 1), (50, .ishl), (51, .ior), (52, .iastore), (53, .return_)]
def mc_44 : List (Nat × Instr) := [(0, .iload_n 1), (1, .istore 4), (3, .iload_n 3), (4, .iload_n 1), (5, .invokestatic 49), (8, .ifCond .eq 47), (11, .iinc 4 1), (14, .iload 4), (16, .bipush 16), (18, .if_icmp .ge 26), (21, .iload_n 3), (22, .iload 4), (24, .invokestatic 49), (27, .ifCond .eq 17), (30, .aload_n 0), (31, .getfield 18), (34, .iload_n 2), (35, .iaload), (36, .iload 4), (38, .invokestatic 49), (41, .ifCond .eq (-30)), (44, .aload_n 0), (45, .iload_n 2), (46, .iload_n 1), (47, .iload 4), (49, .invokevirtual 72), (52, .goto 44), (55, .iinc 4 (-1)), (58, .iload 4), (60, .ifCond .le 28), (63, .iload_n 3), (64, .iload 4), (66, .iconst 1), (67, .isub), (68, .invokestatic 49), (71, .ifCond .eq 17), (74, .aload_n 0), (75, .getfield 18), (78, .iload_n 2), (79, .iaload), (80, .iload 4), (82, .invokestatic 49), (85, .ifCond .eq (-30)), (88, .aload_n 0), (89, .iload_n 2), (90, .iload 4), (92, .iload_n 1), (93, .invokevirtual 72), (96, .return_)]
def mc_45 : List (Nat × Instr) := [(0, .aload_n 2), (1, .invokevirtual 82), (4, .aload_n 0), (5, .getfield 27), (8, .aload_n 1), (9, .invokevirtual 87), (12, .iconst 0), (13, .istore_n 3), (14, .iload_n 3), (15, .bipush 16), (17, .if_icmp .ge 81), (20, .iconst 0), (21, .istore 4), (23, .iload 4), (25, .bipush 16), (27, .if_icmp .ge 65), (30, .aload_n 0), (31, .getfield 27), (34, .iload 4), (36, .iload_n 3), (37, .invokevirtual 91), (40, .ifCond .eq 46), (43, .aload_n 0), (44, .iload 4), (46, .iload_n 3), (47, .invokevirtual 94), (50, .istore 5), (52, .aload_n 0), (53, .iload 4), (55, .iload_n 3), (56, .invokevirtual 97), (59, .istore 6), (61, .aload_n 0), (62, .getfield 27), (65, .iload 4), (67, .iload_n 3), (68, .iload 5), (70, .iload 6), (72, .invokevirtual 100), (75, .aload_n 2), (76, .iload 4), (78, .iload_n 3), (79, .iload 5), (81, .iload 6), (83, .invokevirtual 104), (86, .iinc 4 1), (89, .goto (-66)), (92, .iinc 3 1), (95, .goto (-81)), (98, .return_)]
def mc_46 : List (Nat × Instr) := [(0, .iconst 1), (1, .istore_n 3), (2, .iload_n 1), (3, .iload_n 3), (4, .iadd), (5, .bipush 16), (7, .if_icmp .ge 38), (10, .aload_n 0), (11, .getfield 27), (14, .iload_n 1), (15, .iload_n 3), (16, .iadd), (17, .iload_n 2), (18, .invokevirtual 91), (21, .ifCond .eq 24), (24, .aload_n 0), (25, .getfield 15), (28, .iload_n 2), (29, .iaload), (30, .iload_n 1), (31, .iload_n 3), (32, .iadd), (33, .invokestatic 49), (36, .ifCond .ne 9), (39, .iinc 3 1), (42, .goto (-40)), (45, .iload_n 3), (46, .ireturn)]
def mc_47 : List (Nat × Instr) := [(0, .iconst 1), (1, .istore_n 3), (2, .iload_n 2), (3, .iload_n 3), (4, .iadd), (5, .bipush 16), (7, .if_icmp .ge 38), (10, .aload_n 0), (11, .getfield 27), (14, .iload_n 1), (15, .iload_n 2), (16, .iload_n 3), (17, .iadd), (18, .invokevirtual 91), (21, .ifCond .eq 24), (24, .aload_n 0), (25, .getfield 9), (28, .iload_n 2), (29, .iload_n 3), (30, .iadd), (31, .iaload), (32, .iload_n 1), (33, .invokestatic 49), (36, .ifCond .ne 9), (39, .iinc 3 1), (42, .goto (-40)), (45, .iload_n 3), (46, .ireturn)]
def mc_48 : List (Nat × Instr) := [(0, .aload_n 0), (1, .invokespecial 3), (4, .aload_n 0), (5, .sipush 256), (8, .newarray .int), (10, .putfield 9), (13, .return_)]
def mc_49 : List (Nat × Instr) := [(0, .aload_n 0), (1, .iconst 0), (2, .putfield 15), (5, .return_)]
def mc_50 : List (Nat × Instr) := [(0, .aload_n 0), (1, .getfield 15), (4, .ireturn)]
def mc_51 : List (Nat × Instr) := [(0, .aload_n 0), (1, .getfield 15), (4, .sipush 256), (7, .if_icmp .ge 38), (10, .aload_n 0), (11, .getfield 9), (14, .aload_n 0), (15, .getfield 15), (18, .iload_n 1), (19, .iload_n 2), (20, .iconst 5), (21, .ishl), (22, .ior), (23, .iload_n 3), (24, .bipush 10), (26, .ishl), (27, .ior), (28, .iload 4), (30, .bipush 15), (32, .ishl), (33, .ior), (34, .iastore), (35, .aload_n 0), (36, .dup), (37, .getfield 15), (40, .iconst 1), (41, .iadd), (42, .putfield 15), (45, .return_)]
def mc_52 : List (Nat × Instr) := [(0, .iload_n 1), (1, .ifCond .lt 20), (4, .iload_n 1), (5, .aload_n 0), (6, .getfield 15), (9, .if_icmp .ge 12), (12, .iload_n 2), (13, .ifCond .lt 8), (16, .iload_n 2), (17, .iconst 4), (18, .if_icmp .lt 7), (21, .sipush (-1000)), (24, .ireturn), (25, .aload_n 0), (26, .getfield 9), (29, .iload_n 1), (30, .iaload), (31, .iload_n 2), (32, .iconst 5), (33, .imul), (34, .ishr), (35, .bipush 31), (37, .iand), (38, .ireturn)]
def mc_53 : List (Nat × Instr) := [(0, .aload_n 0), (1, .invokespecial 3), (4, .aload_n 0), (5, .bipush 6), (7, .anewarray 9), (10, .putfield 11), (13, .aload_n 0), (14, .bipush 6), (16, .newarray .int), (18, .putfield 17), (21, .aload_n 0), (22, .bipush 8), (24, .newarray .int), (26, .putfield 21), (29, .iconst 0), (30, .istore_n 1), (31, .iload_n 1), (32, .bipush 6), (34, .if_icmp .ge 22), (37, .aload_n 0), (38, .getfield 11), (41, .iload_n 1), (42, .new 9), (45, .dup), (46, .invokespecial 24), (49, .aastore), (50, .iinc 1 1), (53, .goto (-22)), (56, .return_)]
def mc_54 : List (Nat × Instr) := [(0, .aload_n 0), (1, .getfield 11), (4, .iload_n 1), (5, .aaload), (6, .iload_n 2), (7, .iload_n 3), (8, .iload 4), (10, .iload 5), (12, .invokevirtual 25), (15, .ireturn)]
def mc_55 : List (Nat × Instr) := [(0, .aload_n 0), (1, .getfield 21), (4, .iconst 2), (5, .iload_n 1), (6, .iastore), (7, .aload_n 0), (8, .getfield 21), (11, .iconst 3), (12, .iload_n 2), (13, .iastore), (14, .aload_n 0), (15, .getfield 21), (18, .iconst 1), (19, .iload_n 3), (20, .iastore), (21, .return_)]
def mc_56 : List (Nat × Instr) := [(0, .aload_n 0), (1, .getfield 21), (4, .iconst 4), (5, .iload_n 1), (6, .iastore), (7, .aload_n 0), (8, .getfield 21), (11, .iconst 5), (12, .iload_n 2), (13, .iastore), (14, .return_)]
def mc_57 : List (Nat × Instr) := [(0, .aload_n 0), (1, .getfield 21), (4, .iconst 0), (5, .iload_n 2), (6, .iastore), (7, .aload_n 0), (8, .getfield 21), (11, .bipush 6), (13, .iload_n 3), (14, .iastore), (15, .aload_n 0), (16, .getfield 21), (19, .bipush 7), (21, .iload 4), (23, .iastore), (24, .aload_n 0), (25, .getfield 11), (28, .iload_n 1), (29, .aaload), (30, .aload_n 0), (31, .getfield 21), (34, .invokevirtual 29), (37, .ireturn)]
def mc_58 : List (Nat × Instr) := [(0, .aload_n 0), (1, .getfield 11), (4, .iload_n 1), (5, .aaload), (6, .invokevirtual 33), (9, .return_)]
def mc_59 : List (Nat × Instr) := [(0, .iconst 0), (1, .istore_n 2), (2, .iload_n 2), (3, .iload_n 1), (4, .if_icmp .gt 93), (7, .aload_n 0), (8, .getfield 11), (11, .iload_n 2), (12, .aaload), (13, .astore_n 3), (14, .aload_n 3), (15, .invokevirtual 36), (18, .istore 4), (20, .iconst 0), (21, .istore 5), (23, .iload 5), (25, .aload_n 3), (26, .invokevirtual 40), (29, .if_icmp .ge 48), (32, .aload_n 3), (33, .iload 5), (35, .bipush 6), (37, .invokevirtual 43), (40, .aload_n 3), (41, .iload 5), (43, .bipush 7), (45, .invokevirtual 43), (48, .imul), (49, .istore 6), (51, .iload 4), (53, .iload 6), (55, .aload_n 0), (56, .getfield 17), (59, .aload_n 3), (60, .iload 5), (62, .iconst 0), (63, .invokevirtual 43), (66, .iaload), (67, .imul), (68, .iadd), (69, .istore 4), (71, .iinc 5 1), (74, .goto (-51)), (77, .aload_n 0), (78, .getfield 17), (81, .iload_n 2), (82, .iload 4), (84, .sipush 201), (87, .invokestatic 47), (90, .iastore), (91, .iinc 2 1), (94, .goto (-92)), (97, .aload_n 0), (98, .getfield 17), (101, .iload_n 1), (102, .iaload), (103, .ireturn)]
def mc_60 : List (Nat × Instr) := [(0, .aload 4), (2, .invokevirtual 52), (5, .aload_n 0), (6, .iload_n 1), (7, .iconst 0), (8, .iload_n 2), (9, .iload_n 3), (10, .aload 4), (12, .invokevirtual 55), (15, .ireturn)]
def mc_61 : List (Nat × Instr) := [(0, .aload_n 0), (1, .getfield 11), (4, .iload_n 1), (5, .aaload), (6, .astore 6), (8, .iconst 0), (9, .istore 7), (11, .iload 7), (13, .aload 6), (15, .invokevirtual 36), (18, .if_icmp .ge 27), (21, .aload 6), (23, .iload 7), (25, .iload_n 2), (26, .iload_n 3), (27, .iload 4), (29, .aload 5), (31, .invokestatic 59), (34, .ifCond .ne 5), (37, .iconst 0), (38, .ireturn), (39, .iinc 7 1), (42, .goto (-31)), (45, .iconst 0), (46, .istore 7), (48, .iload 7), (50, .aload 6), (52, .invokevirtual 40), (55, .if_icmp .ge 27), (58, .aload_n 0), (59, .iload_n 1), (60, .iload 7), (62, .iload_n 2), (63, .iload_n 3), (64, .iload 4), (66, .aload 5), (68, .invokevirtual 63), (71, .ifCond .ne 5), (74, .iconst 0), (75, .ireturn), (76, .iinc 7 1), (79, .goto (-31)), (82, .iconst 1), (83, .ireturn)]
def mc_62 : List (Nat × Instr) := [(0, .aload_n 0), (1, .getfield 11), (4, .iload_n 1), (5, .aaload), (6, .astore 7), (8, .aload 7), (10, .iload_n 2), (11, .iconst 0), (12, .invokevirtual 43), (15, .istore 8), (17, .iload 8), (19, .iload_n 1), (20, .if_icmp .lt 5), (23, .iconst 0), (24, .ireturn), (25, .aload_n 0), (26, .getfield 17), (29, .iload 8), (31, .iaload), (32, .ifCond .ne 5), (35, .iconst 1), (36, .ireturn), (37, .aload 7), (39, .iload_n 2), (40, .iconst 1), (41, .invokevirtual 43), (44, .iload_n 3), (45, .invokestatic 67), (48, .istore 9), (50, .iconst 0), (51, .istore 10), (53, .iload 10), (55, .aload 7), (57, .iload_n 2), (58, .bipush 6), (60, .invokevirtual 43), (63, .if_icmp .ge 116), (66, .aload 7), (68, .iload_n 2), (69, .iconst 2), (70, .invokevirtual 43), (73, .iload 10), (75, .aload 7), (77, .iload_n 2), (78, .iconst 4), (79, .invokevirtual 43), (82, .imul), (83, .iadd), (84, .istore 11), (86, .iconst 0), (87, .istore 12), (89, .iload 12), (91, .aload 7), (93, .iload_n 2), (94, .bipush 7), (96, .invokevirtual 43), (99, .if_icmp .ge 74), (102, .aload 7), (104, .iload_n 2), (105, .iconst 3), (106, .invokevirtual 43), (109, .iload 12), (111, .aload 7), (113, .iload_n 2), (114, .iconst 5), (115, .invokevirtual 43), (118, .imul), (119, .iadd), (120, .istore 13), (122, .iload 4), (124, .iload_n 3), (125, .iload 11), (127, .iload 13), (129, .invokestatic 70), (132, .iadd), (133, .istore 14), (135, .iload 5), (137, .iload_n 3), (138, .iload 11), (140, .iload 13), (142, .invokestatic 74), (145, .iadd), (146, .istore 15), (148, .aload_n 0), (149, .iload 8), (151, .iload 9), (153, .iload 14), (155, .iload 15), (157, .aload 6), (159, .invokevirtual 55), (162, .ifCond .ne 5), (165, .iconst 0), (166, .ireturn), (167, .iinc 12 1), (170, .goto (-81)), (173, .iinc 10 1), (176, .goto (-123)), (179, .iconst 1), (180, .ireturn)]
def mc_63 : List (Nat × Instr) := [(0, .aload_n 0), (1, .iload_n 1), (2, .iconst 0), (3, .invokevirtual 77), (6, .istore 6), (8, .aload_n 0), (9, .iload_n 1), (10, .iconst 1), (11, .invokevirtual 77), (14, .istore 7), (16, .iload 6), (18, .aload_n 0), (19, .iload_n 1), (20, .iconst 2), (21, .invokevirtual 77), (24, .iadd), (25, .istore 8), (27, .iload 7), (29, .aload_n 0), (30, .iload_n 1), (31, .iconst 3), (32, .invokevirtual 77), (35, .iadd), (36, .istore 9), (38, .iload_n 3), (39, .iload_n 2), (40, .iload 6), (42, .iload 7), (44, .invokestatic 70), (47, .iadd), (48, .istore 10), (50, .iload 4), (52, .iload_n 2), (53, .iload 6), (55, .iload 7), (57, .invokestatic 74), (60, .iadd), (61, .istore 11), (63, .iload_n 3), (64, .iload_n 2), (65, .iload 8), (67, .iload 9), (69, .invokestatic 70), (72, .iadd), (73, .istore 12), (75, .iload 4), (77, .iload_n 2), (78, .iload 8), (80, .iload 9), (82, .invokestatic 74), (85, .iadd), (86, .istore 13), (88, .iload 12), (90, .iload 10), (92, .isub), (93, .invokestatic 80), (96, .istore 14), (98, .iload 13), (100, .iload 11), (102, .isub), (103, .invokestatic 80), (106, .istore 15), (108, .iload 10), (110, .iload 12), (112, .invokestatic 47), (115, .iload 11), (117, .iload 13), (119, .invokestatic 47), (122, .iload 14), (124, .iload 15), (126, .invokestatic 84), (129, .ifCond .ne 5), (132, .iconst 0), (133, .ireturn), (134, .aload 5), (136, .iload 10), (138, .iload 12), (140, .invokestatic 47), (143, .iload 11), (145, .iload 13), (147, .invokestatic 47), (150, .iload 14), (152, .iload 15), (154, .invokevirtual 87), (157, .iconst 1), (158, .ireturn)]
def mc_64 : List (Nat × Instr) := [(0, .iload_n 0), (1, .tableswitch 51 0 6 #[43, 45, 48, 51, 48, 45, 43]), (44, .iload_n 1), (45, .ireturn), (46, .iload_n 2), (47, .ineg), (48, .ireturn), (49, .iload_n 1), (50, .ineg), (51, .ireturn), (52, .iload_n 2), (53, .ireturn)]
def mc_65 : List (Nat × Instr) := [(0, .iload_n 0), (1, .tableswitch 54 0 7 #[47, 49, 51, 54, 47, 54, 51, 49]), (48, .iload_n 2), (49, .ireturn), (50, .iload_n 1), (51, .ireturn), (52, .iload_n 2), (53, .ineg), (54, .ireturn), (55, .iload_n 1), (56, .ineg), (57, .ireturn)]
def mc_66 : List (Nat × Instr) := [(0, .iload_n 1), (1, .iconst 4), (2, .if_icmp .ge 9), (5, .iload_n 1), (6, .iload_n 0), (7, .iadd), (8, .goto 6), (11, .iload_n 1), (12, .iload_n 0), (13, .isub), (14, .istore_n 2), (15, .iload_n 0), (16, .iload_n 1), (17, .ixor), (18, .iconst 4), (19, .iand), (20, .istore_n 3), (21, .iload_n 3), (22, .iload_n 2), (23, .iconst 3), (24, .iand), (25, .ior), (26, .ireturn)]
def mc_67 : List (Nat × Instr) := [(0, .aload_n 0), (1, .invokespecial 3), (4, .aload_n 0), (5, .bipush 24), (7, .newarray .int), (9, .putfield 11), (12, .aload_n 0), (13, .bipush 24), (15, .newarray .int), (17, .putfield 15), (20, .return_)]
def mc_68 : List (Nat × Instr) := [(0, .aload_n 0), (1, .getfield 18), (4, .bipush 24), (6, .if_icmp .ge 23), (9, .iload_n 1), (10, .ifCond .lt 19), (13, .iload_n 1), (14, .bipush 16), (16, .if_icmp .gt 13), (19, .iload_n 2), (20, .ifCond .lt 9), (23, .iload_n 2), (24, .bipush 16), (26, .if_icmp .le 5), (29, .iconst 0), (30, .ireturn), (31, .aload_n 0), (32, .getfield 11), (35, .aload_n 0), (36, .getfield 18), (39, .iload_n 1), (40, .iastore), (41, .aload_n 0), (42, .getfield 15), (45, .aload_n 0), (46, .getfield 18), (49, .iload_n 2), (50, .iastore), (51, .aload_n 0), (52, .dup), (53, .getfield 18), (56, .iconst 1), (57, .iadd), (58, .putfield 18), (61, .iconst 1), (62, .ireturn)]
def mc_69 : List (Nat × Instr) := [(0, .aload_n 0), (1, .iconst 0), (2, .putfield 18), (5, .return_)]
def mc_70 : List (Nat × Instr) := [(0, .aload_n 0), (1, .getfield 18), (4, .iconst 4), (5, .if_icmp .lt 12), (8, .aload_n 0), (9, .getfield 18), (12, .iconst 2), (13, .irem), (14, .ifCond .eq 5), (17, .iconst 0), (18, .ireturn), (19, .iconst 0), (20, .istore_n 1), (21, .iload_n 1), (22, .aload_n 0), (23, .getfield 18), (26, .if_icmp .ge 43), (29, .aload_n 0), (30, .iload_n 1), (31, .invokevirtual 22), (34, .istore_n 2), (35, .aload_n 0), (36, .iload_n 1), (37, .invokevirtual 26), (40, .aload_n 0), (41, .iload_n 1), (42, .invokevirtual 30), (45, .if_icmp .eq 16), (48, .aload_n 0), (49, .iload_n 1), (50, .invokevirtual 26), (53, .aload_n 0), (54, .iload_n 2), (55, .invokevirtual 26), (58, .if_icmp .ne 5), (61, .iconst 0), (62, .ireturn), (63, .iinc 1 1), (66, .goto (-45)), (69, .iconst 1), (70, .ireturn)]
def mc_71 : List (Nat × Instr) := [(0, .aload_n 1), (1, .invokevirtual 33), (4, .iconst 0), (5, .istore_n 2), (6, .iload_n 2), (7, .aload_n 0), (8, .getfield 18), (11, .if_icmp .ge 84), (14, .aload_n 0), (15, .iload_n 2), (16, .invokevirtual 22), (19, .istore_n 3), (20, .aload_n 0), (21, .getfield 15), (24, .iload_n 2), (25, .iaload), (26, .aload_n 0), (27, .getfield 15), (30, .iload_n 3), (31, .iaload), (32, .invokestatic 38), (35, .istore 4), (37, .aload_n 0), (38, .getfield 15), (41, .iload_n 2), (42, .iaload), (43, .aload_n 0), (44, .getfield 15), (47, .iload_n 3), (48, .iaload), (49, .invokestatic 44), (52, .istore 5), (54, .iload 5), (56, .iload 4), (58, .if_icmp .ge 31), (61, .aload_n 1), (62, .iload 5), (64, .aload_n 1), (65, .iload 5), (67, .invokevirtual 47), (70, .ldc 50), (72, .aload_n 0), (73, .getfield 11), (76, .iload_n 2), (77, .iaload), (78, .ishl), (79, .ixor), (80, .invokevirtual 51), (83, .iinc 5 1), (86, .goto (-32)), (89, .iinc 2 1), (92, .goto (-86)), (95, .return_)]
def mc_72 : List (Nat × Instr) := [(0, .iload_n 1), (1, .iconst 1), (2, .iadd), (3, .aload_n 0), (4, .getfield 18), (7, .if_icmp .ge 9), (10, .iload_n 1), (11, .iconst 1), (12, .iadd), (13, .goto 4), (16, .iconst 0), (17, .ireturn)]
def mc_73 : List (Nat × Instr) := [(0, .aload_n 0), (1, .getfield 11), (4, .iload_n 1), (5, .iaload), (6, .aload_n 0), (7, .getfield 11), (10, .aload_n 0), (11, .iload_n 1), (12, .invokevirtual 22), (15, .iaload), (16, .if_icmp .eq 7), (19, .iconst 1), (20, .goto 4), (23, .iconst 0), (24, .ireturn)]
def mc_74 : List (Nat × Instr) := [(0, .aload_n 0), (1, .getfield 15), (4, .iload_n 1), (5, .iaload), (6, .aload_n 0), (7, .getfield 15), (10, .aload_n 0), (11, .iload_n 1), (12, .invokevirtual 22), (15, .iaload), (16, .if_icmp .eq 7), (19, .iconst 1), (20, .goto 4), (23, .iconst 0), (24, .ireturn)]
def mc_75 : List (Nat × Instr) := [(0, .aload_n 0), (1, .invokespecial 1), (4, .aload_n 0), (5, .bipush 24), (7, .newarray .int), (9, .putfield 9), (12, .aload_n 0), (13, .bipush 32), (15, .newarray .int), (17, .putfield 13), (20, .return_)]
def mc_76 : List (Nat × Instr) := [(0, .aload_n 0), (1, .iconst 0), (2, .putfield 16), (5, .aload_n 0), (6, .iconst 0), (7, .putfield 20), (10, .return_)]
def mc_77 : List (Nat × Instr) := [(0, .aload_n 0), (1, .getfield 16), (4, .ireturn)]
def mc_78 : List (Nat × Instr) := [(0, .aload_n 0), (1, .getfield 20), (4, .ireturn)]
def mc_79 : List (Nat × Instr) := [(0, .aload_n 0), (1, .getfield 16), (4, .bipush 6), (6, .if_icmp .lt 5), (9, .iconst 0), (10, .ireturn), (11, .aload_n 0), (12, .getfield 16), (15, .iconst 4), (16, .imul), (17, .istore 5), (19, .aload_n 0), (20, .getfield 9), (23, .iload 5), (25, .iload_n 1), (26, .iastore), (27, .aload_n 0), (28, .getfield 9), (31, .iload 5), (33, .iconst 1), (34, .iadd), (35, .iload_n 2), (36, .iastore), (37, .aload_n 0), (38, .getfield 9), (41, .iload 5), (43, .iconst 2), (44, .iadd), (45, .iload_n 3), (46, .iastore), (47, .aload_n 0), (48, .getfield 9), (51, .iload 5), (53, .iconst 3), (54, .iadd), (55, .iload 4), (57, .iastore), (58, .aload_n 0), (59, .dup), (60, .getfield 16), (63, .iconst 1), (64, .iadd), (65, .putfield 16), (68, .iconst 1), (69, .ireturn)]
def mc_80 : List (Nat × Instr) := [(0, .aload_n 0), (1, .getfield 20), (4, .iconst 4), (5, .if_icmp .ge 10), (8, .aload_n 1), (9, .arraylength), (10, .bipush 8), (12, .if_icmp .ge 5), (15, .iconst 0), (16, .ireturn), (17, .aload_n 0), (18, .getfield 20), (21, .bipush 8), (23, .imul), (24, .istore_n 2), (25, .iconst 0), (26, .istore_n 3), (27, .iload_n 3), (28, .bipush 8), (30, .if_icmp .ge 20), (33, .aload_n 0), (34, .getfield 13), (37, .iload_n 2), (38, .iload_n 3), (39, .iadd), (40, .aload_n 1), (41, .iload_n 3), (42, .iaload), (43, .iastore), (44, .iinc 3 1), (47, .goto (-20)), (50, .aload_n 0), (51, .dup), (52, .getfield 20), (55, .iconst 1), (56, .iadd), (57, .putfield 20), (60, .iconst 1), (61, .ireturn)]
def mc_81 : List (Nat × Instr) := [(0, .aload_n 0), (1, .getfield 9), (4, .iload_n 1), (5, .iconst 4), (6, .imul), (7, .iload_n 2), (8, .iadd), (9, .iaload), (10, .ireturn)]
def mc_82 : List (Nat × Instr) := [(0, .aload_n 0), (1, .getfield 13), (4, .iload_n 1), (5, .bipush 8), (7, .imul), (8, .iload_n 2), (9, .iadd), (10, .iaload), (11, .ireturn)]
def mc_83 : List (Nat × Instr) := [(0, .aload_n 0), (1, .invokespecial 3), (4, .aload_n 0), (5, .new 9), (8, .dup), (9, .invokespecial 11), (12, .putfield 12), (15, .aload_n 0), (16, .new 9), (19, .dup), (20, .invokespecial 11), (23, .putfield 18), (26, .return_)]
def mc_84 : List (Nat × Instr) := [(0, .aload_n 0), (1, .getfield 12), (4, .aload_n 1), (5, .invokevirtual 21), (8, .aload_n 0), (9, .iconst 0), (10, .invokevirtual 25), (13, .ireturn)]
def mc_85 : List (Nat × Instr) := [(0, .aload_n 0), (1, .getfield 12), (4, .aload_n 1), (5, .invokevirtual 29), (8, .aload_n 0), (9, .getfield 18), (12, .invokevirtual 32), (15, .aload_n 0), (16, .getfield 18), (19, .iconst 0), (20, .aload_n 0), (21, .getfield 12), (24, .iconst 0), (25, .invokevirtual 35), (28, .invokevirtual 39), (31, .aload_n 0), (32, .getfield 18), (35, .bipush 15), (37, .aload_n 0), (38, .getfield 12), (41, .bipush 15), (43, .invokevirtual 35), (46, .invokevirtual 39), (49, .iconst 1), (50, .istore_n 2), (51, .iload_n 2), (52, .bipush 15), (54, .if_icmp .ge 28), (57, .aload_n 0), (58, .getfield 18), (61, .iload_n 2), (62, .aload_n 0), (63, .getfield 12), (66, .iload_n 2), (67, .invokevirtual 35), (70, .ldc 43), (72, .iand), (73, .invokevirtual 39), (76, .iinc 2 1), (79, .goto (-28)), (82, .aload_n 0), (83, .iconst 1), (84, .invokevirtual 44), (87, .aload_n 0), (88, .getfield 12), (91, .aload_n 0), (92, .getfield 18), (95, .invokevirtual 48), (98, .aload_n 0), (99, .iconst 1), (100, .invokevirtual 25), (103, .ireturn)]
def mc_86 : List (Nat × Instr) := [(0, .iconst 0), (1, .istore_n 2), (2, .iconst 0), (3, .istore_n 3), (4, .iload_n 3), (5, .bipush 16), (7, .if_icmp .ge 88), (10, .iconst 0), (11, .istore 4), (13, .iload 4), (15, .bipush 16), (17, .if_icmp .ge 72), (20, .aload_n 0), (21, .getfield 12), (24, .iload_n 3), (25, .invokevirtual 35), (28, .ifCond .eq 61), (31, .aload_n 0), (32, .getfield 18), (35, .invokevirtual 32), (38, .aload_n 0), (39, .getfield 18), (42, .iload_n 3), (43, .aload_n 0), (44, .getfield 12), (47, .iload_n 3), (48, .invokevirtual 35), (51, .aload_n 0), (52, .getfield 12), (55, .iload_n 3), (56, .invokevirtual 35), (59, .ineg), (60, .iand), (61, .invokevirtual 39), (64, .aload_n 0), (65, .iload_n 1), (66, .invokevirtual 44), (69, .aload_n 0), (70, .getfield 12), (73, .aload_n 0), (74, .getfield 18), (77, .invokevirtual 48), (80, .iinc 2 1), (83, .iinc 4 1), (86, .goto (-73)), (89, .iinc 3 1), (92, .goto (-88)), (95, .iload_n 2), (96, .ireturn)]
def mc_87 : List (Nat × Instr) := [(0, .iconst 1), (1, .istore_n 2), (2, .iconst 0), (3, .istore_n 3), (4, .iload_n 3), (5, .sipush 256), (8, .if_icmp .ge 66), (11, .iload_n 2), (12, .ifCond .eq 62), (15, .iconst 0), (16, .istore_n 2), (17, .iconst 0), (18, .istore 4), (20, .iload 4), (22, .bipush 16), (24, .if_icmp .ge 19), (27, .iload_n 2), (28, .aload_n 0), (29, .iload 4), (31, .iload_n 1), (32, .invokevirtual 51), (35, .ior), (36, .istore_n 2), (37, .iinc 4 1), (40, .goto (-20)), (43, .bipush 15), (45, .istore 4), (47, .iload 4), (49, .ifCond .lt 19), (52, .iload_n 2), (53, .aload_n 0), (54, .iload 4), (56, .iload_n 1), (57, .invokevirtual 51), (60, .ior), (61, .istore_n 2), (62, .iinc 4 (-1)), (65, .goto (-18)), (68, .iinc 3 1), (71, .goto (-67)), (74, .return_)]
def mc_88 : List (Nat × Instr) := [(0, .aload_n 0), (1, .getfield 18), (4, .iload_n 1), (5, .invokevirtual 35), (8, .istore_n 3), (9, .aload_n 0), (10, .getfield 18), (13, .iload_n 1), (14, .iconst 1), (15, .isub), (16, .invokevirtual 35), (19, .aload_n 0), (20, .getfield 18), (23, .iload_n 1), (24, .iconst 1), (25, .iadd), (26, .invokevirtual 35), (29, .ior), (30, .istore 4), (32, .iload_n 2), (33, .ifCond .eq 18), (36, .iload 4), (38, .iload 4), (40, .iconst 1), (41, .ishl), (42, .ior), (43, .iload 4), (45, .iconst 1), (46, .ishr), (47, .ior), (48, .goto 5), (51, .iload 4), (53, .istore 5), (55, .iload_n 3), (56, .iload 5), (58, .ior), (59, .aload_n 0), (60, .getfield 12), (63, .iload_n 1), (64, .invokevirtual 35), (67, .iand), (68, .istore 6), (70, .iconst 0), (71, .istore 7), (73, .iload 7), (75, .bipush 16), (77, .if_icmp .ge 46), (80, .iload 6), (82, .iload 6), (84, .iconst 1), (85, .ishl), (86, .ior), (87, .iload 6), (89, .iconst 1), (90, .ishr), (91, .ior), (92, .aload_n 0), (93, .getfield 12), (96, .iload_n 1), (97, .invokevirtual 35), (100, .iand), (101, .istore 8), (103, .iload 8), (105, .iload 6), (107, .if_icmp .ne 6), (110, .goto 13), (113, .iload 8), (115, .istore 6), (117, .iinc 7 1), (120, .goto (-47)), (123, .aload_n 0), (124, .getfield 18), (127, .iload_n 1), (128, .iload 6), (130, .invokevirtual 39), (133, .iload 6), (135, .iload_n 3), (136, .if_icmp .eq 7), (139, .iconst 1), (140, .goto 4), (143, .iconst 0), (144, .ireturn)]
def mc_89 : List (Nat × Instr) := [(0, .aload 4), (2, .invokevirtual 55), (5, .iconst 0), (6, .istore 5), (8, .iload 5), (10, .bipush 16), (12, .if_icmp .ge 61), (15, .aload_n 1), (16, .iload 5), (18, .invokevirtual 35), (21, .istore 6), (23, .iconst 0), (24, .istore 7), (26, .iload 7), (28, .bipush 16), (30, .if_icmp .ge 37), (33, .iload 6), (35, .iload 7), (37, .iload_n 2), (38, .iload_n 3), (39, .invokestatic 58), (42, .istore 8), (44, .iload 8), (46, .ifCond .le 15), (49, .aload 4), (51, .iload 7), (53, .iload 5), (55, .iload 8), (57, .iconst 0), (58, .invokevirtual 62), (61, .iinc 7 1), (64, .goto (-38)), (67, .iinc 5 1), (70, .goto (-62)), (73, .iconst 0), (74, .istore 5), (76, .iload 5), (78, .bipush 16), (80, .if_icmp .ge 61), (83, .aload_n 1), (84, .iload 5), (86, .invokevirtual 66), (89, .istore 6), (91, .iconst 0), (92, .istore 7), (94, .iload 7), (96, .bipush 16), (98, .if_icmp .ge 37), (101, .iload 6), (103, .iload 7), (105, .iload_n 2), (106, .iload_n 3), (107, .invokestatic 58), (110, .istore 8), (112, .iload 8), (114, .ifCond .le 15), (117, .aload 4), (119, .iload 5), (121, .iload 7), (123, .iload 8), (125, .iconst 1), (126, .invokevirtual 62), (129, .iinc 7 1), (132, .goto (-38)), (135, .iinc 5 1), (138, .goto (-62)), (141, .return_)]
def mc_90 : List (Nat × Instr) := [(0, .iload_n 2), (1, .ifCond .eq 12), (4, .iload_n 0), (5, .iconst (-1)), (6, .ixor), (7, .ldc 69), (9, .iand), (10, .goto 4), (13, .iload_n 0), (14, .istore 4), (16, .iload 4), (18, .iload_n 1), (19, .invokestatic 70), (22, .ifCond .eq 18), (25, .iload_n 1), (26, .ifCond .le 16), (29, .iload 4), (31, .iload_n 1), (32, .iconst 1), (33, .isub), (34, .invokestatic 70), (37, .ifCond .eq 5), (40, .iconst 0), (41, .ireturn), (42, .iload 4), (44, .iload_n 1), (45, .invokestatic 74), (48, .istore 5), (50, .iload_n 2), (51, .ifCond .eq 16), (54, .iload_n 1), (55, .ifCond .eq 10), (58, .iload 5), (60, .bipush 16), (62, .if_icmp .ne 5), (65, .iconst 0), (66, .ireturn), (67, .iload 5), (69, .iload_n 1), (70, .isub), (71, .iload_n 3), (72, .if_icmp .ge 10), (75, .iload 5), (77, .iload_n 1), (78, .isub), (79, .goto 4), (82, .iconst 0), (83, .ireturn)]
def mc_91 : List (Nat × Instr) := [(0, .aload_n 0), (1, .invokespecial 1), (4, .aload_n 0), (5, .sipush 400), (8, .newarray .int), (10, .putfield 9), (13, .return_)]
def mc_92 : List (Nat × Instr) := [(0, .aload_n 0), (1, .iconst 0), (2, .putfield 13), (5, .return_)]
def mc_93 : List (Nat × Instr) := [(0, .aload_n 0), (1, .getfield 13), (4, .ireturn)]
def mc_94 : List (Nat × Instr) := [(0, .iload_n 1), (1, .ifCond .lt 15), (4, .iload_n 1), (5, .aload_n 0), (6, .getfield 13), (9, .if_icmp .ge 7), (12, .iconst 1), (13, .goto 4), (16, .iconst 0), (17, .ireturn)]
def mc_95 : List (Nat × Instr) := [(0, .aload_n 0), (1, .iload_n 1), (2, .invokevirtual 17), (5, .ifCond .eq 12), (8, .aload_n 0), (9, .getfield 9), (12, .iload_n 1), (13, .iaload), (14, .goto 4), (17, .iconst 0), (18, .ireturn)]
def mc_96 : List (Nat × Instr) := [(0, .aload_n 0), (1, .getfield 13), (4, .sipush 400), (7, .if_icmp .lt 5), (10, .iconst 0), (11, .ireturn), (12, .aload_n 0), (13, .getfield 9), (16, .aload_n 0), (17, .getfield 13), (20, .iload_n 1), (21, .iastore), (22, .aload_n 0), (23, .dup), (24, .getfield 13), (27, .iconst 1), (28, .iadd), (29, .putfield 13), (32, .iconst 1), (33, .ireturn)]
def mc_97 : List (Nat × Instr) := [(0, .aload_n 0), (1, .aload_n 1), (2, .getfield 13), (5, .putfield 13), (8, .iconst 0), (9, .istore_n 2), (10, .iload_n 2), (11, .aload_n 0), (12, .getfield 13), (15, .if_icmp .ge 21), (18, .aload_n 0), (19, .getfield 9), (22, .iload_n 2), (23, .aload_n 1), (24, .getfield 9), (27, .iload_n 2), (28, .iaload), (29, .iastore), (30, .iinc 2 1), (33, .goto (-23)), (36, .return_)]
def mc_98 : List (Nat × Instr) := [(0, .aload_n 0), (1, .invokespecial 3), (4, .return_)]
def mc_99 : List (Nat × Instr) := [(0, .aload_n 2), (1, .invokevirtual 9), (4, .aload_n 0), (5, .iconst 0), (6, .putfield 16), (9, .aload_n 0), (10, .iconst 0), (11, .putfield 20), (14, .iconst 0), (15, .istore_n 3), (16, .iload_n 3), (17, .aload_n 1), (18, .invokevirtual 23), (21, .if_icmp .ge 26), (24, .aload_n 0), (25, .aload_n 1), (26, .iload_n 3), (27, .invokevirtual 29), (30, .aload_n 2), (31, .invokevirtual 33), (34, .ifCond .ne 7), (37, .iconst (-1)), (38, .iload_n 3), (39, .isub), (40, .ireturn), (41, .iinc 3 1), (44, .goto (-28)), (47, .aload_n 0), (48, .getfield 16), (51, .bipush 8), (53, .if_icmp .ne 10), (56, .aload_n 0), (57, .getfield 20), (60, .goto 9), (63, .iconst (-1)), (64, .aload_n 1), (65, .invokevirtual 23), (68, .isub), (69, .ireturn)]
def mc_100 : List (Nat × Instr) := [(0, .aload_n 0), (1, .getfield 16), (4, .tableswitch 235 0 7 #[48, 54, 81, 102, 129, 156, 163, 194]), (52, .aload_n 0), (53, .iload_n 1), (54, .invokevirtual 37), (57, .ireturn), (58, .aload_n 0), (59, .iload_n 1), (60, .putfield 41), (63, .aload_n 0), (64, .iconst 2), (65, .putfield 16), (68, .iload_n 1), (69, .iconst 1), (70, .if_icmp .lt 13), (73, .iload_n 1), (74, .bipush 16), (76, .if_icmp .gt 7), (79, .iconst 1), (80, .goto 4), (83, .iconst 0), (84, .ireturn), (85, .aload_n 0), (86, .iload_n 1), (87, .putfield 44), (90, .aload_n 0), (91, .iconst 3), (92, .putfield 16), (95, .iload_n 1), (96, .iconst 1), (97, .if_icmp .lt 7), (100, .iconst 1), (101, .goto 4), (104, .iconst 0), (105, .ireturn), (106, .aload_n 0), (107, .iload_n 1), (108, .putfield 47), (111, .aload_n 0), (112, .iconst 4), (113, .putfield 16), (116, .iload_n 1), (117, .bipush 16), (119, .aload_n 0), (120, .getfield 50), (123, .isub), (124, .if_icmp .gt 7), (127, .iconst 1), (128, .goto 4), (131, .iconst 0), (132, .ireturn), (133, .aload_n 0), (134, .iload_n 1), (135, .putfield 53), (138, .aload_n 0), (139, .iconst 5), (140, .putfield 16), (143, .iload_n 1), (144, .bipush 16), (146, .aload_n 0), (147, .getfield 41), (150, .isub), (151, .if_icmp .gt 7), (154, .iconst 1), (155, .goto 4), (158, .iconst 0), (159, .ireturn), (160, .aload_n 0), (161, .iload_n 1), (162, .aload_n 2), (163, .invokevirtual 56), (166, .ireturn), (167, .aload_n 0), (168, .iload_n 1), (169, .invokestatic 59), (172, .putfield 62), (175, .aload_n 0), (176, .bipush 7), (178, .putfield 16), (181, .aload_n 0), (182, .aload_n 0), (183, .getfield 47), (186, .aload_n 0), (187, .getfield 62), (190, .aload_n 0), (191, .getfield 50), (194, .invokevirtual 65), (197, .ireturn), (198, .aload_n 0), (199, .iload_n 1), (200, .invokestatic 59), (203, .putfield 69), (206, .aload_n 0), (207, .aload_n 0), (208, .getfield 53), (211, .aload_n 0), (212, .getfield 69), (215, .aload_n 0), (216, .getfield 41), (219, .invokevirtual 65), (222, .ifCond .eq 15), (225, .aload_n 0), (226, .aload_n 2), (227, .invokevirtual 72), (230, .ifCond .eq 7), (233, .iconst 1), (234, .goto 4), (237, .iconst 0), (238, .ireturn), (239, .iconst 0), (240, .ireturn)]
def mc_101 : List (Nat × Instr) := [(0, .aload_n 0), (1, .iload_n 1), (2, .putfield 50), (5, .aload_n 0), (6, .iload_n 1), (7, .ifCond .ne 8), (10, .bipush 8), (12, .goto 4), (15, .iconst 1), (16, .putfield 16), (19, .iload_n 1), (20, .bipush 16), (22, .if_icmp .gt 7), (25, .iconst 1), (26, .goto 4), (29, .iconst 0), (30, .ireturn)]
def mc_102 : List (Nat × Instr) := [(0, .aload_n 0), (1, .iload_n 1), (2, .putfield 76), (5, .aload_n 0), (6, .iconst 0), (7, .putfield 62), (10, .aload_n 0), (11, .iconst 0), (12, .putfield 69), (15, .iload_n 1), (16, .iconst 1), (17, .if_icmp .ne 9), (20, .aload_n 0), (21, .aload_n 2), (22, .invokevirtual 72), (25, .ireturn), (26, .aload_n 0), (27, .bipush 6), (29, .putfield 16), (32, .iload_n 1), (33, .iconst 1), (34, .if_icmp .le 7), (37, .iconst 1), (38, .goto 4), (41, .iconst 0), (42, .ireturn)]
def mc_103 : List (Nat × Instr) := [(0, .iload_n 0), (1, .sipush 128), (4, .if_icmp .ge 7), (7, .iload_n 0), (8, .goto 8), (11, .iload_n 0), (12, .sipush 256), (15, .isub), (16, .ireturn)]
def mc_104 : List (Nat × Instr) := [(0, .iload_n 1), (1, .aload_n 0), (2, .getfield 76), (5, .iconst 1), (6, .isub), (7, .iload_n 2), (8, .imul), (9, .iadd), (10, .istore 4), (12, .iload 4), (14, .ifCond .lt 16), (17, .iload 4), (19, .bipush 16), (21, .iload_n 3), (22, .isub), (23, .if_icmp .gt 7), (26, .iconst 1), (27, .goto 4), (30, .iconst 0), (31, .ireturn)]
def mc_105 : List (Nat × Instr) := [(0, .aload_n 0), (1, .dup), (2, .getfield 20), (5, .aload_n 0), (6, .getfield 76), (9, .iadd), (10, .putfield 20), (13, .aload_n 0), (14, .getfield 62), (17, .ifCond .ne 14), (20, .aload_n 0), (21, .getfield 69), (24, .ifCond .ne 7), (27, .iconst 1), (28, .goto 7), (31, .aload_n 0), (32, .getfield 76), (35, .istore_n 2), (36, .iconst 0), (37, .istore_n 3), (38, .iload_n 3), (39, .iload_n 2), (40, .if_icmp .ge 43), (43, .aload_n 1), (44, .aload_n 0), (45, .getfield 47), (48, .iload_n 3), (49, .aload_n 0), (50, .getfield 62), (53, .imul), (54, .iadd), (55, .aload_n 0), (56, .getfield 53), (59, .iload_n 3), (60, .aload_n 0), (61, .getfield 69), (64, .imul), (65, .iadd), (66, .aload_n 0), (67, .getfield 50), (70, .aload_n 0), (71, .getfield 41), (74, .invokevirtual 79), (77, .iinc 3 1), (80, .goto (-42)), (83, .aload_n 0), (84, .dup), (85, .getfield 44), (88, .iconst 1), (89, .isub), (90, .putfield 44), (93, .aload_n 0), (94, .aload_n 0), (95, .getfield 44), (98, .ifCond .le 7), (101, .iconst 3), (102, .goto 4), (105, .iconst 0), (106, .putfield 16), (109, .iconst 1), (110, .ireturn)]
def mc_106 : List (Nat × Instr) := [(0, .aload_n 0), (1, .invokespecial 3), (4, .aload_n 0), (5, .new 9), (8, .dup), (9, .invokespecial 11), (12, .putfield 12), (15, .aload_n 0), (16, .sipush 256), (19, .newarray .int), (21, .putfield 18), (24, .aload_n 0), (25, .sipush 256), (28, .newarray .int), (30, .putfield 22), (33, .return_)]
def mc_107 : List (Nat × Instr) := [(0, .aload_n 0), (1, .getfield 12), (4, .areturn)]
def mc_108 : List (Nat × Instr) := [(0, .aload_n 0), (1, .getfield 12), (4, .invokevirtual 25), (7, .aload_n 0), (8, .iconst 1), (9, .putfield 28), (12, .aload_n 1), (13, .iconst 0), (14, .invokestatic 32), (17, .istore_n 2), (18, .iconst 0), (19, .istore_n 3), (20, .iload_n 3), (21, .sipush 256), (24, .if_icmp .ge 25), (27, .iload_n 2), (28, .ifCond .le 21), (31, .aload_n 0), (32, .aload_n 1), (33, .iload_n 2), (34, .invokevirtual 36), (37, .aload_n 1), (38, .iload_n 2), (39, .invokestatic 32), (42, .istore_n 2), (43, .iinc 3 1), (46, .goto (-26)), (49, .aload_n 0), (50, .iconst 0), (51, .invokevirtual 40), (54, .aload_n 0), (55, .getfield 28), (58, .ireturn)]
def mc_109 : List (Nat × Instr) := [(0, .aload_n 0), (1, .iload_n 1), (2, .iconst 2), (3, .invokevirtual 44), (6, .bipush 17), (8, .imul), (9, .aload_n 0), (10, .iload_n 1), (11, .iconst 3), (12, .invokevirtual 44), (15, .iadd), (16, .ireturn)]
def mc_110 : List (Nat × Instr) := [(0, .iconst 0), (1, .istore_n 2), (2, .iconst 0), (3, .istore_n 3), (4, .iload_n 3), (5, .aload_n 0), (6, .invokevirtual 50), (9, .if_icmp .ge 35), (12, .aload_n 0), (13, .iload_n 3), (14, .invokestatic 54), (17, .istore 4), (19, .iload 4), (21, .iload_n 1), (22, .if_icmp .le 16), (25, .iload_n 2), (26, .ifCond .eq 9), (29, .iload 4), (31, .iload_n 2), (32, .if_icmp .ge 6), (35, .iload 4), (37, .istore_n 2), (38, .iinc 3 1), (41, .goto (-37)), (44, .iload_n 2), (45, .ireturn)]
def mc_111 : List (Nat × Instr) := [(0, .aload_n 0), (1, .aload_n 1), (2, .iload_n 2), (3, .invokevirtual 57), (6, .aload_n 0), (7, .iload_n 2), (8, .bipush 17), (10, .idiv), (11, .invokevirtual 40), (14, .aload_n 0), (15, .iload_n 2), (16, .bipush 17), (18, .irem), (19, .invokevirtual 40), (22, .aload_n 0), (23, .aload_n 0), (24, .invokevirtual 60), (27, .invokevirtual 40), (30, .iconst 0), (31, .istore_n 3), (32, .iconst 0), (33, .istore 4), (35, .iload 4), (37, .aload_n 0), (38, .getfield 63), (41, .if_icmp .ge 32), (44, .iload 4), (46, .iload_n 3), (47, .if_icmp .ne 20), (50, .aload_n 0), (51, .iload 4), (53, .invokevirtual 67), (56, .istore_n 3), (57, .aload_n 0), (58, .iload 4), (60, .iload_n 3), (61, .iload 4), (63, .isub), (64, .invokevirtual 71), (67, .iinc 4 1), (70, .goto (-35)), (73, .return_)]
def mc_112 : List (Nat × Instr) := [(0, .aload_n 0), (1, .iconst 0), (2, .putfield 63), (5, .iconst 0), (6, .istore_n 3), (7, .iload_n 3), (8, .aload_n 1), (9, .invokevirtual 50), (12, .if_icmp .ge 58), (15, .aload_n 1), (16, .iload_n 3), (17, .invokestatic 54), (20, .iload_n 2), (21, .if_icmp .ne 43), (24, .aload_n 0), (25, .getfield 18), (28, .aload_n 0), (29, .getfield 63), (32, .aload_n 1), (33, .iload_n 3), (34, .iconst 0), (35, .invokevirtual 44), (38, .iastore), (39, .aload_n 0), (40, .getfield 22), (43, .aload_n 0), (44, .getfield 63), (47, .aload_n 1), (48, .iload_n 3), (49, .iconst 1), (50, .invokevirtual 44), (53, .iastore), (54, .aload_n 0), (55, .dup), (56, .getfield 63), (59, .iconst 1), (60, .iadd), (61, .putfield 63), (64, .iinc 3 1), (67, .goto (-60)), (70, .return_)]
def mc_113 : List (Nat × Instr) := [(0, .iconst 0), (1, .istore_n 1), (2, .iconst 0), (3, .istore_n 2), (4, .iconst 0), (5, .istore_n 3), (6, .iload_n 3), (7, .aload_n 0), (8, .getfield 63), (11, .if_icmp .ge 23), (14, .iload_n 3), (15, .iload_n 2), (16, .if_icmp .ne 12), (19, .aload_n 0), (20, .iload_n 3), (21, .invokevirtual 67), (24, .istore_n 2), (25, .iinc 1 1), (28, .iinc 3 1), (31, .goto (-25)), (34, .iload_n 1), (35, .ireturn)]
def mc_114 : List (Nat × Instr) := [(0, .iload_n 1), (1, .iconst 1), (2, .iadd), (3, .istore_n 2), (4, .iload_n 2), (5, .aload_n 0), (6, .getfield 63), (9, .if_icmp .ge 18), (12, .aload_n 0), (13, .iload_n 1), (14, .iload_n 2), (15, .invokevirtual 75), (18, .ifCond .eq 9), (21, .iinc 2 1), (24, .goto (-20)), (27, .iload_n 2), (28, .ireturn)]
def mc_115 : List (Nat × Instr) := [(0, .aload_n 0), (1, .getfield 18), (4, .iload_n 2), (5, .iaload), (6, .aload_n 0), (7, .getfield 18), (10, .iload_n 2), (11, .iconst 1), (12, .isub), (13, .iaload), (14, .isub), (15, .aload_n 0), (16, .getfield 18), (19, .iload_n 1), (20, .iconst 1), (21, .iadd), (22, .iaload), (23, .aload_n 0), (24, .getfield 18), (27, .iload_n 1), (28, .iaload), (29, .isub), (30, .if_icmp .ne 40), (33, .aload_n 0), (34, .getfield 22), (37, .iload_n 2), (38, .iaload), (39, .aload_n 0), (40, .getfield 22), (43, .iload_n 2), (44, .iconst 1), (45, .isub), (46, .iaload), (47, .isub), (48, .aload_n 0), (49, .getfield 22), (52, .iload_n 1), (53, .iconst 1), (54, .iadd), (55, .iaload), (56, .aload_n 0), (57, .getfield 22), (60, .iload_n 1), (61, .iaload), (62, .isub), (63, .if_icmp .ne 7), (66, .iconst 1), (67, .goto 4), (70, .iconst 0), (71, .ireturn)]
def mc_116 : List (Nat × Instr) := [(0, .aload_n 0), (1, .aload_n 0), (2, .getfield 18), (5, .iload_n 1), (6, .iaload), (7, .invokevirtual 40), (10, .aload_n 0), (11, .aload_n 0), (12, .getfield 22), (15, .iload_n 1), (16, .iaload), (17, .invokevirtual 40), (20, .aload_n 0), (21, .iload_n 2), (22, .invokevirtual 40), (25, .iload_n 2), (26, .iconst 1), (27, .if_icmp .le 49), (30, .aload_n 0), (31, .aload_n 0), (32, .getfield 18), (35, .iload_n 1), (36, .iconst 1), (37, .iadd), (38, .iaload), (39, .aload_n 0), (40, .getfield 18), (43, .iload_n 1), (44, .iaload), (45, .isub), (46, .sipush 255), (49, .iand), (50, .invokevirtual 40), (53, .aload_n 0), (54, .aload_n 0), (55, .getfield 22), (58, .iload_n 1), (59, .iconst 1), (60, .iadd), (61, .iaload), (62, .aload_n 0), (63, .getfield 22), (66, .iload_n 1), (67, .iaload), (68, .isub), (69, .sipush 255), (72, .iand), (73, .invokevirtual 40), (76, .return_)]
def mc_117 : List (Nat × Instr) := [(0, .aload_n 0), (1, .dup), (2, .getfield 28), (5, .aload_n 0), (6, .getfield 12), (9, .iload_n 1), (10, .invokevirtual 79), (13, .iand), (14, .putfield 28), (17, .return_)]
def mc_118 : List (Nat × Instr) := [(0, .aload_n 0), (1, .invokespecial 3), (4, .aload_n 0), (5, .bipush 6), (7, .anewarray 9), (10, .putfield 11), (13, .aload_n 0), (14, .new 9), (17, .dup), (18, .invokespecial 15), (21, .putfield 16), (24, .aload_n 0), (25, .new 20), (28, .dup), (29, .invokespecial 22), (32, .putfield 23), (35, .aload_n 0), (36, .new 27), (39, .dup), (40, .invokespecial 29), (43, .putfield 30), (46, .aload_n 0), (47, .new 34), (50, .dup), (51, .invokespecial 36), (54, .putfield 37), (57, .aload_n 0), (58, .new 41), (61, .dup), (62, .invokespecial 43), (65, .putfield 44), (68, .aload_n 0), (69, .new 48), (72, .dup), (73, .invokespecial 50), (76, .putfield 51), (79, .aload_n 0), (80, .new 55), (83, .dup), (84, .invokespecial 57), (87, .putfield 58), (90, .aload_n 0), (91, .new 55), (94, .dup), (95, .invokespecial 57), (98, .putfield 62), (101, .aload_n 0), (102, .new 65), (105, .dup), (106, .invokespecial 67), (109, .putfield 68), (112, .aload_n 0), (113, .new 72), (116, .dup), (117, .invokespecial 74), (120, .putfield 75), (123, .aload_n 0), (124, .new 79), (127, .dup), (128, .invokespecial 81), (131, .putfield 82), (134, .iconst 0), (135, .istore_n 1), (136, .iload_n 1), (137, .bipush 6), (139, .if_icmp .ge 22), (142, .aload_n 0), (143, .getfield 11), (146, .iload_n 1), (147, .new 9), (150, .dup), (151, .invokespecial 15), (154, .aastore), (155, .iinc 1 1), (158, .goto (-22)), (161, .return_)]
def mc_119 : List (Nat × Instr) := [(0, .iload_n 1), (1, .invokestatic 86), (4, .ifCond .eq 15), (7, .iload_n 2), (8, .iload_n 3), (9, .iload 4), (11, .iload 5), (13, .invokestatic 90), (16, .ifCond .ne 5), (19, .iconst 0), (20, .ireturn), (21, .aload_n 0), (22, .getfield 11), (25, .iload_n 1), (26, .aaload), (27, .iload_n 2), (28, .iload_n 3), (29, .iload 4), (31, .iload 5), (33, .invokevirtual 94), (36, .iconst 1), (37, .ireturn)]
def mc_120 : List (Nat × Instr) := [(0, .aload_n 0), (1, .getfield 23), (4, .iload_n 1), (5, .iload_n 2), (6, .invokevirtual 98), (9, .ireturn)]
def mc_121 : List (Nat × Instr) := [(0, .iload_n 1), (1, .invokestatic 86), (4, .ifCond .eq 17), (7, .aload_n 0), (8, .getfield 23), (11, .invokevirtual 102), (14, .ifCond .eq 7), (17, .iconst 1), (18, .goto 4), (21, .iconst 0), (22, .istore_n 2), (23, .iload_n 2), (24, .ifCond .eq 27), (27, .aload_n 0), (28, .getfield 23), (31, .aload_n 0), (32, .getfield 16), (35, .invokevirtual 106), (38, .aload_n 0), (39, .getfield 11), (42, .iload_n 1), (43, .aaload), (44, .aload_n 0), (45, .getfield 16), (48, .invokevirtual 110), (51, .aload_n 0), (52, .getfield 23), (55, .invokevirtual 113), (58, .iload_n 2), (59, .ireturn)]
def mc_122 : List (Nat × Instr) := [(0, .iload_n 1), (1, .invokestatic 86), (4, .ifCond .eq 28), (7, .iload_n 2), (8, .invokestatic 86), (11, .ifCond .eq 21), (14, .iload_n 3), (15, .invokestatic 86), (18, .ifCond .eq 14), (21, .iload 4), (23, .ifCond .lt 9), (26, .iload 4), (28, .iconst 3), (29, .if_icmp .le 5), (32, .iconst 0), (33, .ireturn), (34, .aload_n 0), (35, .getfield 11), (38, .iload_n 1), (39, .aaload), (40, .aload_n 0), (41, .getfield 11), (44, .iload_n 2), (45, .aaload), (46, .aload_n 0), (47, .getfield 11), (50, .iload_n 3), (51, .aaload), (52, .iload 4), (54, .invokevirtual 116), (57, .iconst 1), (58, .ireturn)]
def mc_123 : List (Nat × Instr) := [(0, .iload_n 1), (1, .invokestatic 86), (4, .ifCond .eq 19), (7, .iload_n 2), (8, .invokestatic 86), (11, .ifCond .eq 12), (14, .iload_n 3), (15, .bipush 8), (17, .invokestatic 120), (20, .ifCond .ne 5), (23, .iconst 0), (24, .ireturn), (25, .aload_n 0), (26, .getfield 11), (29, .iload_n 1), (30, .aaload), (31, .aload_n 0), (32, .getfield 11), (35, .iload_n 2), (36, .aaload), (37, .invokevirtual 123), (40, .iconst 0), (41, .istore 4), (43, .iload 4), (45, .iload_n 3), (46, .if_icmp .ge 18), (49, .aload_n 0), (50, .getfield 11), (53, .iload_n 1), (54, .aaload), (55, .invokevirtual 126), (58, .iinc 4 1), (61, .goto (-18)), (64, .iconst 0), (65, .istore 4), (67, .iload 4), (69, .iload_n 3), (70, .ineg), (71, .if_icmp .ge 18), (74, .aload_n 0), (75, .getfield 11), (78, .iload_n 1), (79, .aaload), (80, .invokevirtual 129), (83, .iinc 4 1), (86, .goto (-19)), (89, .iconst 1), (90, .ireturn)]
def mc_124 : List (Nat × Instr) := [(0, .iload_n 1), (1, .invokestatic 132), (4, .ifCond .eq 21), (7, .iload_n 2), (8, .bipush 16), (10, .invokestatic 120), (13, .ifCond .eq 12), (16, .iload_n 3), (17, .bipush 16), (19, .invokestatic 120), (22, .ifCond .ne 5), (25, .iconst 0), (26, .ireturn), (27, .iload 4), (29, .iconst 1), (30, .if_icmp .lt 23), (33, .iload 4), (35, .bipush 16), (37, .if_icmp .gt 16), (40, .iload 5), (42, .iconst 1), (43, .if_icmp .lt 10), (46, .iload 5), (48, .bipush 16), (50, .if_icmp .le 5), (53, .iconst 0), (54, .ireturn), (55, .aload_n 0), (56, .getfield 30), (59, .iload_n 1), (60, .iload_n 2), (61, .iload_n 3), (62, .iload 4), (64, .iload 5), (66, .invokevirtual 135), (69, .ireturn)]
def mc_125 : List (Nat × Instr) := [(0, .iload_n 1), (1, .bipush 16), (3, .invokestatic 120), (6, .ifCond .eq 22), (9, .iload_n 2), (10, .bipush 16), (12, .invokestatic 120), (15, .ifCond .eq 13), (18, .iload_n 3), (19, .ifCond .lt 9), (22, .iload_n 3), (23, .bipush 7), (25, .if_icmp .le 5), (28, .iconst 0), (29, .ireturn), (30, .aload_n 0), (31, .getfield 30), (34, .iload_n 1), (35, .iload_n 2), (36, .iload_n 3), (37, .invokevirtual 139), (40, .iconst 1), (41, .ireturn)]
def mc_126 : List (Nat × Instr) := [(0, .iload_n 1), (1, .bipush 16), (3, .invokestatic 120), (6, .ifCond .eq 12), (9, .iload_n 2), (10, .bipush 16), (12, .invokestatic 120), (15, .ifCond .ne 5), (18, .iconst 0), (19, .ireturn), (20, .aload_n 0), (21, .getfield 30), (24, .iload_n 1), (25, .iload_n 2), (26, .invokevirtual 143), (29, .iconst 1), (30, .ireturn)]
def mc_127 : List (Nat × Instr) := [(0, .iload_n 1), (1, .invokestatic 132), (4, .ifCond .eq 15), (7, .iload_n 2), (8, .invokestatic 132), (11, .ifCond .eq 8), (14, .iload_n 2), (15, .iload_n 1), (16, .if_icmp .lt 5), (19, .iconst 0), (20, .ireturn), (21, .iload_n 3), (22, .iconst 1), (23, .if_icmp .lt 20), (26, .iload_n 3), (27, .iconst 4), (28, .if_icmp .gt 15), (31, .iload 4), (33, .iconst 1), (34, .if_icmp .lt 9), (37, .iload 4), (39, .iconst 4), (40, .if_icmp .le 5), (43, .iconst 0), (44, .ireturn), (45, .aload_n 0), (46, .getfield 30), (49, .iload_n 1), (50, .iload_n 2), (51, .iload_n 3), (52, .iload 4), (54, .invokevirtual 147), (57, .ireturn)]
def mc_128 : List (Nat × Instr) := [(0, .iload_n 1), (1, .invokestatic 132), (4, .ifCond .ne 5), (7, .iconst 0), (8, .ireturn), (9, .aload_n 0), (10, .getfield 30), (13, .iload_n 1), (14, .invokevirtual 150), (17, .iconst 1), (18, .ireturn)]
def mc_129 : List (Nat × Instr) := [(0, .iload_n 1), (1, .invokestatic 86), (4, .ifCond .eq 29), (7, .iload_n 2), (8, .invokestatic 132), (11, .ifCond .eq 22), (14, .iload_n 3), (15, .bipush 32), (17, .invokestatic 120), (20, .ifCond .eq 13), (23, .iload 4), (25, .bipush 32), (27, .invokestatic 120), (30, .ifCond .ne 7), (33, .sipush (-1000)), (36, .ireturn), (37, .aload_n 0), (38, .getfield 30), (41, .iload_n 2), (42, .invokevirtual 154), (45, .istore 5), (47, .iload 5), (49, .sipush 200), (52, .if_icmp .gt 21), (55, .aload_n 0), (56, .getfield 30), (59, .iload_n 2), (60, .iload_n 3), (61, .iload 4), (63, .aload_n 0), (64, .getfield 16), (67, .invokevirtual 158), (70, .ifCond .ne 7), (73, .sipush (-1000)), (76, .ireturn), (77, .aload_n 0), (78, .getfield 11), (81, .iload_n 1), (82, .aaload), (83, .aload_n 0), (84, .getfield 16), (87, .invokevirtual 110), (90, .iload 5), (92, .ireturn)]
def mc_130 : List (Nat × Instr) := [(0, .iload_n 1), (1, .invokestatic 86), (4, .ifCond .eq 21), (7, .aload_n 0), (8, .getfield 11), (11, .iload_n 1), (12, .aaload), (13, .iload_n 2), (14, .iload_n 3), (15, .invokevirtual 162), (18, .ifCond .eq 7), (21, .iconst 1), (22, .goto 4), (25, .iconst 0), (26, .ireturn)]
def mc_131 : List (Nat × Instr) := [(0, .iload_n 1), (1, .invokestatic 86), (4, .ifCond .ne 7), (7, .sipush (-1000)), (10, .ireturn), (11, .iload_n 2), (12, .tableswitch 116 0 4 #[36, 46, 60, 74, 95]), (48, .aload_n 0), (49, .getfield 11), (52, .iload_n 1), (53, .aaload), (54, .invokevirtual 165), (57, .ireturn), (58, .aload_n 0), (59, .getfield 37), (62, .aload_n 0), (63, .getfield 11), (66, .iload_n 1), (67, .aaload), (68, .invokevirtual 169), (71, .ireturn), (72, .aload_n 0), (73, .getfield 37), (76, .aload_n 0), (77, .getfield 11), (80, .iload_n 1), (81, .aaload), (82, .invokevirtual 173), (85, .ireturn), (86, .aload_n 0), (87, .getfield 44), (90, .aload_n 0), (91, .getfield 11), (94, .iload_n 1), (95, .aaload), (96, .invokevirtual 176), (99, .aload_n 0), (100, .getfield 44), (103, .invokevirtual 179), (106, .ireturn), (107, .aload_n 0), (108, .getfield 44), (111, .aload_n 0), (112, .getfield 11), (115, .iload_n 1), (116, .aaload), (117, .invokevirtual 176), (120, .aload_n 0), (121, .getfield 44), (124, .invokevirtual 182), (127, .ireturn), (128, .sipush (-1000)), (131, .ireturn)]
def mc_132 : List (Nat × Instr) := [(0, .iload_n 1), (1, .invokestatic 86), (4, .ifCond .eq 23), (7, .iload_n 2), (8, .ifCond .lt 19), (11, .iload_n 2), (12, .iconst 1), (13, .if_icmp .gt 14), (16, .iload_n 3), (17, .iconst 1), (18, .if_icmp .lt 9), (21, .iload_n 3), (22, .bipush 16), (24, .if_icmp .le 7), (27, .sipush (-1000)), (30, .ireturn), (31, .aload_n 0), (32, .getfield 37), (35, .aload_n 0), (36, .getfield 11), (39, .iload_n 1), (40, .aaload), (41, .iload_n 2), (42, .iconst 1), (43, .if_icmp .ne 7), (46, .iconst 1), (47, .goto 4), (50, .iconst 0), (51, .iload_n 3), (52, .aload_n 0), (53, .getfield 62), (56, .invokevirtual 183), (59, .aload_n 0), (60, .getfield 62), (63, .invokevirtual 187), (66, .ireturn)]
def mc_133 : List (Nat × Instr) := [(0, .iload_n 1), (1, .invokestatic 86), (4, .ifCond .ne 7), (7, .sipush (-1000)), (10, .ireturn), (11, .aload_n 0), (12, .getfield 44), (15, .aload_n 0), (16, .getfield 11), (19, .iload_n 1), (20, .aaload), (21, .invokevirtual 176), (24, .aload_n 0), (25, .getfield 44), (28, .invokevirtual 188), (31, .ifCond .ne 7), (34, .sipush (-1000)), (37, .ireturn), (38, .aload_n 0), (39, .getfield 44), (42, .invokevirtual 191), (45, .aload_n 0), (46, .getfield 51), (49, .aload_n 0), (50, .getfield 11), (53, .iload_n 1), (54, .aaload), (55, .aload_n 0), (56, .getfield 44), (59, .invokevirtual 194), (62, .aload_n 0), (63, .getfield 51), (66, .aload_n 0), (67, .getfield 11), (70, .iload_n 1), (71, .aaload), (72, .aload_n 0), (73, .getfield 58), (76, .invokevirtual 198), (79, .aload_n 0), (80, .getfield 58), (83, .invokevirtual 187), (86, .ireturn)]
def mc_134 : List (Nat × Instr) := [(0, .iload_n 1), (1, .lookupswitch 47 #[(0, 27), (1, 37)]), (28, .aload_n 0), (29, .getfield 58), (32, .iload_n 2), (33, .iload_n 3), (34, .invokevirtual 202), (37, .ireturn), (38, .aload_n 0), (39, .getfield 62), (42, .iload_n 2), (43, .iload_n 3), (44, .invokevirtual 202), (47, .ireturn), (48, .sipush (-1000)), (51, .ireturn)]
def mc_135 : List (Nat × Instr) := [(0, .aload_n 0), (1, .getfield 75), (4, .aload_n 0), (5, .getfield 58), (8, .invokevirtual 206), (11, .ifCond .ne 7), (14, .sipush (-1000)), (17, .ireturn), (18, .aload_n 0), (19, .getfield 68), (22, .aload_n 0), (23, .getfield 75), (26, .invokevirtual 210), (29, .invokevirtual 214), (32, .aload_n 0), (33, .getfield 68), (36, .invokevirtual 217), (39, .ireturn)]
def mc_136 : List (Nat × Instr) := [(0, .iload_n 1), (1, .ifCond .lt 25), (4, .iload_n 1), (5, .sipush 255), (8, .if_icmp .gt 18), (11, .aload_n 0), (12, .getfield 68), (15, .iload_n 1), (16, .invokevirtual 218), (19, .ifCond .eq 7), (22, .iconst 1), (23, .goto 4), (26, .iconst 0), (27, .ireturn)]
def mc_137 : List (Nat × Instr) := [(0, .iload_n 1), (1, .iconst (-1)), (2, .if_icmp .ne 11), (5, .aload_n 0), (6, .getfield 68), (9, .invokevirtual 217), (12, .ireturn), (13, .aload_n 0), (14, .getfield 68), (17, .iload_n 1), (18, .invokevirtual 221), (21, .ifCond .eq 14), (24, .aload_n 0), (25, .getfield 68), (28, .iload_n 1), (29, .invokevirtual 223), (32, .goto 6), (35, .sipush (-1000)), (38, .ireturn)]
def mc_138 : List (Nat × Instr) := [(0, .iload_n 1), (1, .invokestatic 86), (4, .ifCond .ne 7), (7, .sipush (-1000)), (10, .ireturn), (11, .aload_n 0), (12, .getfield 82), (15, .aload_n 0), (16, .getfield 68), (19, .aload_n 0), (20, .getfield 16), (23, .invokevirtual 225), (26, .istore_n 2), (27, .iload_n 2), (28, .ifCond .lt 16), (31, .aload_n 0), (32, .getfield 11), (35, .iload_n 1), (36, .aaload), (37, .aload_n 0), (38, .getfield 16), (41, .invokevirtual 123), (44, .aload_n 0), (45, .getfield 68), (48, .invokevirtual 229), (51, .iload_n 2), (52, .ireturn)]
def mc_139 : List (Nat × Instr) := [(0, .iload_n 0), (1, .ifCond .lt 13), (4, .iload_n 0), (5, .bipush 6), (7, .if_icmp .ge 7), (10, .iconst 1), (11, .goto 4), (14, .iconst 0), (15, .ireturn)]
def mc_140 : List (Nat × Instr) := [(0, .iload_n 0), (1, .ifCond .lt 13), (4, .iload_n 0), (5, .bipush 6), (7, .if_icmp .ge 7), (10, .iconst 1), (11, .goto 4), (14, .iconst 0), (15, .ireturn)]
def mc_141 : List (Nat × Instr) := [(0, .iload_n 0), (1, .iload_n 1), (2, .ineg), (3, .if_icmp .lt 12), (6, .iload_n 0), (7, .iload_n 1), (8, .if_icmp .gt 7), (11, .iconst 1), (12, .goto 4), (15, .iconst 0), (16, .ireturn)]
def mc_142 : List (Nat × Instr) := [(0, .iload_n 0), (1, .iload_n 1), (2, .ishr), (3, .iconst 1), (4, .iand), (5, .ifCond .eq 7), (8, .iconst 1), (9, .goto 4), (12, .iconst 0), (13, .ireturn)]
def mc_143 : List (Nat × Instr) := [(0, .iload_n 0), (1, .ifCond .lt 49), (4, .iload_n 0), (5, .bipush 16), (7, .if_icmp .ge 43), (10, .iload_n 2), (11, .iconst 1), (12, .if_icmp .lt 38), (15, .iload_n 2), (16, .bipush 16), (18, .iload_n 0), (19, .isub), (20, .if_icmp .gt 30), (23, .iload_n 1), (24, .ifCond .lt 26), (27, .iload_n 1), (28, .bipush 16), (30, .if_icmp .ge 20), (33, .iload_n 3), (34, .iconst 1), (35, .if_icmp .lt 15), (38, .iload_n 3), (39, .bipush 16), (41, .iload_n 1), (42, .isub), (43, .if_icmp .gt 7), (46, .iconst 1), (47, .goto 4), (50, .iconst 0), (51, .ireturn)]
def mc_144 : List (Nat × Instr) := [(0, .iload_n 1), (1, .istore_n 2), (2, .iload_n 2), (3, .bipush 16), (5, .if_icmp .ge 17), (8, .iload_n 0), (9, .iload_n 2), (10, .invokestatic 230), (13, .ifCond .eq 9), (16, .iinc 2 1), (19, .goto (-17)), (22, .iload_n 2), (23, .ireturn)]
def mc_145 : List (Nat × Instr) := [(0, .iconst 1), (1, .iload_n 1), (2, .ishl), (3, .iconst 1), (4, .iload_n 0), (5, .ishl), (6, .isub), (7, .ireturn)]
def mc_146_0 : List (Nat × Instr) := [(0, .aload_n 0), (1, .invokespecial 1), (4, .aload_n 0), (5, .sipush 1536), (8, .newarray .boolean), (10, .putfield 7), (13, .aload_n 0), (14, .sipush 256), (17, .newarray .boolean), (19, .putfield 13), (22, .aload_n 0), (23, .bipush 24), (25, .newarray .int), (27, .putfield 16), (30, .aload_n 0), (31, .bipush 24), (33, .newarray .int), (35, .putfield 20), (38, .aload_n 0), (39, .bipush 6), (41, .newarray .int), (43, .putfield 23), (46, .aload_n 0), (47, .bipush 36), (49, .newarray .int), (51, .putfield 26), (54, .aload_n 0), (55, .bipush 36), (57, .newarray .int), (59, .putfield 29), (62, .aload_n 0), (63, .bipush 36), (65, .newarray .int), (67, .putfield 32), (70, .aload_n 0), (71, .bipush 36), (73, .newarray .int), (75, .putfield 35), (78, .aload_n 0), (79, .bipush 6), (81, .newarray .int), (83, .putfield 38), (86, .aload_n 0), (87, .bipush 24), (89, .newarray .int), (91, .putfield 41), (94, .aload_n 0), (95, .bipush 24), (97, .newarray .int), (99, .putfield 44)]
def mc_146_1 : List (Nat × Instr) := [(102, .aload_n 0), (103, .bipush 24), (105, .newarray .int), (107, .putfield 47), (110, .aload_n 0), (111, .bipush 24), (113, .newarray .int), (115, .putfield 50), (118, .aload_n 0), (119, .bipush 24), (121, .newarray .int), (123, .putfield 53), (126, .aload_n 0), (127, .bipush 24), (129, .newarray .int), (131, .putfield 56), (134, .aload_n 0), (135, .bipush 24), (137, .newarray .int), (139, .putfield 59), (142, .aload_n 0), (143, .bipush 24), (145, .newarray .int), (147, .putfield 62), (150, .aload_n 0), (151, .bipush 6), (153, .newarray .int), (155, .putfield 65), (158, .aload_n 0), (159, .sipush 2400), (162, .newarray .int), (164, .putfield 68), (167, .aload_n 0), (168, .bipush 32), (170, .newarray .int), (172, .dup), (173, .iconst 0), (174, .iconst 1), (175, .iastore), (176, .dup), (177, .iconst 1), (178, .iconst 0), (179, .iastore), (180, .dup), (181, .iconst 2), (182, .iconst 0), (183, .iastore), (184, .dup), (185, .iconst 3), (186, .iconst 1)]
def mc_146_2 : List (Nat × Instr) := [(187, .iastore), (188, .dup), (189, .iconst 4), (190, .iconst 0), (191, .iastore), (192, .dup), (193, .iconst 5), (194, .iconst (-1)), (195, .iastore), (196, .dup), (197, .bipush 6), (199, .iconst 1), (200, .iastore), (201, .dup), (202, .bipush 7), (204, .iconst 0), (205, .iastore), (206, .dup), (207, .bipush 8), (209, .iconst (-1)), (210, .iastore), (211, .dup), (212, .bipush 9), (214, .iconst 0), (215, .iastore), (216, .dup), (217, .bipush 10), (219, .iconst 0), (220, .iastore), (221, .dup), (222, .bipush 11), (224, .iconst (-1)), (225, .iastore), (226, .dup), (227, .bipush 12), (229, .iconst 0), (230, .iastore), (231, .dup), (232, .bipush 13), (234, .iconst 1), (235, .iastore), (236, .dup), (237, .bipush 14), (239, .iconst (-1)), (240, .iastore), (241, .dup), (242, .bipush 15), (244, .iconst 0), (245, .iastore), (246, .dup)]
def mc_146_3 : List (Nat × Instr) := [(247, .bipush 16), (249, .iconst (-1)), (250, .iastore), (251, .dup), (252, .bipush 17), (254, .iconst 0), (255, .iastore), (256, .dup), (257, .bipush 18), (259, .iconst 0), (260, .iastore), (261, .dup), (262, .bipush 19), (264, .iconst 1), (265, .iastore), (266, .dup), (267, .bipush 20), (269, .iconst 0), (270, .iastore), (271, .dup), (272, .bipush 21), (274, .iconst (-1)), (275, .iastore), (276, .dup), (277, .bipush 22), (279, .iconst (-1)), (280, .iastore), (281, .dup), (282, .bipush 23), (284, .iconst 0), (285, .iastore), (286, .dup), (287, .bipush 24), (289, .iconst 1), (290, .iastore), (291, .dup), (292, .bipush 25), (294, .iconst 0), (295, .iastore), (296, .dup), (297, .bipush 26), (299, .iconst 0), (300, .iastore), (301, .dup), (302, .bipush 27), (304, .iconst (-1)), (305, .iastore), (306, .dup), (307, .bipush 28), (309, .iconst 0)]
def mc_146_4 : List (Nat × Instr) := [(310, .iastore), (311, .dup), (312, .bipush 29), (314, .iconst 1), (315, .iastore), (316, .dup), (317, .bipush 30), (319, .iconst 1), (320, .iastore), (321, .dup), (322, .bipush 31), (324, .iconst 0), (325, .iastore), (326, .putfield 71), (329, .aload_n 0), (330, .sipush 800), (333, .newarray .int), (335, .putfield 74), (338, .aload_n 0), (339, .sipush 289), (342, .newarray .int), (344, .putfield 77), (347, .aload_n 0), (348, .sipush 289), (351, .newarray .int), (353, .putfield 80), (356, .aload_n 0), (357, .sipush 289), (360, .newarray .int), (362, .putfield 83), (365, .aload_n 0), (366, .sipush 289), (369, .newarray .int), (371, .putfield 86), (374, .aload_n 0), (375, .sipush 289), (378, .newarray .int), (380, .putfield 89), (383, .aload_n 0), (384, .sipush 272), (387, .newarray .boolean), (389, .putfield 92), (392, .aload_n 0), (393, .sipush 272), (396, .newarray .boolean), (398, .putfield 95), (401, .aload_n 0), (402, .sipush 289), (405, .newarray .boolean), (407, .putfield 98)]
def mc_146_5 : List (Nat × Instr) := [(410, .aload_n 0), (411, .sipush 289), (414, .newarray .boolean), (416, .putfield 101), (419, .aload_n 0), (420, .sipush 256), (423, .newarray .int), (425, .putfield 104), (428, .aload_n 0), (429, .sipush 256), (432, .newarray .boolean), (434, .putfield 107), (437, .aload_n 0), (438, .sipush 1024), (441, .newarray .int), (443, .putfield 110), (446, .aload_n 0), (447, .sipush 1024), (450, .newarray .int), (452, .putfield 113), (455, .aload_n 0), (456, .sipush 400), (459, .newarray .int), (461, .putfield 116), (464, .aload_n 0), (465, .sipush 1600), (468, .newarray .int), (470, .putfield 119), (473, .return_)]
def mc_146 : List (Nat × Instr) := mc_146_0 ++ (mc_146_1 ++ (mc_146_2 ++ (mc_146_3 ++ (mc_146_4 ++ (mc_146_5)))))
def mc_147 : List (Nat × Instr) := [(0, .iload_n 0), (1, .iload_n 1), (2, .if_icmp .lt 12), (5, .iload_n 0), (6, .iload_n 2), (7, .if_icmp .gt 7), (10, .iconst 1), (11, .goto 4), (14, .iconst 0), (15, .ireturn)]
def mc_148 : List (Nat × Instr) := [(0, .iload_n 0), (1, .iconst 0), (2, .iconst 5), (3, .invokestatic 122), (6, .ireturn)]
def mc_149 : List (Nat × Instr) := [(0, .iload_n 2), (1, .iconst 0), (2, .bipush 15), (4, .invokestatic 122), (7, .ifCond .eq 37), (10, .iload_n 3), (11, .iconst 0), (12, .bipush 15), (14, .invokestatic 122), (17, .ifCond .eq 27), (20, .aload_n 0), (21, .getfield 7), (24, .sipush 256), (27, .iload_n 1), (28, .imul), (29, .bipush 16), (31, .iload_n 3), (32, .imul), (33, .iadd), (34, .iload_n 2), (35, .iadd), (36, .baload), (37, .ifCond .eq 7), (40, .iconst 1), (41, .goto 4), (44, .iconst 0), (45, .ireturn)]
def mc_150 : List (Nat × Instr) := [(0, .iconst 0), (1, .istore 6), (3, .iload 6), (5, .iload 4), (7, .iload 5), (9, .imul), (10, .if_icmp .ge 39), (13, .aload_n 0), (14, .getfield 7), (17, .sipush 256), (20, .iload_n 1), (21, .imul), (22, .bipush 16), (24, .iload_n 3), (25, .iload 6), (27, .iload 4), (29, .idiv), (30, .iadd), (31, .imul), (32, .iadd), (33, .iload_n 2), (34, .iadd), (35, .iload 6), (37, .iload 4), (39, .irem), (40, .iadd), (41, .iconst 1), (42, .bastore), (43, .iinc 6 1), (46, .goto (-43)), (49, .return_)]
def mc_151 : List (Nat × Instr) := [(0, .iload_n 2), (1, .iconst 1), (2, .bipush 16), (4, .invokestatic 122), (7, .ifCond .eq 41), (10, .iload_n 3), (11, .iconst 1), (12, .bipush 16), (14, .invokestatic 122), (17, .ifCond .eq 31), (20, .iload_n 0), (21, .iconst 0), (22, .bipush 16), (24, .iload_n 2), (25, .isub), (26, .invokestatic 122), (29, .ifCond .eq 19), (32, .iload_n 1), (33, .iconst 0), (34, .bipush 16), (36, .iload_n 3), (37, .isub), (38, .invokestatic 122), (41, .ifCond .eq 7), (44, .iconst 1), (45, .goto 4), (48, .iconst 0), (49, .ireturn)]
def mc_152 : List (Nat × Instr) := [(0, .iload_n 1), (1, .invokestatic 126), (4, .ifCond .eq 15), (7, .iload_n 2), (8, .iload_n 3), (9, .iload 4), (11, .iload 5), (13, .invokestatic 130), (16, .ifCond .ne 5), (19, .iconst 0), (20, .ireturn), (21, .aload_n 0), (22, .iload_n 1), (23, .iload_n 2), (24, .iload_n 3), (25, .iload 4), (27, .iload 5), (29, .invokevirtual 134), (32, .iconst 1), (33, .ireturn)]
def mc_153 : List (Nat × Instr) := [(0, .iload_n 1), (1, .iconst 0), (2, .bipush 16), (4, .invokestatic 122), (7, .ifCond .eq 22), (10, .iload_n 2), (11, .iconst 0), (12, .bipush 16), (14, .invokestatic 122), (17, .ifCond .eq 12), (20, .aload_n 0), (21, .getfield 138), (24, .bipush 24), (26, .if_icmp .ne 5), (29, .iconst 0), (30, .ireturn), (31, .aload_n 0), (32, .getfield 16), (35, .aload_n 0), (36, .getfield 138), (39, .iload_n 1), (40, .iastore), (41, .aload_n 0), (42, .getfield 20), (45, .aload_n 0), (46, .getfield 138), (49, .iload_n 2), (50, .iastore), (51, .aload_n 0), (52, .dup), (53, .getfield 138), (56, .iconst 1), (57, .iadd), (58, .putfield 138), (61, .iconst 1), (62, .ireturn)]
def mc_154 : List (Nat × Instr) := [(0, .aload_n 0), (1, .getfield 138), (4, .iconst 4), (5, .if_icmp .lt 16), (8, .aload_n 0), (9, .getfield 138), (12, .iconst 2), (13, .irem), (14, .ifCond .ne 7), (17, .iconst 1), (18, .goto 4), (21, .iconst 0), (22, .istore_n 1), (23, .iconst 0), (24, .istore_n 2), (25, .iload_n 2), (26, .aload_n 0), (27, .getfield 138), (30, .if_icmp .ge 141), (33, .iload_n 1), (34, .ifCond .eq 137), (37, .iload_n 2), (38, .iconst 1), (39, .iadd), (40, .aload_n 0), (41, .getfield 138), (44, .irem), (45, .istore_n 3), (46, .iload_n 2), (47, .iconst 2), (48, .iadd), (49, .aload_n 0), (50, .getfield 138), (53, .irem), (54, .istore 4), (56, .aload_n 0), (57, .getfield 16), (60, .iload_n 2), (61, .iaload), (62, .aload_n 0), (63, .getfield 16), (66, .iload_n 3), (67, .iaload), (68, .if_icmp .eq 7), (71, .iconst 1), (72, .goto 4), (75, .iconst 0), (76, .istore 5), (78, .aload_n 0), (79, .getfield 20), (82, .iload_n 2), (83, .iaload), (84, .aload_n 0), (85, .getfield 20), (88, .iload_n 3), (89, .iaload), (90, .if_icmp .eq 7), (93, .iconst 1), (94, .goto 4), (97, .iconst 0), (98, .istore 6), (100, .iload 5), (102, .iload 6), (104, .if_icmp .eq 59), (107, .iload 5), (109, .aload_n 0), (110, .getfield 20), (113, .iload_n 3), (114, .iaload), (115, .aload_n 0), (116, .getfield 20), (119, .iload 4), (121, .iaload), (122, .if_icmp .eq 7), (125, .iconst 1), (126, .goto 4), (129, .iconst 0), (130, .if_icmp .ne 33), (133, .iload 6), (135, .aload_n 0), (136, .getfield 16), (139, .iload_n 3), (140, .iaload), (141, .aload_n 0), (142, .getfield 16), (145, .iload 4), (147, .iaload), (148, .if_icmp .eq 7), (151, .iconst 1), (152, .goto 4), (155, .iconst 0), (156, .if_icmp .ne 7), (159, .iconst 1), (160, .goto 4), (163, .iconst 0), (164, .istore_n 1), (165, .iinc 2 1), (168, .goto (-143)), (171, .iload_n 1), (172, .ireturn)]
def mc_155 : List (Nat × Instr) := [(0, .iconst 0), (1, .istore_n 3), (2, .iconst 0), (3, .istore 4), (5, .iload 4), (7, .aload_n 0), (8, .getfield 138), (11, .if_icmp .ge 101), (14, .iload 4), (16, .iconst 1), (17, .iadd), (18, .aload_n 0), (19, .getfield 138), (22, .irem), (23, .istore 5), (25, .aload_n 0), (26, .getfield 20), (29, .iload 4), (31, .iaload), (32, .iload_n 2), (33, .if_icmp .gt 14), (36, .iload_n 2), (37, .aload_n 0), (38, .getfield 20), (41, .iload 5), (43, .iaload), (44, .if_icmp .lt 25), (47, .aload_n 0), (48, .getfield 20), (51, .iload 5), (53, .iaload), (54, .iload_n 2), (55, .if_icmp .gt 18), (58, .iload_n 2), (59, .aload_n 0), (60, .getfield 20), (63, .iload 4), (65, .iaload), (66, .if_icmp .ge 7), (69, .iconst 1), (70, .goto 4), (73, .iconst 0), (74, .istore 6), (76, .iload 6), (78, .ifCond .eq 26), (81, .aload_n 0), (82, .getfield 16), (85, .iload 4), (87, .iaload), (88, .iload_n 1), (89, .if_icmp .gt 15), (92, .iload_n 3), (93, .ifCond .ne 7), (96, .iconst 1), (97, .goto 8), (100, .iconst 0), (101, .goto 4), (104, .iload_n 3), (105, .istore_n 3), (106, .iinc 4 1), (109, .goto (-104)), (112, .iload_n 3), (113, .ireturn)]
def mc_156 : List (Nat × Instr) := [(0, .iload_n 1), (1, .invokestatic 126), (4, .ifCond .eq 14), (7, .aload_n 0), (8, .invokevirtual 142), (11, .ifCond .eq 7), (14, .iconst 1), (15, .goto 4), (18, .iconst 0), (19, .istore_n 2), (20, .iconst 0), (21, .istore_n 3), (22, .iload_n 3), (23, .sipush 256), (26, .if_icmp .ge 60), (29, .iload_n 2), (30, .ifCond .eq 56), (33, .aload_n 0), (34, .getfield 7), (37, .sipush 256), (40, .iload_n 1), (41, .imul), (42, .iload_n 3), (43, .iadd), (44, .aload_n 0), (45, .getfield 7), (48, .sipush 256), (51, .iload_n 1), (52, .imul), (53, .iload_n 3), (54, .iadd), (55, .baload), (56, .ifCond .ne 18), (59, .aload_n 0), (60, .iload_n 3), (61, .bipush 16), (63, .irem), (64, .iload_n 3), (65, .bipush 16), (67, .idiv), (68, .invokevirtual 146), (71, .ifCond .eq 7), (74, .iconst 1), (75, .goto 4), (78, .iconst 0), (79, .bastore), (80, .iinc 3 1), (83, .goto (-61)), (86, .aload_n 0), (87, .iconst 0), (88, .putfield 138), (91, .iload_n 2), (92, .ireturn)]
def mc_157 : List (Nat × Instr) := [(0, .iload_n 1), (1, .invokestatic 126), (4, .ifCond .eq 27), (7, .iload_n 2), (8, .invokestatic 126), (11, .ifCond .eq 20), (14, .iload_n 3), (15, .invokestatic 126), (18, .ifCond .eq 13), (21, .iload 4), (23, .iconst 0), (24, .iconst 3), (25, .invokestatic 122), (28, .ifCond .ne 5), (31, .iconst 0), (32, .ireturn), (33, .iconst 0), (34, .istore 5), (36, .iload 5), (38, .sipush 256), (41, .if_icmp .ge 135), (44, .aload_n 0), (45, .getfield 7), (48, .sipush 256), (51, .iload_n 2), (52, .imul), (53, .iload 5), (55, .iadd), (56, .baload), (57, .istore 6), (59, .aload_n 0), (60, .getfield 7), (63, .sipush 256), (66, .iload_n 3), (67, .imul), (68, .iload 5), (70, .iadd), (71, .baload), (72, .istore 7), (74, .aload_n 0), (75, .getfield 7), (78, .sipush 256), (81, .iload_n 1), (82, .imul), (83, .iload 5), (85, .iadd), (86, .iload 4), (88, .ifCond .ne 21), (91, .iload 6), (93, .ifCond .ne 8), (96, .iload 7), (98, .ifCond .eq 7), (101, .iconst 1), (102, .goto 67), (105, .iconst 0), (106, .goto 63), (109, .iload 4), (111, .iconst 1), (112, .if_icmp .ne 21), (115, .iload 6), (117, .ifCond .eq 12), (120, .iload 7), (122, .ifCond .eq 7), (125, .iconst 1), (126, .goto 43), (129, .iconst 0), (130, .goto 39), (133, .iload 4), (135, .iconst 2), (136, .if_icmp .ne 21), (139, .iload 6), (141, .ifCond .eq 12), (144, .iload 7), (146, .ifCond .ne 7), (149, .iconst 1), (150, .goto 19), (153, .iconst 0), (154, .goto 15), (157, .iload 6), (159, .iload 7), (161, .if_icmp .eq 7), (164, .iconst 1), (165, .goto 4), (168, .iconst 0), (169, .bastore), (170, .iinc 5 1), (173, .goto (-137)), (176, .iconst 1), (177, .ireturn)]
def mc_158 : List (Nat × Instr) := [(0, .iload_n 1), (1, .invokestatic 126), (4, .ifCond .eq 21), (7, .iload_n 2), (8, .invokestatic 126), (11, .ifCond .eq 14), (14, .iload_n 3), (15, .bipush (-8)), (17, .bipush 8), (19, .invokestatic 122), (22, .ifCond .ne 5), (25, .iconst 0), (26, .ireturn), (27, .iload_n 3), (28, .ifCond .ge 8), (31, .iload_n 3), (32, .ineg), (33, .goto 4), (36, .iload_n 3), (37, .istore 4), (39, .iconst 0), (40, .istore 5), (42, .iload 5), (44, .sipush 256), (47, .if_icmp .ge 126), (50, .iconst 0), (51, .istore 6), (53, .iconst 1), (54, .istore 7), (56, .iload 4), (58, .ineg), (59, .istore 8), (61, .iload 8), (63, .iload 4), (65, .if_icmp .gt 84), (68, .iload 4), (70, .ineg), (71, .istore 9), (73, .iload 9), (75, .iload 4), (77, .if_icmp .gt 66), (80, .aload_n 0), (81, .iload_n 2), (82, .iload 5), (84, .bipush 16), (86, .irem), (87, .iload 9), (89, .iadd), (90, .iload 5), (92, .bipush 16), (94, .idiv), (95, .iload 8), (97, .iadd), (98, .invokevirtual 150), (101, .istore 10), (103, .iload 6), (105, .ifCond .ne 8), (108, .iload 10), (110, .ifCond .eq 7), (113, .iconst 1), (114, .goto 4), (117, .iconst 0), (118, .istore 6), (120, .iload 7), (122, .ifCond .eq 12), (125, .iload 10), (127, .ifCond .eq 7), (130, .iconst 1), (131, .goto 4), (134, .iconst 0), (135, .istore 7), (137, .iinc 9 1), (140, .goto (-67)), (143, .iinc 8 1), (146, .goto (-85)), (149, .aload_n 0), (150, .getfield 13), (153, .iload 5), (155, .iload_n 3), (156, .ifCond .ge 8), (159, .iload 7), (161, .goto 5), (164, .iload 6), (166, .bastore), (167, .iinc 5 1), (170, .goto (-128)), (173, .iconst 0), (174, .istore 5), (176, .iload 5), (178, .sipush 256), (181, .if_icmp .ge 29), (184, .aload_n 0), (185, .getfield 7), (188, .sipush 256), (191, .iload_n 1), (192, .imul), (193, .iload 5), (195, .iadd), (196, .aload_n 0), (197, .getfield 13), (200, .iload 5), (202, .baload), (203, .bastore), (204, .iinc 5 1), (207, .goto (-31)), (210, .iconst 1), (211, .ireturn)]
def mc_159 : List (Nat × Instr) := [(0, .iload_n 0), (1, .iconst 0), (2, .iconst 5), (3, .invokestatic 122), (6, .ireturn)]
def mc_160 : List (Nat × Instr) := [(0, .iload_n 1), (1, .invokestatic 153), (4, .ifCond .eq 58), (7, .aload_n 0), (8, .getfield 23), (11, .iload_n 1), (12, .iaload), (13, .bipush 6), (15, .if_icmp .eq 47), (18, .iload_n 2), (19, .bipush (-16)), (21, .bipush 16), (23, .invokestatic 122), (26, .ifCond .eq 36), (29, .iload_n 3), (30, .bipush (-16)), (32, .bipush 16), (34, .invokestatic 122), (37, .ifCond .eq 25), (40, .iload 4), (42, .iconst 1), (43, .bipush 16), (45, .invokestatic 122), (48, .ifCond .eq 14), (51, .iload 5), (53, .iconst 1), (54, .bipush 16), (56, .invokestatic 122), (59, .ifCond .ne 5), (62, .iconst 0), (63, .ireturn), (64, .bipush 6), (66, .iload_n 1), (67, .imul), (68, .aload_n 0), (69, .getfield 23), (72, .iload_n 1), (73, .iaload), (74, .iadd), (75, .istore 6), (77, .aload_n 0), (78, .getfield 26), (81, .iload 6), (83, .iload_n 2), (84, .iastore), (85, .aload_n 0), (86, .getfield 29), (89, .iload 6), (91, .iload_n 3), (92, .iastore), (93, .aload_n 0), (94, .getfield 32), (97, .iload 6), (99, .iload 4), (101, .iastore), (102, .aload_n 0), (103, .getfield 35), (106, .iload 6), (108, .iload 5), (110, .iastore), (111, .aload_n 0), (112, .getfield 23), (115, .iload_n 1), (116, .dup2), (117, .iaload), (118, .iconst 1), (119, .iadd), (120, .iastore), (121, .iconst 1), (122, .ireturn)]
def mc_161 : List (Nat × Instr) := [(0, .iload_n 1), (1, .bipush (-16)), (3, .bipush 16), (5, .invokestatic 122), (8, .ifCond .eq 24), (11, .iload_n 2), (12, .bipush (-16)), (14, .bipush 16), (16, .invokestatic 122), (19, .ifCond .eq 13), (22, .iload_n 3), (23, .iconst 0), (24, .bipush 7), (26, .invokestatic 122), (29, .ifCond .ne 5), (32, .iconst 0), (33, .ireturn), (34, .aload_n 0), (35, .iload_n 1), (36, .putfield 156), (39, .aload_n 0), (40, .iload_n 2), (41, .putfield 159), (44, .aload_n 0), (45, .iload_n 3), (46, .putfield 162), (49, .iconst 1), (50, .ireturn)]
def mc_162 : List (Nat × Instr) := [(0, .iload_n 1), (1, .bipush (-16)), (3, .bipush 16), (5, .invokestatic 122), (8, .ifCond .eq 14), (11, .iload_n 2), (12, .bipush (-16)), (14, .bipush 16), (16, .invokestatic 122), (19, .ifCond .ne 5), (22, .iconst 0), (23, .ireturn), (24, .aload_n 0), (25, .iload_n 1), (26, .putfield 165), (29, .aload_n 0), (30, .iload_n 2), (31, .putfield 168), (34, .iconst 1), (35, .ireturn)]
def mc_163 : List (Nat × Instr) := [(0, .iload_n 1), (1, .invokestatic 153), (4, .ifCond .eq 44), (7, .iload_n 2), (8, .invokestatic 153), (11, .ifCond .eq 37), (14, .iload_n 2), (15, .iload_n 1), (16, .if_icmp .ge 32), (19, .aload_n 0), (20, .getfield 38), (23, .iload_n 1), (24, .iaload), (25, .iconst 4), (26, .if_icmp .eq 22), (29, .iload_n 3), (30, .iconst 1), (31, .iconst 4), (32, .invokestatic 122), (35, .ifCond .eq 13), (38, .iload 4), (40, .iconst 1), (41, .iconst 4), (42, .invokestatic 122), (45, .ifCond .ne 5), (48, .iconst 0), (49, .ireturn), (50, .iconst 4), (51, .iload_n 1), (52, .imul), (53, .aload_n 0), (54, .getfield 38), (57, .iload_n 1), (58, .iaload), (59, .iadd), (60, .istore 5), (62, .aload_n 0), (63, .getfield 41), (66, .iload 5), (68, .iload_n 2), (69, .iastore), (70, .aload_n 0), (71, .getfield 44), (74, .iload 5), (76, .aload_n 0), (77, .getfield 156), (80, .iastore), (81, .aload_n 0), (82, .getfield 47), (85, .iload 5), (87, .aload_n 0), (88, .getfield 159), (91, .iastore), (92, .aload_n 0), (93, .getfield 50), (96, .iload 5), (98, .aload_n 0), (99, .getfield 162), (102, .iastore), (103, .aload_n 0), (104, .getfield 53), (107, .iload 5), (109, .aload_n 0), (110, .getfield 165), (113, .iastore), (114, .aload_n 0), (115, .getfield 56), (118, .iload 5), (120, .aload_n 0), (121, .getfield 168), (124, .iastore), (125, .aload_n 0), (126, .getfield 59), (129, .iload 5), (131, .iload_n 3), (132, .iastore), (133, .aload_n 0), (134, .getfield 62), (137, .iload 5), (139, .iload 4), (141, .iastore), (142, .aload_n 0), (143, .getfield 38), (146, .iload_n 1), (147, .dup2), (148, .iaload), (149, .iconst 1), (150, .iadd), (151, .iastore), (152, .iconst 1), (153, .ireturn)]
def mc_164 : List (Nat × Instr) := [(0, .iload_n 1), (1, .invokestatic 153), (4, .ifCond .ne 5), (7, .iconst 0), (8, .ireturn), (9, .aload_n 0), (10, .getfield 23), (13, .iload_n 1), (14, .iconst 0), (15, .iastore), (16, .aload_n 0), (17, .getfield 38), (20, .iload_n 1), (21, .iconst 0), (22, .iastore), (23, .iconst 1), (24, .ireturn)]
def mc_165 : List (Nat × Instr) := [(0, .iconst 0), (1, .istore_n 1), (2, .iload_n 1), (3, .bipush 6), (5, .if_icmp .ge 88), (8, .aload_n 0), (9, .getfield 23), (12, .iload_n 1), (13, .iaload), (14, .istore_n 2), (15, .iconst 4), (16, .iload_n 1), (17, .imul), (18, .istore_n 3), (19, .iload_n 3), (20, .iconst 4), (21, .iload_n 1), (22, .imul), (23, .aload_n 0), (24, .getfield 38), (27, .iload_n 1), (28, .iaload), (29, .iadd), (30, .if_icmp .ge 37), (33, .iload_n 2), (34, .aload_n 0), (35, .getfield 59), (38, .iload_n 3), (39, .iaload), (40, .aload_n 0), (41, .getfield 62), (44, .iload_n 3), (45, .iaload), (46, .imul), (47, .aload_n 0), (48, .getfield 65), (51, .aload_n 0), (52, .getfield 41), (55, .iload_n 3), (56, .iaload), (57, .iaload), (58, .imul), (59, .iadd), (60, .istore_n 2), (61, .iinc 3 1), (64, .goto (-45)), (67, .aload_n 0), (68, .getfield 65), (71, .iload_n 1), (72, .iload_n 2), (73, .sipush 200), (76, .if_icmp .le 9), (79, .sipush 201), (82, .goto 4), (85, .iload_n 2), (86, .iastore), (87, .iinc 1 1), (90, .goto (-88)), (93, .return_)]
def mc_166 : List (Nat × Instr) := [(0, .aload_n 0), (1, .getfield 68), (4, .bipush 7), (6, .iload_n 1), (7, .imul), (8, .iload_n 2), (9, .iastore), (10, .aload_n 0), (11, .getfield 68), (14, .bipush 7), (16, .iload_n 1), (17, .imul), (18, .iconst 1), (19, .iadd), (20, .iload_n 3), (21, .iastore), (22, .aload_n 0), (23, .getfield 68), (26, .bipush 7), (28, .iload_n 1), (29, .imul), (30, .iconst 2), (31, .iadd), (32, .iload 4), (34, .iastore), (35, .aload_n 0), (36, .getfield 68), (39, .bipush 7), (41, .iload_n 1), (42, .imul), (43, .iconst 3), (44, .iadd), (45, .iload 5), (47, .iastore), (48, .aload_n 0), (49, .getfield 68), (52, .bipush 7), (54, .iload_n 1), (55, .imul), (56, .iconst 4), (57, .iadd), (58, .iload 6), (60, .iastore), (61, .aload_n 0), (62, .getfield 68), (65, .bipush 7), (67, .iload_n 1), (68, .imul), (69, .iconst 5), (70, .iadd), (71, .iload 7), (73, .iastore), (74, .aload_n 0), (75, .getfield 68), (78, .bipush 7), (80, .iload_n 1), (81, .imul), (82, .bipush 6), (84, .iadd), (85, .iload 8), (87, .iastore), (88, .iload_n 1), (89, .iconst 1), (90, .iadd), (91, .ireturn)]
def mc_167_0 : List (Nat × Instr) := [(0, .aload_n 0), (1, .iconst 0), (2, .putfield 171), (5, .aload_n 0), (6, .getfield 65), (9, .iload_n 1), (10, .iaload), (11, .ifCond .le 18), (14, .aload_n 0), (15, .iconst 0), (16, .iload_n 1), (17, .iconst 1), (18, .iconst 0), (19, .iconst 0), (20, .iconst 1), (21, .iload_n 2), (22, .iload_n 3), (23, .invokevirtual 174), (26, .goto 4), (29, .iconst 0), (30, .istore 4), (32, .iload 4), (34, .ifCond .le 656), (37, .iinc 4 (-1)), (40, .aload_n 0), (41, .getfield 68), (44, .bipush 7), (46, .iload 4), (48, .imul), (49, .iaload), (50, .istore 5), (52, .aload_n 0), (53, .getfield 68), (56, .bipush 7), (58, .iload 4), (60, .imul), (61, .iconst 1), (62, .iadd), (63, .iaload), (64, .istore 6), (66, .aload_n 0), (67, .getfield 68), (70, .bipush 7), (72, .iload 4), (74, .imul), (75, .iconst 2), (76, .iadd), (77, .iaload), (78, .istore 7), (80, .aload_n 0)]
def mc_167_1 : List (Nat × Instr) := [(81, .getfield 68), (84, .bipush 7), (86, .iload 4), (88, .imul), (89, .iconst 3), (90, .iadd), (91, .iaload), (92, .istore 8), (94, .aload_n 0), (95, .getfield 68), (98, .bipush 7), (100, .iload 4), (102, .imul), (103, .iconst 4), (104, .iadd), (105, .iaload), (106, .istore 9), (108, .aload_n 0), (109, .getfield 68), (112, .bipush 7), (114, .iload 4), (116, .imul), (117, .iconst 5), (118, .iadd), (119, .iaload), (120, .istore 10), (122, .aload_n 0), (123, .getfield 68), (126, .bipush 7), (128, .iload 4), (130, .imul), (131, .bipush 6), (133, .iadd), (134, .iaload), (135, .istore 11), (137, .bipush 6), (139, .iload 5), (141, .imul), (142, .istore 12), (144, .iload 12), (146, .bipush 6), (148, .iload 5), (150, .imul), (151, .aload_n 0), (152, .getfield 23), (155, .iload 5), (157, .iaload), (158, .iadd), (159, .if_icmp .ge 241), (162, .iload 6)]
def mc_167_2 : List (Nat × Instr) := [(164, .aload_n 0), (165, .getfield 26), (168, .iload 12), (170, .iaload), (171, .imul), (172, .iload 7), (174, .aload_n 0), (175, .getfield 29), (178, .iload 12), (180, .iaload), (181, .imul), (182, .iadd), (183, .iload 10), (185, .iadd), (186, .istore 13), (188, .iload 8), (190, .aload_n 0), (191, .getfield 26), (194, .iload 12), (196, .iaload), (197, .imul), (198, .iload 9), (200, .aload_n 0), (201, .getfield 29), (204, .iload 12), (206, .iaload), (207, .imul), (208, .iadd), (209, .iload 11), (211, .iadd), (212, .istore 14), (214, .iload 13), (216, .iload 6), (218, .aload_n 0), (219, .getfield 32), (222, .iload 12), (224, .iaload), (225, .imul), (226, .iadd), (227, .iload 7), (229, .aload_n 0), (230, .getfield 35), (233, .iload 12), (235, .iaload), (236, .imul), (237, .iadd), (238, .istore 15), (240, .iload 14), (242, .iload 8), (244, .aload_n 0)]
def mc_167_3 : List (Nat × Instr) := [(245, .getfield 32), (248, .iload 12), (250, .iaload), (251, .imul), (252, .iadd), (253, .iload 9), (255, .aload_n 0), (256, .getfield 35), (259, .iload 12), (261, .iaload), (262, .imul), (263, .iadd), (264, .istore 16), (266, .aload_n 0), (267, .getfield 74), (270, .iconst 4), (271, .aload_n 0), (272, .getfield 171), (275, .imul), (276, .iload 13), (278, .iload 15), (280, .if_icmp .ge 8), (283, .iload 13), (285, .goto 5), (288, .iload 15), (290, .iastore), (291, .aload_n 0), (292, .getfield 74), (295, .iconst 4), (296, .aload_n 0), (297, .getfield 171), (300, .imul), (301, .iconst 1), (302, .iadd), (303, .iload 14), (305, .iload 16), (307, .if_icmp .ge 8), (310, .iload 14), (312, .goto 5), (315, .iload 16), (317, .iastore), (318, .aload_n 0), (319, .getfield 74), (322, .iconst 4), (323, .aload_n 0), (324, .getfield 171), (327, .imul), (328, .iconst 2), (329, .iadd), (330, .iload 13)]
def mc_167_4 : List (Nat × Instr) := [(332, .iload 15), (334, .if_icmp .ge 11), (337, .iload 15), (339, .iload 13), (341, .isub), (342, .goto 8), (345, .iload 13), (347, .iload 15), (349, .isub), (350, .iastore), (351, .aload_n 0), (352, .getfield 74), (355, .iconst 4), (356, .aload_n 0), (357, .getfield 171), (360, .imul), (361, .iconst 3), (362, .iadd), (363, .iload 14), (365, .iload 16), (367, .if_icmp .ge 11), (370, .iload 16), (372, .iload 14), (374, .isub), (375, .goto 8), (378, .iload 14), (380, .iload 16), (382, .isub), (383, .iastore), (384, .aload_n 0), (385, .dup), (386, .getfield 171), (389, .iconst 1), (390, .iadd), (391, .putfield 171), (394, .iinc 12 1), (397, .goto (-253)), (400, .iconst 4), (401, .iload 5), (403, .imul), (404, .istore 12), (406, .iload 12), (408, .iconst 4), (409, .iload 5), (411, .imul), (412, .aload_n 0), (413, .getfield 38), (416, .iload 5), (418, .iaload), (419, .iadd)]
def mc_167_5 : List (Nat × Instr) := [(420, .if_icmp .ge 267), (423, .aload_n 0), (424, .getfield 65), (427, .aload_n 0), (428, .getfield 41), (431, .iload 12), (433, .iaload), (434, .iaload), (435, .ifCond .le 21), (438, .aload_n 0), (439, .getfield 59), (442, .iload 12), (444, .iaload), (445, .aload_n 0), (446, .getfield 62), (449, .iload 12), (451, .iaload), (452, .imul), (453, .goto 4), (456, .iconst 0), (457, .istore 13), (459, .iconst 4), (460, .aload_n 0), (461, .getfield 50), (464, .iload 12), (466, .iaload), (467, .imul), (468, .istore 14), (470, .iconst 0), (471, .istore 15), (473, .iload 15), (475, .iload 13), (477, .if_icmp .ge 204), (480, .aload_n 0), (481, .getfield 44), (484, .iload 12), (486, .iaload), (487, .iload 15), (489, .aload_n 0), (490, .getfield 59), (493, .iload 12), (495, .iaload), (496, .irem), (497, .aload_n 0), (498, .getfield 53), (501, .iload 12), (503, .iaload), (504, .imul), (505, .iadd), (506, .istore 16)]
def mc_167_6 : List (Nat × Instr) := [(508, .aload_n 0), (509, .getfield 47), (512, .iload 12), (514, .iaload), (515, .iload 15), (517, .aload_n 0), (518, .getfield 59), (521, .iload 12), (523, .iaload), (524, .idiv), (525, .aload_n 0), (526, .getfield 56), (529, .iload 12), (531, .iaload), (532, .imul), (533, .iadd), (534, .istore 17), (536, .aload_n 0), (537, .iload 4), (539, .aload_n 0), (540, .getfield 41), (543, .iload 12), (545, .iaload), (546, .iload 6), (548, .aload_n 0), (549, .getfield 71), (552, .iload 14), (554, .iaload), (555, .imul), (556, .iload 7), (558, .aload_n 0), (559, .getfield 71), (562, .iload 14), (564, .iconst 2), (565, .iadd), (566, .iaload), (567, .imul), (568, .iadd), (569, .iload 6), (571, .aload_n 0), (572, .getfield 71), (575, .iload 14), (577, .iconst 1), (578, .iadd), (579, .iaload), (580, .imul), (581, .iload 7), (583, .aload_n 0), (584, .getfield 71), (587, .iload 14)]
def mc_167_7 : List (Nat × Instr) := [(589, .iconst 3), (590, .iadd), (591, .iaload), (592, .imul), (593, .iadd), (594, .iload 8), (596, .aload_n 0), (597, .getfield 71), (600, .iload 14), (602, .iaload), (603, .imul), (604, .iload 9), (606, .aload_n 0), (607, .getfield 71), (610, .iload 14), (612, .iconst 2), (613, .iadd), (614, .iaload), (615, .imul), (616, .iadd), (617, .iload 8), (619, .aload_n 0), (620, .getfield 71), (623, .iload 14), (625, .iconst 1), (626, .iadd), (627, .iaload), (628, .imul), (629, .iload 9), (631, .aload_n 0), (632, .getfield 71), (635, .iload 14), (637, .iconst 3), (638, .iadd), (639, .iaload), (640, .imul), (641, .iadd), (642, .iload 6), (644, .iload 16), (646, .imul), (647, .iload 7), (649, .iload 17), (651, .imul), (652, .iadd), (653, .iload 10), (655, .iadd), (656, .iload 8), (658, .iload 16), (660, .imul), (661, .iload 9)]
def mc_167_8 : List (Nat × Instr) := [(663, .iload 17), (665, .imul), (666, .iadd), (667, .iload 11), (669, .iadd), (670, .invokevirtual 174), (673, .istore 4), (675, .iinc 15 1), (678, .goto (-205)), (681, .iinc 12 1), (684, .goto (-278)), (687, .goto (-655)), (690, .return_)]
def mc_167 : List (Nat × Instr) := mc_167_0 ++ (mc_167_1 ++ (mc_167_2 ++ (mc_167_3 ++ (mc_167_4 ++ (mc_167_5 ++ (mc_167_6 ++ (mc_167_7 ++ (mc_167_8))))))))
def mc_168 : List (Nat × Instr) := [(0, .iload_n 1), (1, .invokestatic 126), (4, .ifCond .eq 33), (7, .iload_n 2), (8, .invokestatic 153), (11, .ifCond .eq 26), (14, .iload_n 3), (15, .bipush (-32)), (17, .bipush 32), (19, .invokestatic 122), (22, .ifCond .eq 15), (25, .iload 4), (27, .bipush (-32)), (29, .bipush 32), (31, .invokestatic 122), (34, .ifCond .ne 7), (37, .sipush (-1000)), (40, .ireturn), (41, .aload_n 0), (42, .invokevirtual 178), (45, .aload_n 0), (46, .getfield 65), (49, .iload_n 2), (50, .iaload), (51, .sipush 200), (54, .if_icmp .le 7), (57, .sipush (-1000)), (60, .ireturn), (61, .aload_n 0), (62, .iload_n 2), (63, .iload_n 3), (64, .iload 4), (66, .invokevirtual 181), (69, .iconst 0), (70, .istore 5), (72, .iload 5), (74, .aload_n 0), (75, .getfield 171), (78, .if_icmp .ge 61), (81, .aload_n 0), (82, .getfield 74), (85, .iconst 4), (86, .iload 5), (88, .imul), (89, .iaload), (90, .aload_n 0), (91, .getfield 74), (94, .iconst 4), (95, .iload 5), (97, .imul), (98, .iconst 1), (99, .iadd), (100, .iaload), (101, .aload_n 0), (102, .getfield 74), (105, .iconst 4), (106, .iload 5), (108, .imul), (109, .iconst 2), (110, .iadd), (111, .iaload), (112, .aload_n 0), (113, .getfield 74), (116, .iconst 4), (117, .iload 5), (119, .imul), (120, .iconst 3), (121, .iadd), (122, .iaload), (123, .invokestatic 130), (126, .ifCond .ne 7), (129, .sipush (-1000)), (132, .ireturn), (133, .iinc 5 1), (136, .goto (-64)), (139, .iconst 0), (140, .istore 5), (142, .iload 5), (144, .aload_n 0), (145, .getfield 171), (148, .if_icmp .ge 56), (151, .aload_n 0), (152, .iload_n 1), (153, .aload_n 0), (154, .getfield 74), (157, .iconst 4), (158, .iload 5), (160, .imul), (161, .iaload), (162, .aload_n 0), (163, .getfield 74), (166, .iconst 4), (167, .iload 5), (169, .imul), (170, .iconst 1), (171, .iadd), (172, .iaload), (173, .aload_n 0), (174, .getfield 74), (177, .iconst 4), (178, .iload 5), (180, .imul), (181, .iconst 2), (182, .iadd), (183, .iaload), (184, .aload_n 0), (185, .getfield 74), (188, .iconst 4), (189, .iload 5), (191, .imul), (192, .iconst 3), (193, .iadd), (194, .iaload), (195, .invokevirtual 134), (198, .iinc 5 1), (201, .goto (-59)), (204, .aload_n 0), (205, .getfield 171), (208, .ireturn)]
def mc_169 : List (Nat × Instr) := [(0, .iload_n 1), (1, .invokestatic 126), (4, .ifCond .eq 17), (7, .aload_n 0), (8, .iload_n 1), (9, .iload_n 2), (10, .iload_n 3), (11, .invokevirtual 150), (14, .ifCond .eq 7), (17, .iconst 1), (18, .goto 4), (21, .iconst 0), (22, .ireturn)]
def mc_170_0 : List (Nat × Instr) := [(0, .iconst 1), (1, .istore 4), (3, .iconst 0), (4, .istore 5), (6, .aload_n 0), (7, .getfield 104), (10, .iconst 0), (11, .iload_n 2), (12, .iastore), (13, .aload_n 0), (14, .getfield 107), (17, .iload_n 2), (18, .iconst 1), (19, .bastore), (20, .iconst 0), (21, .istore 6), (23, .iload 6), (25, .iload 4), (27, .if_icmp .ge 214), (30, .aload_n 0), (31, .getfield 104), (34, .iload 6), (36, .iaload), (37, .bipush 16), (39, .irem), (40, .istore 7), (42, .aload_n 0), (43, .getfield 104), (46, .iload 6), (48, .iaload), (49, .bipush 16), (51, .idiv), (52, .istore 8), (54, .iload 5), (56, .ifCond .ne 27), (59, .iload 7), (61, .ifCond .eq 22), (64, .iload 7), (66, .bipush 15), (68, .if_icmp .eq 15), (71, .iload 8), (73, .ifCond .eq 10), (76, .iload 8), (78, .bipush 15), (80, .if_icmp .ne 7), (83, .iconst 1), (84, .goto 4), (87, .iconst 0), (88, .istore 5), (90, .iconst 0)]
def mc_170_1 : List (Nat × Instr) := [(91, .istore 9), (93, .iload 9), (95, .bipush 9), (97, .if_icmp .ge 138), (100, .iload 7), (102, .iload 9), (104, .iconst 3), (105, .irem), (106, .iadd), (107, .iconst 1), (108, .isub), (109, .istore 10), (111, .iload 8), (113, .iload 9), (115, .iconst 3), (116, .idiv), (117, .iadd), (118, .iconst 1), (119, .isub), (120, .istore 11), (122, .iload_n 3), (123, .ifCond .eq 11), (126, .iload 9), (128, .iconst 2), (129, .irem), (130, .iconst 1), (131, .if_icmp .ne 58), (134, .iload 10), (136, .iconst 0), (137, .bipush 15), (139, .invokestatic 122), (142, .ifCond .eq 47), (145, .iload 11), (147, .iconst 0), (148, .bipush 15), (150, .invokestatic 122), (153, .ifCond .eq 36), (156, .aload_n 0), (157, .iload_n 1), (158, .iload 10), (160, .iload 11), (162, .invokevirtual 150), (165, .iload_n 3), (166, .if_icmp .ne 23), (169, .aload_n 0), (170, .getfield 107), (173, .bipush 16), (175, .iload 11), (177, .imul), (178, .iload 10)]
def mc_170_2 : List (Nat × Instr) := [(180, .iadd), (181, .baload), (182, .ifCond .ne 7), (185, .iconst 1), (186, .goto 4), (189, .iconst 0), (190, .istore 12), (192, .iload 12), (194, .ifCond .eq 35), (197, .aload_n 0), (198, .getfield 107), (201, .bipush 16), (203, .iload 11), (205, .imul), (206, .iload 10), (208, .iadd), (209, .iconst 1), (210, .bastore), (211, .aload_n 0), (212, .getfield 104), (215, .iload 4), (217, .bipush 16), (219, .iload 11), (221, .imul), (222, .iload 10), (224, .iadd), (225, .iastore), (226, .iinc 4 1), (229, .iinc 9 1), (232, .goto (-139)), (235, .iinc 6 1), (238, .goto (-215)), (241, .iload 5), (243, .ireturn)]
def mc_170 : List (Nat × Instr) := mc_170_0 ++ (mc_170_1 ++ (mc_170_2))
def mc_171 : List (Nat × Instr) := [(0, .iconst 0), (1, .istore_n 3), (2, .iconst 0), (3, .istore 4), (5, .iload 4), (7, .sipush 256), (10, .if_icmp .ge 17), (13, .aload_n 0), (14, .getfield 107), (17, .iload 4), (19, .iconst 0), (20, .bastore), (21, .iinc 4 1), (24, .goto (-19)), (27, .iconst 0), (28, .istore 4), (30, .iload 4), (32, .sipush 256), (35, .if_icmp .ge 63), (38, .aload_n 0), (39, .getfield 107), (42, .iload 4), (44, .baload), (45, .ifCond .ne 47), (48, .aload_n 0), (49, .getfield 7), (52, .sipush 256), (55, .iload_n 1), (56, .imul), (57, .iload 4), (59, .iadd), (60, .baload), (61, .iload_n 2), (62, .if_icmp .ne 30), (65, .aload_n 0), (66, .iload_n 1), (67, .iload 4), (69, .iload_n 2), (70, .invokevirtual 185), (73, .istore 5), (75, .iload_n 3), (76, .iload_n 2), (77, .ifCond .ne 8), (80, .iload 5), (82, .ifCond .ne 7), (85, .iconst 1), (86, .goto 4), (89, .iconst 0), (90, .iadd), (91, .istore_n 3), (92, .iinc 4 1), (95, .goto (-65)), (98, .iload_n 3), (99, .ireturn)]
def mc_172 : List (Nat × Instr) := [(0, .iload_n 0), (1, .ifCond .eq 7), (4, .iconst 1), (5, .goto 4), (8, .iconst 0), (9, .ireturn)]
def mc_173 : List (Nat × Instr) := [(0, .aload_n 0), (1, .iload_n 1), (2, .iload_n 2), (3, .iload_n 3), (4, .invokevirtual 150), (7, .invokestatic 189), (10, .aload_n 0), (11, .iload_n 1), (12, .iload_n 2), (13, .iconst 1), (14, .isub), (15, .iload_n 3), (16, .invokevirtual 150), (19, .invokestatic 189), (22, .iadd), (23, .aload_n 0), (24, .iload_n 1), (25, .iload_n 2), (26, .iload_n 3), (27, .iconst 1), (28, .isub), (29, .invokevirtual 150), (32, .invokestatic 189), (35, .iadd), (36, .aload_n 0), (37, .iload_n 1), (38, .iload_n 2), (39, .iconst 1), (40, .isub), (41, .iload_n 3), (42, .iconst 1), (43, .isub), (44, .invokevirtual 150), (47, .invokestatic 189), (50, .iadd), (51, .iconst 3), (52, .if_icmp .ne 7), (55, .iconst 1), (56, .goto 4), (59, .iconst 0), (60, .ireturn)]
def mc_174 : List (Nat × Instr) := [(0, .aload_n 0), (1, .iload_n 1), (2, .iload_n 2), (3, .iload_n 3), (4, .invokevirtual 150), (7, .ifCond .eq 39), (10, .iload 4), (12, .ifCond .eq 18), (15, .aload_n 0), (16, .iload_n 1), (17, .iload_n 2), (18, .iload_n 3), (19, .iconst 1), (20, .isub), (21, .invokevirtual 150), (24, .ifCond .eq 22), (27, .goto 15), (30, .aload_n 0), (31, .iload_n 1), (32, .iload_n 2), (33, .iconst 1), (34, .isub), (35, .iload_n 3), (36, .invokevirtual 150), (39, .ifCond .eq 7), (42, .iconst 1), (43, .goto 4), (46, .iconst 0), (47, .ireturn)]
def mc_175 : List (Nat × Instr) := [(0, .aload_n 0), (1, .iconst 0), (2, .putfield 193), (5, .iconst 0), (6, .istore_n 2), (7, .iload_n 2), (8, .sipush 289), (11, .if_icmp .ge 61), (14, .aload_n 0), (15, .iload_n 1), (16, .iload_n 2), (17, .bipush 17), (19, .irem), (20, .iload_n 2), (21, .bipush 17), (23, .idiv), (24, .invokevirtual 196), (27, .ifCond .eq 39), (30, .aload_n 0), (31, .getfield 77), (34, .aload_n 0), (35, .getfield 193), (38, .iload_n 2), (39, .bipush 17), (41, .irem), (42, .iastore), (43, .aload_n 0), (44, .getfield 80), (47, .aload_n 0), (48, .getfield 193), (51, .iload_n 2), (52, .bipush 17), (54, .idiv), (55, .iastore), (56, .aload_n 0), (57, .dup), (58, .getfield 193), (61, .iconst 1), (62, .iadd), (63, .putfield 193), (66, .iinc 2 1), (69, .goto (-62)), (72, .aload_n 0), (73, .iconst 0), (74, .putfield 199), (77, .iconst 0), (78, .istore_n 2), (79, .iload_n 2), (80, .sipush 289), (83, .if_icmp .ge 23), (86, .aload_n 0), (87, .iload_n 1), (88, .iload_n 2), (89, .bipush 17), (91, .irem), (92, .iload_n 2), (93, .bipush 17), (95, .idiv), (96, .iconst 1), (97, .invokevirtual 202), (100, .iinc 2 1), (103, .goto (-24)), (106, .aload_n 0), (107, .aload_n 0), (108, .getfield 199), (111, .putfield 206), (114, .iconst 0), (115, .istore_n 2), (116, .iload_n 2), (117, .sipush 289), (120, .if_icmp .ge 23), (123, .aload_n 0), (124, .iload_n 1), (125, .iload_n 2), (126, .bipush 17), (128, .idiv), (129, .iload_n 2), (130, .bipush 17), (132, .irem), (133, .iconst 0), (134, .invokevirtual 202), (137, .iinc 2 1), (140, .goto (-24)), (143, .return_)]
def mc_176 : List (Nat × Instr) := [(0, .aload_n 0), (1, .iload_n 1), (2, .iload_n 2), (3, .iload_n 3), (4, .invokevirtual 196), (7, .ifCond .ne 4), (10, .return_), (11, .iload 4), (13, .ifCond .eq 7), (16, .iload_n 2), (17, .goto 4), (20, .iload_n 3), (21, .istore 5), (23, .iload 5), (25, .istore 6), (27, .iconst 1), (28, .istore 7), (30, .iload 7), (32, .ifCond .eq 110), (35, .iload 6), (37, .bipush 16), (39, .if_icmp .ge 39), (42, .iload 4), (44, .ifCond .eq 18), (47, .aload_n 0), (48, .iload_n 1), (49, .iload 6), (51, .iload_n 3), (52, .iconst 1), (53, .invokevirtual 209), (56, .ifCond .eq 22), (59, .goto 15), (62, .aload_n 0), (63, .iload_n 1), (64, .iload_n 2), (65, .iload 6), (67, .iconst 0), (68, .invokevirtual 209), (71, .ifCond .eq 7), (74, .iconst 1), (75, .goto 4), (78, .iconst 0), (79, .istore 7), (81, .iload 7), (83, .ifCond .eq 10), (86, .iload 6), (88, .iconst 1), (89, .iadd), (90, .goto 5), (93, .iload 6), (95, .istore 6), (97, .iload 7), (99, .ifCond .eq 37), (102, .iload 4), (104, .ifCond .eq 17), (107, .aload_n 0), (108, .iload_n 1), (109, .iload 6), (111, .iload_n 3), (112, .invokevirtual 196), (115, .ifCond .eq 17), (118, .goto 18), (121, .aload_n 0), (122, .iload_n 1), (123, .iload_n 2), (124, .iload 6), (126, .invokevirtual 196), (129, .ifCond .ne 7), (132, .iconst 1), (133, .goto 4), (136, .iconst 0), (137, .istore 7), (139, .goto (-109)), (142, .iload 6), (144, .iload 5), (146, .if_icmp .le 84), (149, .iload 4), (151, .ifCond .eq 17), (154, .aload_n 0), (155, .iload_n 1), (156, .iload 6), (158, .iload_n 3), (159, .invokevirtual 196), (162, .ifCond .eq 68), (165, .goto 14), (168, .aload_n 0), (169, .iload_n 1), (170, .iload_n 2), (171, .iload 6), (173, .invokevirtual 196), (176, .ifCond .eq 54), (179, .aload_n 0), (180, .getfield 83), (183, .aload_n 0), (184, .getfield 199), (187, .iload 5), (189, .iastore), (190, .aload_n 0), (191, .getfield 86), (194, .aload_n 0), (195, .getfield 199), (198, .iload 6), (200, .iastore), (201, .aload_n 0), (202, .getfield 89), (205, .aload_n 0), (206, .getfield 199), (209, .iload 4), (211, .ifCond .eq 7), (214, .iload_n 3), (215, .goto 4), (218, .iload_n 2), (219, .iastore), (220, .aload_n 0), (221, .dup), (222, .getfield 199), (225, .iconst 1), (226, .iadd), (227, .putfield 199), (230, .return_)]
def mc_177 : List (Nat × Instr) := [(0, .iload_n 1), (1, .invokestatic 126), (4, .ifCond .eq 12), (7, .iload_n 2), (8, .iconst 0), (9, .iconst 4), (10, .invokestatic 122), (13, .ifCond .ne 7), (16, .sipush (-1000)), (19, .ireturn), (20, .iconst 0), (21, .istore_n 3), (22, .iconst 0), (23, .istore 4), (25, .iload 4), (27, .sipush 256), (30, .if_icmp .ge 28), (33, .iload_n 3), (34, .aload_n 0), (35, .getfield 7), (38, .sipush 256), (41, .iload_n 1), (42, .imul), (43, .iload 4), (45, .iadd), (46, .baload), (47, .invokestatic 189), (50, .iadd), (51, .istore_n 3), (52, .iinc 4 1), (55, .goto (-30)), (58, .iload_n 2), (59, .iconst 3), (60, .if_icmp .ge 27), (63, .iload_n 2), (64, .ifCond .ne 7), (67, .iload_n 3), (68, .goto 18), (71, .aload_n 0), (72, .iload_n 1), (73, .iload_n 2), (74, .iconst 1), (75, .if_icmp .ne 7), (78, .iconst 1), (79, .goto 4), (82, .iconst 0), (83, .invokevirtual 213), (86, .ireturn), (87, .aload_n 0), (88, .iload_n 1), (89, .invokevirtual 217), (92, .iload_n 2), (93, .iconst 3), (94, .if_icmp .ne 10), (97, .aload_n 0), (98, .getfield 193), (101, .goto 7), (104, .aload_n 0), (105, .getfield 199), (108, .ireturn)]
def mc_178 : List (Nat × Instr) := [(0, .aload_n 0), (1, .getfield 113), (4, .iconst 4), (5, .aload_n 0), (6, .getfield 221), (9, .imul), (10, .iload_n 1), (11, .iastore), (12, .aload_n 0), (13, .getfield 113), (16, .iconst 4), (17, .aload_n 0), (18, .getfield 221), (21, .imul), (22, .iconst 1), (23, .iadd), (24, .iload_n 2), (25, .iastore), (26, .aload_n 0), (27, .getfield 113), (30, .iconst 4), (31, .aload_n 0), (32, .getfield 221), (35, .imul), (36, .iconst 2), (37, .iadd), (38, .iload_n 3), (39, .iastore), (40, .aload_n 0), (41, .getfield 113), (44, .iconst 4), (45, .aload_n 0), (46, .getfield 221), (49, .imul), (50, .iconst 3), (51, .iadd), (52, .iload 4), (54, .iastore), (55, .aload_n 0), (56, .dup), (57, .getfield 221), (60, .iconst 1), (61, .iadd), (62, .putfield 221), (65, .return_)]
def mc_179_0 : List (Nat × Instr) := [(0, .iload_n 1), (1, .invokestatic 126), (4, .ifCond .eq 22), (7, .iload_n 2), (8, .iconst 0), (9, .iconst 1), (10, .invokestatic 122), (13, .ifCond .eq 13), (16, .iload_n 3), (17, .iconst 1), (18, .bipush 16), (20, .invokestatic 122), (23, .ifCond .ne 7), (26, .sipush (-1000)), (29, .ireturn), (30, .iload_n 2), (31, .ifCond .ne 7), (34, .iconst 1), (35, .goto 4), (38, .iconst 0), (39, .istore 4), (41, .aload_n 0), (42, .iconst 0), (43, .putfield 221), (46, .iconst 0), (47, .istore 5), (49, .iload 5), (51, .sipush 512), (54, .if_icmp .ge 235), (57, .iload 5), (59, .sipush 256), (62, .idiv), (63, .istore 6), (65, .iload 5), (67, .bipush 16), (69, .idiv), (70, .bipush 16), (72, .irem), (73, .istore 7), (75, .iload 5), (77, .bipush 16), (79, .irem), (80, .istore 8), (82, .iload 6), (84, .ifCond .ne 8), (87, .iload 8), (89, .goto 5), (92, .iload 7), (94, .istore 9), (96, .iload 6)]
def mc_179_1 : List (Nat × Instr) := [(98, .ifCond .ne 8), (101, .iload 7), (103, .goto 5), (106, .iload 8), (108, .istore 10), (110, .iconst 1), (111, .iload 6), (113, .isub), (114, .istore 11), (116, .aload_n 0), (117, .iload_n 1), (118, .iload 9), (120, .iload 10), (122, .invokevirtual 150), (125, .iload 4), (127, .if_icmp .ne 51), (130, .iload 4), (132, .ifCond .eq 24), (135, .aload_n 0), (136, .iload_n 1), (137, .iload 9), (139, .iload 11), (141, .isub), (142, .iload 10), (144, .iload 6), (146, .isub), (147, .invokevirtual 150), (150, .ifCond .ne 28), (153, .goto 21), (156, .aload_n 0), (157, .iload_n 1), (158, .iload 9), (160, .iload 11), (162, .isub), (163, .iload 10), (165, .iload 6), (167, .isub), (168, .invokevirtual 150), (171, .ifCond .eq 7), (174, .iconst 1), (175, .goto 4), (178, .iconst 0), (179, .istore 12), (181, .iconst 0), (182, .istore 13), (184, .iload 12), (186, .ifCond .eq 45), (189, .iload 8), (191, .iload 13), (193, .iadd)]
def mc_179_2 : List (Nat × Instr) := [(194, .bipush 16), (196, .if_icmp .ge 35), (199, .aload_n 0), (200, .iload_n 1), (201, .iload 9), (203, .iload 13), (205, .iload 11), (207, .imul), (208, .iadd), (209, .iload 10), (211, .iload 13), (213, .iload 6), (215, .imul), (216, .iadd), (217, .invokevirtual 150), (220, .iload 4), (222, .if_icmp .ne 9), (225, .iinc 13 1), (228, .goto (-44)), (231, .iload 12), (233, .ifCond .eq 50), (236, .iload 13), (238, .iload_n 3), (239, .if_icmp .ge 44), (242, .iload 4), (244, .ifCond .ne 27), (247, .aload_n 0), (248, .iload_n 1), (249, .iload 9), (251, .iload 13), (253, .iload 11), (255, .imul), (256, .iadd), (257, .iload 10), (259, .iload 13), (261, .iload 6), (263, .imul), (264, .iadd), (265, .invokevirtual 150), (268, .ifCond .eq 15), (271, .aload_n 0), (272, .iload 9), (274, .iload 10), (276, .iload 13), (278, .iload 6), (280, .invokevirtual 224), (283, .iinc 5 1), (286, .goto (-237)), (289, .aload_n 0), (290, .getfield 221)]
def mc_179_3 : List (Nat × Instr) := [(293, .ireturn)]
def mc_179 : List (Nat × Instr) := mc_179_0 ++ (mc_179_1 ++ (mc_179_2 ++ (mc_179_3)))
def mc_180 : List (Nat × Instr) := [(0, .aload_n 0), (1, .getfield 83), (4, .iload_n 1), (5, .iaload), (6, .aload_n 0), (7, .getfield 89), (10, .iload_n 2), (11, .iaload), (12, .if_icmp .gt 52), (15, .aload_n 0), (16, .getfield 89), (19, .iload_n 2), (20, .iaload), (21, .aload_n 0), (22, .getfield 86), (25, .iload_n 1), (26, .iaload), (27, .if_icmp .gt 37), (30, .aload_n 0), (31, .getfield 83), (34, .iload_n 2), (35, .iaload), (36, .aload_n 0), (37, .getfield 89), (40, .iload_n 1), (41, .iaload), (42, .if_icmp .gt 22), (45, .aload_n 0), (46, .getfield 89), (49, .iload_n 1), (50, .iaload), (51, .aload_n 0), (52, .getfield 86), (55, .iload_n 2), (56, .iaload), (57, .if_icmp .gt 7), (60, .iconst 1), (61, .goto 4), (64, .iconst 0), (65, .ireturn)]
def mc_181 : List (Nat × Instr) := [(0, .iconst 0), (1, .istore_n 1), (2, .iconst 0), (3, .istore_n 2), (4, .iconst 1), (5, .istore_n 3), (6, .iload_n 3), (7, .iconst 1), (8, .aload_n 0), (9, .getfield 199), (12, .ishl), (13, .if_icmp .ge 60), (16, .iconst 0), (17, .istore 4), (19, .iconst 0), (20, .istore 5), (22, .iload 5), (24, .aload_n 0), (25, .getfield 199), (28, .if_icmp .ge 20), (31, .iload 4), (33, .iload_n 3), (34, .iload 5), (36, .ishr), (37, .iconst 1), (38, .iand), (39, .iadd), (40, .istore 4), (42, .iinc 5 1), (45, .goto (-23)), (48, .iload 4), (50, .iload_n 2), (51, .if_icmp .lt 16), (54, .aload_n 0), (55, .iload_n 3), (56, .invokevirtual 228), (59, .ifCond .eq 8), (62, .iload_n 3), (63, .istore_n 1), (64, .iload 4), (66, .istore_n 2), (67, .iinc 3 1), (70, .goto (-64)), (73, .iload_n 1), (74, .ireturn)]
def mc_182 : List (Nat × Instr) := [(0, .iload_n 1), (1, .aload_n 0), (2, .getfield 199), (5, .iconst 1), (6, .isub), (7, .iload_n 2), (8, .isub), (9, .ishr), (10, .iconst 1), (11, .iand), (12, .iconst 1), (13, .if_icmp .ne 7), (16, .iconst 1), (17, .goto 4), (20, .iconst 0), (21, .ireturn)]
def mc_183 : List (Nat × Instr) := [(0, .iconst 0), (1, .istore_n 2), (2, .iload_n 2), (3, .aload_n 0), (4, .getfield 206), (7, .if_icmp .ge 57), (10, .aload_n 0), (11, .getfield 206), (14, .istore_n 3), (15, .iload_n 3), (16, .aload_n 0), (17, .getfield 199), (20, .if_icmp .ge 38), (23, .aload_n 0), (24, .iload_n 1), (25, .iload_n 2), (26, .invokevirtual 231), (29, .ifCond .eq 23), (32, .aload_n 0), (33, .iload_n 1), (34, .iload_n 3), (35, .invokevirtual 231), (38, .ifCond .eq 14), (41, .aload_n 0), (42, .iload_n 2), (43, .iload_n 3), (44, .invokevirtual 234), (47, .ifCond .eq 5), (50, .iconst 0), (51, .ireturn), (52, .iinc 3 1), (55, .goto (-40)), (58, .iinc 2 1), (61, .goto (-59)), (64, .iconst 1), (65, .ireturn)]
def mc_184 : List (Nat × Instr) := [(0, .iload_n 3), (1, .ifCond .eq 18), (4, .aload_n 0), (5, .getfield 92), (8, .bipush 16), (10, .iload_n 2), (11, .imul), (12, .iload_n 1), (13, .iadd), (14, .iconst 1), (15, .bastore), (16, .goto 15), (19, .aload_n 0), (20, .getfield 95), (23, .bipush 17), (25, .iload_n 2), (26, .imul), (27, .iload_n 1), (28, .iadd), (29, .iconst 1), (30, .bastore), (31, .aload_n 0), (32, .getfield 98), (35, .bipush 17), (37, .iload_n 2), (38, .imul), (39, .iload_n 1), (40, .iadd), (41, .iconst 1), (42, .bastore), (43, .aload_n 0), (44, .getfield 98), (47, .iload_n 3), (48, .ifCond .eq 14), (51, .bipush 17), (53, .iload_n 2), (54, .imul), (55, .iload_n 1), (56, .iadd), (57, .iconst 1), (58, .iadd), (59, .goto 11), (62, .bipush 17), (64, .iload_n 2), (65, .iconst 1), (66, .iadd), (67, .imul), (68, .iload_n 1), (69, .iadd), (70, .iconst 1), (71, .bastore), (72, .return_)]
def mc_185_0 : List (Nat × Instr) := [(0, .iconst 0), (1, .istore_n 2), (2, .iload_n 2), (3, .sipush 289), (6, .if_icmp .ge 23), (9, .aload_n 0), (10, .getfield 98), (13, .iload_n 2), (14, .iconst 0), (15, .bastore), (16, .aload_n 0), (17, .getfield 101), (20, .iload_n 2), (21, .iconst 0), (22, .bastore), (23, .iinc 2 1), (26, .goto (-24)), (29, .iconst 0), (30, .istore_n 2), (31, .iload_n 2), (32, .sipush 272), (35, .if_icmp .ge 23), (38, .aload_n 0), (39, .getfield 92), (42, .iload_n 2), (43, .iconst 0), (44, .bastore), (45, .aload_n 0), (46, .getfield 95), (49, .iload_n 2), (50, .iconst 0), (51, .bastore), (52, .iinc 2 1), (55, .goto (-24)), (58, .iconst 0), (59, .istore_n 2), (60, .iload_n 2), (61, .aload_n 0), (62, .getfield 199), (65, .if_icmp .ge 191), (68, .iload_n 2), (69, .aload_n 0), (70, .getfield 206), (73, .if_icmp .ge 7), (76, .iconst 1), (77, .goto 4), (80, .iconst 0), (81, .istore_n 3), (82, .aload_n 0), (83, .getfield 83)]
def mc_185_1 : List (Nat × Instr) := [(86, .iload_n 2), (87, .iaload), (88, .istore 4), (90, .iload 4), (92, .aload_n 0), (93, .getfield 86), (96, .iload_n 2), (97, .iaload), (98, .if_icmp .ge 53), (101, .aload_n 0), (102, .iload_n 1), (103, .iload_n 2), (104, .invokevirtual 231), (107, .ifCond .eq 44), (110, .aload_n 0), (111, .iload_n 3), (112, .ifCond .eq 8), (115, .iload 4), (117, .goto 9), (120, .aload_n 0), (121, .getfield 89), (124, .iload_n 2), (125, .iaload), (126, .iload_n 3), (127, .ifCond .eq 12), (130, .aload_n 0), (131, .getfield 89), (134, .iload_n 2), (135, .iaload), (136, .goto 5), (139, .iload 4), (141, .iload_n 3), (142, .invokevirtual 237), (145, .iinc 4 1), (148, .goto (-58)), (151, .aload_n 0), (152, .iload_n 1), (153, .iload_n 2), (154, .invokevirtual 231), (157, .ifCond .eq 93), (160, .aload_n 0), (161, .getfield 101), (164, .iload_n 3), (165, .ifCond .eq 22), (168, .bipush 17), (170, .aload_n 0), (171, .getfield 89), (174, .iload_n 2), (175, .iaload), (176, .imul)]
def mc_185_2 : List (Nat × Instr) := [(177, .aload_n 0), (178, .getfield 83), (181, .iload_n 2), (182, .iaload), (183, .iadd), (184, .goto 19), (187, .bipush 17), (189, .aload_n 0), (190, .getfield 83), (193, .iload_n 2), (194, .iaload), (195, .imul), (196, .aload_n 0), (197, .getfield 89), (200, .iload_n 2), (201, .iaload), (202, .iadd), (203, .iconst 1), (204, .bastore), (205, .aload_n 0), (206, .getfield 101), (209, .iload_n 3), (210, .ifCond .eq 22), (213, .bipush 17), (215, .aload_n 0), (216, .getfield 89), (219, .iload_n 2), (220, .iaload), (221, .imul), (222, .aload_n 0), (223, .getfield 86), (226, .iload_n 2), (227, .iaload), (228, .iadd), (229, .goto 19), (232, .bipush 17), (234, .aload_n 0), (235, .getfield 86), (238, .iload_n 2), (239, .iaload), (240, .imul), (241, .aload_n 0), (242, .getfield 89), (245, .iload_n 2), (246, .iaload), (247, .iadd), (248, .iconst 1), (249, .bastore), (250, .iinc 2 1), (253, .goto (-193))]
def mc_185_3 : List (Nat × Instr) := [(256, .return_)]
def mc_185 : List (Nat × Instr) := mc_185_0 ++ (mc_185_1 ++ (mc_185_2 ++ (mc_185_3)))
def mc_186 : List (Nat × Instr) := [(0, .aload_n 0), (1, .iload_n 1), (2, .iload_n 2), (3, .iload_n 3), (4, .iconst 1), (5, .invokevirtual 209), (8, .ifCond .eq 7), (11, .iconst 1), (12, .goto 4), (15, .iconst (-1)), (16, .istore 4), (18, .iload_n 2), (19, .istore 5), (21, .iconst 1), (22, .istore 6), (24, .iload 6), (26, .ifCond .eq 101), (29, .iload 4), (31, .ifCond .le 8), (34, .iload 5), (36, .goto 7), (39, .iload 5), (41, .iconst 1), (42, .isub), (43, .istore 7), (45, .iload 7), (47, .iconst 0), (48, .bipush 15), (50, .invokestatic 122), (53, .ifCond .eq 19), (56, .aload_n 0), (57, .iload_n 1), (58, .iload 7), (60, .iload_n 3), (61, .iconst 1), (62, .invokevirtual 209), (65, .ifCond .eq 7), (68, .iconst 1), (69, .goto 4), (72, .iconst 0), (73, .istore 6), (75, .iload 6), (77, .ifCond .eq 47), (80, .aload_n 0), (81, .getfield 98), (84, .bipush 17), (86, .iload_n 3), (87, .imul), (88, .iload 5), (90, .iadd), (91, .iload 4), (93, .iadd), (94, .baload), (95, .istore 8), (97, .aload_n 0), (98, .iload 7), (100, .iload_n 3), (101, .iconst 1), (102, .invokevirtual 237), (105, .iload 5), (107, .iload 4), (109, .iadd), (110, .istore 5), (112, .iload 8), (114, .ifCond .ne 7), (117, .iconst 1), (118, .goto 4), (121, .iconst 0), (122, .istore 6), (124, .goto (-100)), (127, .return_)]
def mc_187_0 : List (Nat × Instr) := [(0, .iconst 1), (1, .istore 4), (3, .iload_n 2), (4, .iload 4), (6, .iadd), (7, .bipush 16), (9, .if_icmp .ge 39), (12, .aload_n 0), (13, .iload_n 1), (14, .iload_n 2), (15, .iload 4), (17, .iadd), (18, .iload_n 3), (19, .invokevirtual 150), (22, .ifCond .eq 26), (25, .aload_n 0), (26, .getfield 95), (29, .bipush 17), (31, .iload_n 3), (32, .imul), (33, .iload_n 2), (34, .iadd), (35, .iload 4), (37, .iadd), (38, .baload), (39, .ifCond .ne 9), (42, .iinc 4 1), (45, .goto (-42)), (48, .iconst 1), (49, .istore 5), (51, .iload_n 3), (52, .iload 5), (54, .iadd), (55, .bipush 16), (57, .if_icmp .ge 39), (60, .aload_n 0), (61, .iload_n 1), (62, .iload_n 2), (63, .iload_n 3), (64, .iload 5), (66, .iadd), (67, .invokevirtual 150), (70, .ifCond .eq 26), (73, .aload_n 0), (74, .getfield 92), (77, .bipush 16), (79, .iload_n 3), (80, .iload 5), (82, .iadd), (83, .imul)]
def mc_187_1 : List (Nat × Instr) := [(84, .iload_n 2), (85, .iadd), (86, .baload), (87, .ifCond .ne 9), (90, .iinc 5 1), (93, .goto (-42)), (96, .iconst 0), (97, .istore 6), (99, .iload 6), (101, .iload 4), (103, .iload 5), (105, .imul), (106, .if_icmp .ge 33), (109, .aload_n 0), (110, .getfield 107), (113, .bipush 16), (115, .iload_n 3), (116, .iload 6), (118, .iload 4), (120, .idiv), (121, .iadd), (122, .imul), (123, .iload_n 2), (124, .iadd), (125, .iload 6), (127, .iload 4), (129, .irem), (130, .iadd), (131, .iconst 1), (132, .bastore), (133, .iinc 6 1), (136, .goto (-37)), (139, .aload_n 0), (140, .getfield 110), (143, .iconst 4), (144, .aload_n 0), (145, .getfield 241), (148, .imul), (149, .iload_n 2), (150, .iastore), (151, .aload_n 0), (152, .getfield 110), (155, .iconst 4), (156, .aload_n 0), (157, .getfield 241), (160, .imul), (161, .iconst 1), (162, .iadd), (163, .iload_n 3), (164, .iastore)]
def mc_187_2 : List (Nat × Instr) := [(165, .aload_n 0), (166, .getfield 110), (169, .iconst 4), (170, .aload_n 0), (171, .getfield 241), (174, .imul), (175, .iconst 2), (176, .iadd), (177, .iload 4), (179, .iastore), (180, .aload_n 0), (181, .getfield 110), (184, .iconst 4), (185, .aload_n 0), (186, .getfield 241), (189, .imul), (190, .iconst 3), (191, .iadd), (192, .iload 5), (194, .iastore), (195, .aload_n 0), (196, .dup), (197, .getfield 241), (200, .iconst 1), (201, .iadd), (202, .putfield 241), (205, .return_)]
def mc_187 : List (Nat × Instr) := mc_187_0 ++ (mc_187_1 ++ (mc_187_2))
def mc_188 : List (Nat × Instr) := [(0, .iload_n 1), (1, .invokestatic 126), (4, .ifCond .ne 7), (7, .sipush (-1000)), (10, .ireturn), (11, .aload_n 0), (12, .iload_n 1), (13, .invokevirtual 217), (16, .aload_n 0), (17, .getfield 199), (20, .bipush 14), (22, .if_icmp .le 7), (25, .sipush (-1000)), (28, .ireturn), (29, .aload_n 0), (30, .aload_n 0), (31, .invokevirtual 244), (34, .invokevirtual 248), (37, .iconst 0), (38, .istore_n 2), (39, .iload_n 2), (40, .aload_n 0), (41, .getfield 193), (44, .if_icmp .ge 50), (47, .aload_n 0), (48, .getfield 101), (51, .bipush 17), (53, .aload_n 0), (54, .getfield 80), (57, .iload_n 2), (58, .iaload), (59, .imul), (60, .aload_n 0), (61, .getfield 77), (64, .iload_n 2), (65, .iaload), (66, .iadd), (67, .baload), (68, .ifCond .ne 20), (71, .aload_n 0), (72, .iload_n 1), (73, .aload_n 0), (74, .getfield 77), (77, .iload_n 2), (78, .iaload), (79, .aload_n 0), (80, .getfield 80), (83, .iload_n 2), (84, .iaload), (85, .invokevirtual 251), (88, .iinc 2 1), (91, .goto (-52)), (94, .aload_n 0), (95, .iconst 0), (96, .putfield 241), (99, .iconst 0), (100, .istore_n 2), (101, .iload_n 2), (102, .sipush 256), (105, .if_icmp .ge 16), (108, .aload_n 0), (109, .getfield 107), (112, .iload_n 2), (113, .iconst 0), (114, .bastore), (115, .iinc 2 1), (118, .goto (-17)), (121, .iconst 0), (122, .istore_n 2), (123, .iload_n 2), (124, .sipush 256), (127, .if_icmp .ge 46), (130, .aload_n 0), (131, .getfield 7), (134, .sipush 256), (137, .iload_n 1), (138, .imul), (139, .iload_n 2), (140, .iadd), (141, .baload), (142, .ifCond .eq 25), (145, .aload_n 0), (146, .getfield 107), (149, .iload_n 2), (150, .baload), (151, .ifCond .ne 16), (154, .aload_n 0), (155, .iload_n 1), (156, .iload_n 2), (157, .bipush 16), (159, .irem), (160, .iload_n 2), (161, .bipush 16), (163, .idiv), (164, .invokevirtual 254), (167, .iinc 2 1), (170, .goto (-47)), (173, .aload_n 0), (174, .getfield 241), (177, .ireturn)]
def mc_189 : List (Nat × Instr) := [(0, .iload_n 1), (1, .ifCond .ne 10), (4, .aload_n 0), (5, .getfield 241), (8, .goto 16), (11, .iload_n 1), (12, .iconst 1), (13, .if_icmp .ne 10), (16, .aload_n 0), (17, .getfield 221), (20, .goto 4), (23, .iconst 0), (24, .istore 4), (26, .iload_n 2), (27, .iconst 0), (28, .iload 4), (30, .iconst 1), (31, .isub), (32, .invokestatic 122), (35, .ifCond .eq 12), (38, .iload_n 3), (39, .iconst 0), (40, .iconst 3), (41, .invokestatic 122), (44, .ifCond .ne 7), (47, .sipush (-1000)), (50, .ireturn), (51, .iload_n 1), (52, .ifCond .ne 16), (55, .aload_n 0), (56, .getfield 110), (59, .iconst 4), (60, .iload_n 2), (61, .imul), (62, .iload_n 3), (63, .iadd), (64, .iaload), (65, .goto 13), (68, .aload_n 0), (69, .getfield 113), (72, .iconst 4), (73, .iload_n 2), (74, .imul), (75, .iload_n 3), (76, .iadd), (77, .iaload), (78, .ireturn)]
def mc_190 : List (Nat × Instr) := [(0, .aload_n 0), (1, .getfield 119), (4, .aload_n 0), (5, .getfield 257), (8, .iload_n 1), (9, .sipush 255), (12, .iand), (13, .iastore), (14, .aload_n 0), (15, .dup), (16, .getfield 257), (19, .iconst 1), (20, .iadd), (21, .putfield 257), (24, .return_)]
def mc_191 : List (Nat × Instr) := [(0, .iload_n 1), (1, .istore 4), (3, .iload 4), (5, .aload_n 0), (6, .getfield 241), (9, .if_icmp .ge 39), (12, .aload_n 0), (13, .getfield 110), (16, .iconst 4), (17, .iload 4), (19, .imul), (20, .iconst 2), (21, .iadd), (22, .iaload), (23, .iload_n 2), (24, .if_icmp .ne 18), (27, .aload_n 0), (28, .getfield 110), (31, .iconst 4), (32, .iload 4), (34, .imul), (35, .iconst 3), (36, .iadd), (37, .iaload), (38, .iload_n 3), (39, .if_icmp .eq 9), (42, .iinc 4 1), (45, .goto (-42)), (48, .iload 4), (50, .ireturn)]
def mc_192_0 : List (Nat × Instr) := [(0, .aload_n 0), (1, .iload_n 1), (2, .iconst 1), (3, .iadd), (4, .iload_n 2), (5, .iload_n 3), (6, .invokevirtual 260), (9, .istore 4), (11, .aload_n 0), (12, .aload_n 0), (13, .getfield 110), (16, .iconst 4), (17, .iload_n 1), (18, .imul), (19, .iaload), (20, .invokevirtual 264), (23, .aload_n 0), (24, .aload_n 0), (25, .getfield 110), (28, .iconst 4), (29, .iload_n 1), (30, .imul), (31, .iconst 1), (32, .iadd), (33, .iaload), (34, .invokevirtual 264), (37, .aload_n 0), (38, .getfield 257), (41, .istore 5), (43, .aload_n 0), (44, .iconst 1), (45, .invokevirtual 264), (48, .iload 4), (50, .aload_n 0), (51, .getfield 241), (54, .if_icmp .ne 6), (57, .iload 4), (59, .ireturn), (60, .aload_n 0), (61, .getfield 110), (64, .iconst 4), (65, .iload 4), (67, .imul), (68, .iaload), (69, .aload_n 0), (70, .getfield 110), (73, .iconst 4), (74, .iload_n 1), (75, .imul), (76, .iaload)]
def mc_192_1 : List (Nat × Instr) := [(77, .isub), (78, .istore 6), (80, .aload_n 0), (81, .getfield 110), (84, .iconst 4), (85, .iload 4), (87, .imul), (88, .iconst 1), (89, .iadd), (90, .iaload), (91, .aload_n 0), (92, .getfield 110), (95, .iconst 4), (96, .iload_n 1), (97, .imul), (98, .iconst 1), (99, .iadd), (100, .iaload), (101, .isub), (102, .istore 7), (104, .iload_n 1), (105, .istore 8), (107, .iconst 1), (108, .istore 9), (110, .iload 4), (112, .aload_n 0), (113, .getfield 241), (116, .if_icmp .ge 77), (119, .aload_n 0), (120, .getfield 110), (123, .iconst 4), (124, .iload 4), (126, .imul), (127, .iaload), (128, .aload_n 0), (129, .getfield 110), (132, .iconst 4), (133, .iload 8), (135, .imul), (136, .iaload), (137, .isub), (138, .iload 6), (140, .if_icmp .ne 53), (143, .aload_n 0), (144, .getfield 110), (147, .iconst 4), (148, .iload 4), (150, .imul), (151, .iconst 1), (152, .iadd)]
def mc_192_2 : List (Nat × Instr) := [(153, .iaload), (154, .aload_n 0), (155, .getfield 110), (158, .iconst 4), (159, .iload 8), (161, .imul), (162, .iconst 1), (163, .iadd), (164, .iaload), (165, .isub), (166, .iload 7), (168, .if_icmp .ne 25), (171, .iinc 9 1), (174, .iload 4), (176, .istore 8), (178, .aload_n 0), (179, .iload 4), (181, .iconst 1), (182, .iadd), (183, .iload_n 2), (184, .iload_n 3), (185, .invokevirtual 260), (188, .istore 4), (190, .goto (-80)), (193, .aload_n 0), (194, .getfield 119), (197, .iload 5), (199, .iload 9), (201, .iastore), (202, .aload_n 0), (203, .iload 6), (205, .invokevirtual 264), (208, .aload_n 0), (209, .iload 7), (211, .invokevirtual 264), (214, .iload 4), (216, .ireturn)]
def mc_192 : List (Nat × Instr) := mc_192_0 ++ (mc_192_1 ++ (mc_192_2))
def mc_193 : List (Nat × Instr) := [(0, .aload_n 0), (1, .iconst 0), (2, .putfield 257), (5, .iconst 0), (6, .istore_n 1), (7, .iload_n 1), (8, .sipush 256), (11, .if_icmp .ge 95), (14, .iload_n 1), (15, .bipush 16), (17, .idiv), (18, .iconst 1), (19, .iadd), (20, .istore_n 2), (21, .iload_n 1), (22, .bipush 16), (24, .irem), (25, .iconst 1), (26, .iadd), (27, .istore_n 3), (28, .aload_n 0), (29, .iconst 0), (30, .iload_n 2), (31, .iload_n 3), (32, .invokevirtual 260), (35, .istore 4), (37, .iload 4), (39, .aload_n 0), (40, .getfield 241), (43, .if_icmp .ge 57), (46, .aload_n 0), (47, .iload_n 2), (48, .invokevirtual 264), (51, .aload_n 0), (52, .iload_n 3), (53, .invokevirtual 264), (56, .aload_n 0), (57, .getfield 257), (60, .istore 5), (62, .aload_n 0), (63, .iconst 0), (64, .invokevirtual 264), (67, .iload 4), (69, .aload_n 0), (70, .getfield 241), (73, .if_icmp .ge 27), (76, .aload_n 0), (77, .iload 4), (79, .iload_n 2), (80, .iload_n 3), (81, .invokevirtual 267), (84, .istore 4), (86, .aload_n 0), (87, .getfield 119), (90, .iload 5), (92, .dup2), (93, .iaload), (94, .iconst 1), (95, .iadd), (96, .iastore), (97, .goto (-30)), (100, .iinc 1 1), (103, .goto (-96)), (106, .aload_n 0), (107, .iconst 0), (108, .invokevirtual 264), (111, .aload_n 0), (112, .getfield 257), (115, .sipush 400), (118, .if_icmp .le 7), (121, .sipush (-1000)), (124, .ireturn), (125, .iconst 0), (126, .istore_n 1), (127, .iload_n 1), (128, .aload_n 0), (129, .getfield 257), (132, .if_icmp .ge 21), (135, .aload_n 0), (136, .getfield 116), (139, .iload_n 1), (140, .aload_n 0), (141, .getfield 119), (144, .iload_n 1), (145, .iaload), (146, .iastore), (147, .iinc 1 1), (150, .goto (-23)), (153, .aload_n 0), (154, .aload_n 0), (155, .getfield 257), (158, .putfield 270), (161, .aload_n 0), (162, .getfield 270), (165, .ireturn)]
def mc_194 : List (Nat × Instr) := [(0, .iload_n 1), (1, .iconst 0), (2, .sipush 255), (5, .invokestatic 122), (8, .ifCond .eq 13), (11, .aload_n 0), (12, .getfield 270), (15, .sipush 400), (18, .if_icmp .ne 5), (21, .iconst 0), (22, .ireturn), (23, .aload_n 0), (24, .getfield 116), (27, .aload_n 0), (28, .getfield 270), (31, .iload_n 1), (32, .iastore), (33, .aload_n 0), (34, .dup), (35, .getfield 270), (38, .iconst 1), (39, .iadd), (40, .putfield 270), (43, .iconst 1), (44, .ireturn)]
def mc_195 : List (Nat × Instr) := [(0, .iload_n 1), (1, .iconst (-1)), (2, .if_icmp .ne 10), (5, .aload_n 0), (6, .getfield 270), (9, .goto 29), (12, .iload_n 1), (13, .iconst 0), (14, .aload_n 0), (15, .getfield 270), (18, .iconst 1), (19, .isub), (20, .invokestatic 122), (23, .ifCond .eq 12), (26, .aload_n 0), (27, .getfield 116), (30, .iload_n 1), (31, .iaload), (32, .goto 6), (35, .sipush (-1000)), (38, .ireturn)]
def mc_196 : List (Nat × Instr) := [(0, .iload_n 1), (1, .aload_n 0), (2, .getfield 270), (5, .if_icmp .ge 12), (8, .aload_n 0), (9, .getfield 116), (12, .iload_n 1), (13, .iaload), (14, .goto 4), (17, .iconst (-1)), (18, .ireturn)]
def mc_197_0 : List (Nat × Instr) := [(0, .aload_n 0), (1, .iload_n 1), (2, .invokevirtual 273), (5, .iconst 0), (6, .bipush 16), (8, .iload_n 2), (9, .isub), (10, .invokestatic 122), (13, .ifCond .ne 7), (16, .iconst (-1)), (17, .iload_n 1), (18, .isub), (19, .ireturn), (20, .aload_n 0), (21, .iload_n 1), (22, .iconst 1), (23, .iadd), (24, .invokevirtual 273), (27, .iconst 0), (28, .bipush 16), (30, .iload_n 3), (31, .isub), (32, .invokestatic 122), (35, .ifCond .ne 8), (38, .bipush (-2)), (40, .iload_n 1), (41, .isub), (42, .ireturn), (43, .aload_n 0), (44, .iload_n 1), (45, .iconst 2), (46, .iadd), (47, .invokevirtual 273), (50, .istore 4), (52, .iload 4), (54, .iconst 1), (55, .if_icmp .ge 8), (58, .bipush (-3)), (60, .iload_n 1), (61, .isub), (62, .ireturn), (63, .iload 4), (65, .iconst 1), (66, .if_icmp .ne 5), (69, .iconst 3), (70, .ireturn), (71, .iload_n 1), (72, .iconst 3), (73, .iadd), (74, .aload_n 0)]
def mc_197_1 : List (Nat × Instr) := [(75, .getfield 270), (78, .if_icmp .ge 41), (81, .aload_n 0), (82, .getfield 116), (85, .iload_n 1), (86, .iaload), (87, .iload 4), (89, .iconst 1), (90, .isub), (91, .aload_n 0), (92, .getfield 116), (95, .iload_n 1), (96, .iconst 3), (97, .iadd), (98, .iaload), (99, .invokestatic 277), (102, .imul), (103, .iadd), (104, .iconst 0), (105, .bipush 16), (107, .iload_n 2), (108, .isub), (109, .invokestatic 122), (112, .ifCond .eq 7), (115, .iconst 1), (116, .goto 4), (119, .iconst 0), (120, .istore 5), (122, .iload_n 1), (123, .iconst 4), (124, .iadd), (125, .aload_n 0), (126, .getfield 270), (129, .if_icmp .ge 43), (132, .aload_n 0), (133, .getfield 116), (136, .iload_n 1), (137, .iconst 1), (138, .iadd), (139, .iaload), (140, .iload 4), (142, .iconst 1), (143, .isub), (144, .aload_n 0), (145, .getfield 116), (148, .iload_n 1), (149, .iconst 4), (150, .iadd), (151, .iaload), (152, .invokestatic 277)]
def mc_197_2 : List (Nat × Instr) := [(155, .imul), (156, .iadd), (157, .iconst 0), (158, .bipush 16), (160, .iload_n 3), (161, .isub), (162, .invokestatic 122), (165, .ifCond .eq 7), (168, .iconst 1), (169, .goto 4), (172, .iconst 0), (173, .istore 6), (175, .iload 5), (177, .ifCond .ne 10), (180, .bipush (-4)), (182, .iload_n 1), (183, .isub), (184, .goto 16), (187, .iload 6), (189, .ifCond .ne 10), (192, .bipush (-5)), (194, .iload_n 1), (195, .isub), (196, .goto 4), (199, .iconst 5), (200, .ireturn)]
def mc_197 : List (Nat × Instr) := mc_197_0 ++ (mc_197_1 ++ (mc_197_2))
def mc_198 : List (Nat × Instr) := [(0, .iload_n 0), (1, .bipush 127), (3, .if_icmp .le 11), (6, .iload_n 0), (7, .sipush 256), (10, .isub), (11, .goto 4), (14, .iload_n 0), (15, .ireturn)]
def mc_199_0 : List (Nat × Instr) := [(0, .iconst 0), (1, .istore_n 2), (2, .iconst 0), (3, .istore_n 3), (4, .aload_n 0), (5, .iload_n 2), (6, .invokevirtual 273), (9, .ifCond .le 241), (12, .aload_n 0), (13, .getfield 116), (16, .iload_n 2), (17, .iaload), (18, .istore 4), (20, .aload_n 0), (21, .iload_n 2), (22, .iconst 1), (23, .iadd), (24, .invokevirtual 273), (27, .istore 5), (29, .aload_n 0), (30, .iload_n 2), (31, .iconst 2), (32, .iadd), (33, .invokevirtual 273), (36, .istore 6), (38, .iload 4), (40, .bipush 16), (42, .if_icmp .le 7), (45, .iload_n 2), (46, .goto 33), (49, .iload 5), (51, .iconst 1), (52, .bipush 16), (54, .invokestatic 122), (57, .ifCond .ne 9), (60, .iload_n 2), (61, .iconst 1), (62, .iadd), (63, .goto 16), (66, .iload 6), (68, .iconst 1), (69, .if_icmp .ge 9), (72, .iload_n 2), (73, .iconst 2), (74, .iadd), (75, .goto 4), (78, .iconst (-1)), (79, .istore 7), (81, .iload 7), (83, .ifCond .lt 8)]
def mc_199_1 : List (Nat × Instr) := [(86, .iconst (-1)), (87, .iload 7), (89, .isub), (90, .ireturn), (91, .iinc 2 3), (94, .iconst 0), (95, .istore 8), (97, .iload 8), (99, .iload 6), (101, .if_icmp .ge 146), (104, .aload_n 0), (105, .iload_n 2), (106, .iload 4), (108, .iload 5), (110, .invokevirtual 280), (113, .istore 9), (115, .iload 9), (117, .ifCond .ge 6), (120, .iload 9), (122, .ireturn), (123, .iconst 0), (124, .istore 10), (126, .iload 10), (128, .aload_n 0), (129, .getfield 116), (132, .iload_n 2), (133, .iconst 2), (134, .iadd), (135, .iaload), (136, .if_icmp .ge 100), (139, .iload 9), (141, .iconst 3), (142, .if_icmp .ne 7), (145, .iconst 0), (146, .goto 17), (149, .iload 10), (151, .aload_n 0), (152, .getfield 116), (155, .iload_n 2), (156, .iconst 3), (157, .iadd), (158, .iaload), (159, .invokestatic 277), (162, .imul), (163, .istore 11), (165, .iload 9), (167, .iconst 3), (168, .if_icmp .ne 7), (171, .iconst 0), (172, .goto 17)]
def mc_199_2 : List (Nat × Instr) := [(175, .iload 10), (177, .aload_n 0), (178, .getfield 116), (181, .iload_n 2), (182, .iconst 4), (183, .iadd), (184, .iaload), (185, .invokestatic 277), (188, .imul), (189, .istore 12), (191, .iload_n 1), (192, .invokestatic 126), (195, .ifCond .eq 32), (198, .aload_n 0), (199, .iload_n 1), (200, .aload_n 0), (201, .getfield 116), (204, .iload_n 2), (205, .iaload), (206, .iload 11), (208, .iadd), (209, .aload_n 0), (210, .getfield 116), (213, .iload_n 2), (214, .iconst 1), (215, .iadd), (216, .iaload), (217, .iload 12), (219, .iadd), (220, .iload 4), (222, .iload 5), (224, .invokevirtual 134), (227, .iinc 3 1), (230, .iinc 10 1), (233, .goto (-107)), (236, .iload_n 2), (237, .iload 9), (239, .iadd), (240, .istore_n 2), (241, .iinc 8 1), (244, .goto (-147)), (247, .goto (-243)), (250, .aload_n 0), (251, .iload_n 2), (252, .invokevirtual 273), (255, .ifCond .ge 9), (258, .iconst (-1)), (259, .iload_n 2), (260, .isub), (261, .goto 21)]
def mc_199_3 : List (Nat × Instr) := [(264, .iload_n 2), (265, .iconst 1), (266, .iadd), (267, .aload_n 0), (268, .getfield 270), (271, .if_icmp .ge 10), (274, .bipush (-2)), (276, .iload_n 2), (277, .isub), (278, .goto 4), (281, .iload_n 3), (282, .ireturn)]
def mc_199 : List (Nat × Instr) := mc_199_0 ++ (mc_199_1 ++ (mc_199_2 ++ (mc_199_3)))
def mc_200 : List (Nat × Instr) := [(0, .iload_n 1), (1, .invokestatic 126), (4, .ifCond .ne 7), (7, .sipush (-1000)), (10, .ireturn), (11, .aload_n 0), (12, .iconst (-1)), (13, .invokevirtual 283), (16, .istore_n 2), (17, .iload_n 2), (18, .ifCond .lt 37), (21, .iconst 0), (22, .istore_n 3), (23, .iload_n 3), (24, .sipush 256), (27, .if_icmp .ge 22), (30, .aload_n 0), (31, .getfield 7), (34, .sipush 256), (37, .iload_n 1), (38, .imul), (39, .iload_n 3), (40, .iadd), (41, .iconst 0), (42, .bastore), (43, .iinc 3 1), (46, .goto (-23)), (49, .aload_n 0), (50, .iload_n 1), (51, .invokevirtual 283), (54, .istore_n 2), (55, .aload_n 0), (56, .iconst 0), (57, .putfield 270), (60, .iload_n 2), (61, .ireturn)]
def mc_201 : List (Nat × Instr) := [(0, .iload_n 0), (1, .iload_n 0), (2, .iconst 1), (3, .iushr), (4, .ldc_w 265), (7, .iand), (8, .isub), (9, .istore_n 0), (10, .iload_n 0), (11, .ldc_w 266), (14, .iand), (15, .iload_n 0), (16, .iconst 2), (17, .iushr), (18, .ldc_w 266), (21, .iand), (22, .iadd), (23, .istore_n 0), (24, .iload_n 0), (25, .iload_n 0), (26, .iconst 4), (27, .iushr), (28, .iadd), (29, .ldc_w 267), (32, .iand), (33, .istore_n 0), (34, .iload_n 0), (35, .iload_n 0), (36, .bipush 8), (38, .iushr), (39, .iadd), (40, .istore_n 0), (41, .iload_n 0), (42, .iload_n 0), (43, .bipush 16), (45, .iushr), (46, .iadd), (47, .istore_n 0), (48, .iload_n 0), (49, .bipush 63), (51, .iand), (52, .ireturn)]
def mc_202 : List (Nat × Instr) := [(0, .iload_n 0), (1, .ifCond .ge 8), (4, .iload_n 0), (5, .ineg), (6, .goto 4), (9, .iload_n 0), (10, .ireturn)]
def mc_203 : List (Nat × Instr) := [(0, .iload_n 0), (1, .iload_n 1), (2, .if_icmp .lt 7), (5, .iload_n 0), (6, .goto 4), (9, .iload_n 1), (10, .ireturn)]
def mc_204 : List (Nat × Instr) := [(0, .iload_n 0), (1, .iload_n 1), (2, .if_icmp .gt 7), (5, .iload_n 0), (6, .goto 4), (9, .iload_n 1), (10, .ireturn)]
def mm_coL : List (List (Nat × Instr)) := [mc_0, mc_1, mc_2, mc_3, mc_4, mc_5, mc_6, mc_7, mc_8, mc_9, mc_10, mc_11, mc_12, mc_13, mc_14, mc_15, mc_16, mc_17, mc_18, mc_19, mc_20, mc_21, mc_22, mc_23, mc_24, mc_25, mc_26, mc_27, mc_28, mc_29, mc_30, mc_31, mc_32, mc_33, mc_34, mc_35, mc_36, mc_37, mc_38, mc_39, mc_40, mc_41, mc_42, mc_43, mc_44, mc_45, mc_46, mc_47, mc_48, mc_49, mc_50, mc_51, mc_52, mc_53, mc_54, mc_55, mc_56, mc_57, mc_58, mc_59, mc_60, mc_61, mc_62, mc_63, mc_64, mc_65, mc_66, mc_67, mc_68, mc_69, mc_70, mc_71, mc_72, mc_73, mc_74, mc_75, mc_76, mc_77, mc_78, mc_79, mc_80, mc_81, mc_82, mc_83, mc_84, mc_85, mc_86, mc_87, mc_88, mc_89, mc_90, mc_91, mc_92, mc_93, mc_94, mc_95, mc_96, mc_97, mc_98, mc_99, mc_100, mc_101, mc_102, mc_103, mc_104, mc_105, mc_106, mc_107, mc_108, mc_109, mc_110, mc_111, mc_112, mc_113, mc_114, mc_115, mc_116, mc_117, mc_118, mc_119, mc_120, mc_121, mc_122, mc_123, mc_124, mc_125, mc_126, mc_127, mc_128, mc_129, mc_130, mc_131, mc_132, mc_133, mc_134, mc_135, mc_136, mc_137, mc_138, mc_139, mc_140, mc_141, mc_142, mc_143, mc_144, mc_145, mc_146, mc_147, mc_148, mc_149, mc_150, mc_151, mc_152, mc_153, mc_154, mc_155, mc_156, mc_157, mc_158, mc_159, mc_160, mc_161, mc_162, mc_163, mc_164, mc_165, mc_166, mc_167, mc_168, mc_169, mc_170, mc_171, mc_172, mc_173, mc_174, mc_175, mc_176, mc_177, mc_178, mc_179, mc_180, mc_181, mc_182, mc_183, mc_184, mc_185, mc_186, mc_187, mc_188, mc_189, mc_190, mc_191, mc_192, mc_193, mc_194, mc_195, mc_196, mc_197, mc_198, mc_199, mc_200, mc_201, mc_202, mc_203, mc_204]
end
section
/-! ===== THE SMALL MACHINE: the bytecode of this system run over numbers, addresses and cells alone =====
An address 0 is the script; every other is a cell that the run has made, in the order of making. -/
abbrev mm_E : Type := (Nat × vp_A) ⊕ (Nat × List Value)
abbrev mm_M : Type := (Nat → Option mm_E) × Nat × Nat
abbrev mm_L : Type := List (Option Value)
abbrev mm_S : Type := Nat × (Nat → Int32)
def mm_y (k : Nat) : MethodName := mm_yL.getD k yL_law
def mm_by (k : Nat) : ByteArray := mm_byL.getD k code
def mm_mx (k : Nat) : Nat := mm_mxL.getD k 0
def mm_rt (k : Nat) : Option FieldType := mm_rtL.getD k none
def mm_ow (k : Nat) : Nat := mm_owL.getD k 0
def mm_np (k : Nat) : Nat := mm_npL.getD k 0
def mm_in (k : Nat) : Bool := mm_inL.getD k false
def mm_po (k : Nat) : Nat × Nat × Nat × Nat := mm_poL.getD k (0, 0, 0, 0)
def mm_co (k : Nat) : List (Nat × Instr) := mm_coL.getD k []
def mm_lk {α : Type} : List (Nat × α) → Nat → Option α
  | [], _ => none
  | x :: r, p => if p = x.1 then some x.2 else mm_lk r p
def mm_l2 {α : Type} : List ((Nat × Nat) × α) → Nat → Nat → Option α
  | [], _, _ => none
  | x :: r, p, q => if p = x.1.1 ∧ q = x.1.2 then some x.2 else mm_l2 r p q
theorem mm_lk_mem {α : Type} {l : List (Nat × α)} {p : Nat} {v : α} (h : mm_lk l p = some v) : (p, v) ∈ l := by
  induction l with
  | nil => cases h
  | cons x r ih =>
    unfold mm_lk at h
    by_cases hp : p = x.1
    · rw [if_pos hp] at h
      cases h
      rw [hp]
      exact List.mem_cons_self
    · rw [if_neg hp] at h
      exact List.mem_cons_of_mem _ (ih h)
theorem mm_l2_mem {α : Type} {l : List ((Nat × Nat) × α)} {p q : Nat} {v : α} (h : mm_l2 l p q = some v) : ((p, q), v) ∈ l := by
  induction l with
  | nil => cases h
  | cons x r ih =>
    unfold mm_l2 at h
    by_cases hp : p = x.1.1 ∧ q = x.1.2
    · rw [if_pos hp] at h
      cases h
      rw [hp.1, hp.2]
      exact List.mem_cons_self
    · rw [if_neg hp] at h
      exact List.mem_cons_of_mem _ (ih h)
def mm_cd (k pc : Nat) : Option Instr := mm_lk (mm_co k) pc
/-- the length that an instruction must have -/
def mm_ln (i : Instr) (n : Nat) : Bool := match i with
  | .tableswitch .. => true
  | .lookupswitch .. => true
  | .iload _ => n == 2
  | .aload _ => n == 2
  | .istore _ => n == 2
  | .astore _ => n == 2
  | .bipush _ => n == 2
  | .newarray _ => n == 2
  | .ldc _ => n == 2
  | .sipush _ => n == 3
  | .ldc_w _ => n == 3
  | .iinc _ _ => n == 3
  | .if_icmp _ _ => n == 3
  | .ifCond _ _ => n == 3
  | .goto _ => n == 3
  | .getfield _ => n == 3
  | .putfield _ => n == 3
  | .new _ => n == 3
  | .anewarray _ => n == 3
  | .invokevirtual _ => n == 3
  | .invokestatic _ => n == 3
  | .invokespecial _ => n == 3
  | _ => n == 1
def mm_dk (cc : ByteArray) (x : Nat × Instr) : Bool := match decode cc x.1 with
  | .ok (i, n) => decide (i = x.2) && mm_ln i n
  | .error _ => false
def mm_dP (k : Nat) : Prop := (mm_co k).all (mm_dk (mm_by k)) = true
end
section
theorem mm_alla {α : Type} {p : α → Bool} {a b : List α} (ha : a.all p = true) (hb : b.all p = true) : (a ++ b).all p = true := by rw [List.all_append, ha, hb]; rfl
theorem dk_0_0 : mc_0_0.all (mm_dk (mm_by 0)) = true := by decide +kernel
theorem dk_0_1 : mc_0_1.all (mm_dk (mm_by 0)) = true := by decide +kernel
theorem dk_0_2 : mc_0_2.all (mm_dk (mm_by 0)) = true := by decide +kernel
theorem dk_0_3 : mc_0_3.all (mm_dk (mm_by 0)) = true := by decide +kernel
theorem dk_0_4 : mc_0_4.all (mm_dk (mm_by 0)) = true := by decide +kernel
theorem dk_0_5 : mc_0_5.all (mm_dk (mm_by 0)) = true := by decide +kernel
theorem dk_0_6 : mc_0_6.all (mm_dk (mm_by 0)) = true := by decide +kernel
theorem dk_0_7 : mc_0_7.all (mm_dk (mm_by 0)) = true := by decide +kernel
theorem dk_0_8 : mc_0_8.all (mm_dk (mm_by 0)) = true := by decide +kernel
theorem dk_0_9 : mc_0_9.all (mm_dk (mm_by 0)) = true := by decide +kernel
theorem dk_0_10 : mc_0_10.all (mm_dk (mm_by 0)) = true := by decide +kernel
theorem dk_0_11 : mc_0_11.all (mm_dk (mm_by 0)) = true := by decide +kernel
theorem dk_0_12 : mc_0_12.all (mm_dk (mm_by 0)) = true := by decide +kernel
theorem dk_0_13 : mc_0_13.all (mm_dk (mm_by 0)) = true := by decide +kernel
theorem dk_0 : mc_0.all (mm_dk (mm_by 0)) = true := (mm_alla dk_0_0 (mm_alla dk_0_1 (mm_alla dk_0_2 (mm_alla dk_0_3 (mm_alla dk_0_4 (mm_alla dk_0_5 (mm_alla dk_0_6 (mm_alla dk_0_7 (mm_alla dk_0_8 (mm_alla dk_0_9 (mm_alla dk_0_10 (mm_alla dk_0_11 (mm_alla dk_0_12 dk_0_13)))))))))))))
theorem dk_1 : mc_1.all (mm_dk (mm_by 1)) = true := by decide +kernel
theorem dk_2 : mc_2.all (mm_dk (mm_by 2)) = true := by decide +kernel
theorem dk_3 : mc_3.all (mm_dk (mm_by 3)) = true := by decide +kernel
theorem dk_4 : mc_4.all (mm_dk (mm_by 4)) = true := by decide +kernel
theorem dk_5 : mc_5.all (mm_dk (mm_by 5)) = true := by decide +kernel
theorem dk_6 : mc_6.all (mm_dk (mm_by 6)) = true := by decide +kernel
theorem dk_7 : mc_7.all (mm_dk (mm_by 7)) = true := by decide +kernel
theorem dk_8 : mc_8.all (mm_dk (mm_by 8)) = true := by decide +kernel
theorem dk_9 : mc_9.all (mm_dk (mm_by 9)) = true := by decide +kernel
theorem dk_10 : mc_10.all (mm_dk (mm_by 10)) = true := by decide +kernel
theorem dk_11 : mc_11.all (mm_dk (mm_by 11)) = true := by decide +kernel
theorem dk_12 : mc_12.all (mm_dk (mm_by 12)) = true := by decide +kernel
theorem dk_13 : mc_13.all (mm_dk (mm_by 13)) = true := by decide +kernel
theorem dk_14 : mc_14.all (mm_dk (mm_by 14)) = true := by decide +kernel
theorem dk_15 : mc_15.all (mm_dk (mm_by 15)) = true := by decide +kernel
theorem dk_16 : mc_16.all (mm_dk (mm_by 16)) = true := by decide +kernel
theorem dk_17 : mc_17.all (mm_dk (mm_by 17)) = true := by decide +kernel
theorem dk_18 : mc_18.all (mm_dk (mm_by 18)) = true := by decide +kernel
theorem dk_19 : mc_19.all (mm_dk (mm_by 19)) = true := by decide +kernel
theorem dk_20 : mc_20.all (mm_dk (mm_by 20)) = true := by decide +kernel
theorem dk_21 : mc_21.all (mm_dk (mm_by 21)) = true := by decide +kernel
theorem dk_22 : mc_22.all (mm_dk (mm_by 22)) = true := by decide +kernel
theorem dk_23 : mc_23.all (mm_dk (mm_by 23)) = true := by decide +kernel
theorem dk_24 : mc_24.all (mm_dk (mm_by 24)) = true := by decide +kernel
theorem dk_25 : mc_25.all (mm_dk (mm_by 25)) = true := by decide +kernel
theorem dk_26 : mc_26.all (mm_dk (mm_by 26)) = true := by decide +kernel
theorem dk_27 : mc_27.all (mm_dk (mm_by 27)) = true := by decide +kernel
theorem dk_28 : mc_28.all (mm_dk (mm_by 28)) = true := by decide +kernel
theorem dk_29 : mc_29.all (mm_dk (mm_by 29)) = true := by decide +kernel
theorem dk_30 : mc_30.all (mm_dk (mm_by 30)) = true := by decide +kernel
theorem dk_31 : mc_31.all (mm_dk (mm_by 31)) = true := by decide +kernel
theorem dk_32 : mc_32.all (mm_dk (mm_by 32)) = true := by decide +kernel
theorem dk_33 : mc_33.all (mm_dk (mm_by 33)) = true := by decide +kernel
theorem dk_34 : mc_34.all (mm_dk (mm_by 34)) = true := by decide +kernel
theorem dk_35 : mc_35.all (mm_dk (mm_by 35)) = true := by decide +kernel
theorem dk_36 : mc_36.all (mm_dk (mm_by 36)) = true := by decide +kernel
theorem dk_37 : mc_37.all (mm_dk (mm_by 37)) = true := by decide +kernel
theorem dk_38 : mc_38.all (mm_dk (mm_by 38)) = true := by decide +kernel
theorem dk_39 : mc_39.all (mm_dk (mm_by 39)) = true := by decide +kernel
theorem dk_40 : mc_40.all (mm_dk (mm_by 40)) = true := by decide +kernel
theorem dk_41 : mc_41.all (mm_dk (mm_by 41)) = true := by decide +kernel
theorem dk_42 : mc_42.all (mm_dk (mm_by 42)) = true := by decide +kernel
theorem dk_43 : mc_43.all (mm_dk (mm_by 43)) = true := by decide +kernel
theorem dk_44 : mc_44.all (mm_dk (mm_by 44)) = true := by decide +kernel
theorem dk_45 : mc_45.all (mm_dk (mm_by 45)) = true := by decide +kernel
theorem dk_46 : mc_46.all (mm_dk (mm_by 46)) = true := by decide +kernel
theorem dk_47 : mc_47.all (mm_dk (mm_by 47)) = true := by decide +kernel
theorem dk_48 : mc_48.all (mm_dk (mm_by 48)) = true := by decide +kernel
theorem dk_49 : mc_49.all (mm_dk (mm_by 49)) = true := by decide +kernel
theorem dk_50 : mc_50.all (mm_dk (mm_by 50)) = true := by decide +kernel
theorem dk_51 : mc_51.all (mm_dk (mm_by 51)) = true := by decide +kernel
theorem dk_52 : mc_52.all (mm_dk (mm_by 52)) = true := by decide +kernel
theorem dk_53 : mc_53.all (mm_dk (mm_by 53)) = true := by decide +kernel
theorem dk_54 : mc_54.all (mm_dk (mm_by 54)) = true := by decide +kernel
theorem dk_55 : mc_55.all (mm_dk (mm_by 55)) = true := by decide +kernel
theorem dk_56 : mc_56.all (mm_dk (mm_by 56)) = true := by decide +kernel
theorem dk_57 : mc_57.all (mm_dk (mm_by 57)) = true := by decide +kernel
theorem dk_58 : mc_58.all (mm_dk (mm_by 58)) = true := by decide +kernel
theorem dk_59 : mc_59.all (mm_dk (mm_by 59)) = true := by decide +kernel
theorem dk_60 : mc_60.all (mm_dk (mm_by 60)) = true := by decide +kernel
theorem dk_61 : mc_61.all (mm_dk (mm_by 61)) = true := by decide +kernel
theorem dk_62 : mc_62.all (mm_dk (mm_by 62)) = true := by decide +kernel
theorem dk_63 : mc_63.all (mm_dk (mm_by 63)) = true := by decide +kernel
theorem dk_64 : mc_64.all (mm_dk (mm_by 64)) = true := by decide +kernel
theorem dk_65 : mc_65.all (mm_dk (mm_by 65)) = true := by decide +kernel
theorem dk_66 : mc_66.all (mm_dk (mm_by 66)) = true := by decide +kernel
theorem dk_67 : mc_67.all (mm_dk (mm_by 67)) = true := by decide +kernel
theorem dk_68 : mc_68.all (mm_dk (mm_by 68)) = true := by decide +kernel
theorem dk_69 : mc_69.all (mm_dk (mm_by 69)) = true := by decide +kernel
theorem dk_70 : mc_70.all (mm_dk (mm_by 70)) = true := by decide +kernel
theorem dk_71 : mc_71.all (mm_dk (mm_by 71)) = true := by decide +kernel
theorem dk_72 : mc_72.all (mm_dk (mm_by 72)) = true := by decide +kernel
theorem dk_73 : mc_73.all (mm_dk (mm_by 73)) = true := by decide +kernel
theorem dk_74 : mc_74.all (mm_dk (mm_by 74)) = true := by decide +kernel
theorem dk_75 : mc_75.all (mm_dk (mm_by 75)) = true := by decide +kernel
theorem dk_76 : mc_76.all (mm_dk (mm_by 76)) = true := by decide +kernel
theorem dk_77 : mc_77.all (mm_dk (mm_by 77)) = true := by decide +kernel
theorem dk_78 : mc_78.all (mm_dk (mm_by 78)) = true := by decide +kernel
theorem dk_79 : mc_79.all (mm_dk (mm_by 79)) = true := by decide +kernel
theorem dk_80 : mc_80.all (mm_dk (mm_by 80)) = true := by decide +kernel
theorem dk_81 : mc_81.all (mm_dk (mm_by 81)) = true := by decide +kernel
theorem dk_82 : mc_82.all (mm_dk (mm_by 82)) = true := by decide +kernel
theorem dk_83 : mc_83.all (mm_dk (mm_by 83)) = true := by decide +kernel
theorem dk_84 : mc_84.all (mm_dk (mm_by 84)) = true := by decide +kernel
theorem dk_85 : mc_85.all (mm_dk (mm_by 85)) = true := by decide +kernel
theorem dk_86 : mc_86.all (mm_dk (mm_by 86)) = true := by decide +kernel
theorem dk_87 : mc_87.all (mm_dk (mm_by 87)) = true := by decide +kernel
theorem dk_88 : mc_88.all (mm_dk (mm_by 88)) = true := by decide +kernel
theorem dk_89 : mc_89.all (mm_dk (mm_by 89)) = true := by decide +kernel
theorem dk_90 : mc_90.all (mm_dk (mm_by 90)) = true := by decide +kernel
theorem dk_91 : mc_91.all (mm_dk (mm_by 91)) = true := by decide +kernel
theorem dk_92 : mc_92.all (mm_dk (mm_by 92)) = true := by decide +kernel
theorem dk_93 : mc_93.all (mm_dk (mm_by 93)) = true := by decide +kernel
theorem dk_94 : mc_94.all (mm_dk (mm_by 94)) = true := by decide +kernel
theorem dk_95 : mc_95.all (mm_dk (mm_by 95)) = true := by decide +kernel
theorem dk_96 : mc_96.all (mm_dk (mm_by 96)) = true := by decide +kernel
theorem dk_97 : mc_97.all (mm_dk (mm_by 97)) = true := by decide +kernel
theorem dk_98 : mc_98.all (mm_dk (mm_by 98)) = true := by decide +kernel
theorem dk_99 : mc_99.all (mm_dk (mm_by 99)) = true := by decide +kernel
theorem dk_100 : mc_100.all (mm_dk (mm_by 100)) = true := by decide +kernel
theorem dk_101 : mc_101.all (mm_dk (mm_by 101)) = true := by decide +kernel
theorem dk_102 : mc_102.all (mm_dk (mm_by 102)) = true := by decide +kernel
theorem dk_103 : mc_103.all (mm_dk (mm_by 103)) = true := by decide +kernel
theorem dk_104 : mc_104.all (mm_dk (mm_by 104)) = true := by decide +kernel
theorem dk_105 : mc_105.all (mm_dk (mm_by 105)) = true := by decide +kernel
theorem dk_106 : mc_106.all (mm_dk (mm_by 106)) = true := by decide +kernel
theorem dk_107 : mc_107.all (mm_dk (mm_by 107)) = true := by decide +kernel
theorem dk_108 : mc_108.all (mm_dk (mm_by 108)) = true := by decide +kernel
theorem dk_109 : mc_109.all (mm_dk (mm_by 109)) = true := by decide +kernel
theorem dk_110 : mc_110.all (mm_dk (mm_by 110)) = true := by decide +kernel
theorem dk_111 : mc_111.all (mm_dk (mm_by 111)) = true := by decide +kernel
theorem dk_112 : mc_112.all (mm_dk (mm_by 112)) = true := by decide +kernel
theorem dk_113 : mc_113.all (mm_dk (mm_by 113)) = true := by decide +kernel
theorem dk_114 : mc_114.all (mm_dk (mm_by 114)) = true := by decide +kernel
theorem dk_115 : mc_115.all (mm_dk (mm_by 115)) = true := by decide +kernel
theorem dk_116 : mc_116.all (mm_dk (mm_by 116)) = true := by decide +kernel
theorem dk_117 : mc_117.all (mm_dk (mm_by 117)) = true := by decide +kernel
theorem dk_118 : mc_118.all (mm_dk (mm_by 118)) = true := by decide +kernel
theorem dk_119 : mc_119.all (mm_dk (mm_by 119)) = true := by decide +kernel
theorem dk_120 : mc_120.all (mm_dk (mm_by 120)) = true := by decide +kernel
theorem dk_121 : mc_121.all (mm_dk (mm_by 121)) = true := by decide +kernel
theorem dk_122 : mc_122.all (mm_dk (mm_by 122)) = true := by decide +kernel
theorem dk_123 : mc_123.all (mm_dk (mm_by 123)) = true := by decide +kernel
theorem dk_124 : mc_124.all (mm_dk (mm_by 124)) = true := by decide +kernel
theorem dk_125 : mc_125.all (mm_dk (mm_by 125)) = true := by decide +kernel
theorem dk_126 : mc_126.all (mm_dk (mm_by 126)) = true := by decide +kernel
theorem dk_127 : mc_127.all (mm_dk (mm_by 127)) = true := by decide +kernel
theorem dk_128 : mc_128.all (mm_dk (mm_by 128)) = true := by decide +kernel
theorem dk_129 : mc_129.all (mm_dk (mm_by 129)) = true := by decide +kernel
theorem dk_130 : mc_130.all (mm_dk (mm_by 130)) = true := by decide +kernel
theorem dk_131 : mc_131.all (mm_dk (mm_by 131)) = true := by decide +kernel
theorem dk_132 : mc_132.all (mm_dk (mm_by 132)) = true := by decide +kernel
theorem dk_133 : mc_133.all (mm_dk (mm_by 133)) = true := by decide +kernel
theorem dk_134 : mc_134.all (mm_dk (mm_by 134)) = true := by decide +kernel
theorem dk_135 : mc_135.all (mm_dk (mm_by 135)) = true := by decide +kernel
theorem dk_136 : mc_136.all (mm_dk (mm_by 136)) = true := by decide +kernel
theorem dk_137 : mc_137.all (mm_dk (mm_by 137)) = true := by decide +kernel
theorem dk_138 : mc_138.all (mm_dk (mm_by 138)) = true := by decide +kernel
theorem dk_139 : mc_139.all (mm_dk (mm_by 139)) = true := by decide +kernel
theorem dk_140 : mc_140.all (mm_dk (mm_by 140)) = true := by decide +kernel
theorem dk_141 : mc_141.all (mm_dk (mm_by 141)) = true := by decide +kernel
theorem dk_142 : mc_142.all (mm_dk (mm_by 142)) = true := by decide +kernel
theorem dk_143 : mc_143.all (mm_dk (mm_by 143)) = true := by decide +kernel
theorem dk_144 : mc_144.all (mm_dk (mm_by 144)) = true := by decide +kernel
theorem dk_145 : mc_145.all (mm_dk (mm_by 145)) = true := by decide +kernel
theorem dk_146_0 : mc_146_0.all (mm_dk (mm_by 146)) = true := by decide +kernel
theorem dk_146_1 : mc_146_1.all (mm_dk (mm_by 146)) = true := by decide +kernel
theorem dk_146_2 : mc_146_2.all (mm_dk (mm_by 146)) = true := by decide +kernel
theorem dk_146_3 : mc_146_3.all (mm_dk (mm_by 146)) = true := by decide +kernel
theorem dk_146_4 : mc_146_4.all (mm_dk (mm_by 146)) = true := by decide +kernel
theorem dk_146_5 : mc_146_5.all (mm_dk (mm_by 146)) = true := by decide +kernel
theorem dk_146 : mc_146.all (mm_dk (mm_by 146)) = true := (mm_alla dk_146_0 (mm_alla dk_146_1 (mm_alla dk_146_2 (mm_alla dk_146_3 (mm_alla dk_146_4 dk_146_5)))))
theorem dk_147 : mc_147.all (mm_dk (mm_by 147)) = true := by decide +kernel
theorem dk_148 : mc_148.all (mm_dk (mm_by 148)) = true := by decide +kernel
theorem dk_149 : mc_149.all (mm_dk (mm_by 149)) = true := by decide +kernel
theorem dk_150 : mc_150.all (mm_dk (mm_by 150)) = true := by decide +kernel
theorem dk_151 : mc_151.all (mm_dk (mm_by 151)) = true := by decide +kernel
theorem dk_152 : mc_152.all (mm_dk (mm_by 152)) = true := by decide +kernel
theorem dk_153 : mc_153.all (mm_dk (mm_by 153)) = true := by decide +kernel
theorem dk_154 : mc_154.all (mm_dk (mm_by 154)) = true := by decide +kernel
theorem dk_155 : mc_155.all (mm_dk (mm_by 155)) = true := by decide +kernel
theorem dk_156 : mc_156.all (mm_dk (mm_by 156)) = true := by decide +kernel
theorem dk_157 : mc_157.all (mm_dk (mm_by 157)) = true := by decide +kernel
theorem dk_158 : mc_158.all (mm_dk (mm_by 158)) = true := by decide +kernel
theorem dk_159 : mc_159.all (mm_dk (mm_by 159)) = true := by decide +kernel
theorem dk_160 : mc_160.all (mm_dk (mm_by 160)) = true := by decide +kernel
theorem dk_161 : mc_161.all (mm_dk (mm_by 161)) = true := by decide +kernel
theorem dk_162 : mc_162.all (mm_dk (mm_by 162)) = true := by decide +kernel
theorem dk_163 : mc_163.all (mm_dk (mm_by 163)) = true := by decide +kernel
theorem dk_164 : mc_164.all (mm_dk (mm_by 164)) = true := by decide +kernel
theorem dk_165 : mc_165.all (mm_dk (mm_by 165)) = true := by decide +kernel
theorem dk_166 : mc_166.all (mm_dk (mm_by 166)) = true := by decide +kernel
theorem dk_167_0 : mc_167_0.all (mm_dk (mm_by 167)) = true := by decide +kernel
theorem dk_167_1 : mc_167_1.all (mm_dk (mm_by 167)) = true := by decide +kernel
theorem dk_167_2 : mc_167_2.all (mm_dk (mm_by 167)) = true := by decide +kernel
theorem dk_167_3 : mc_167_3.all (mm_dk (mm_by 167)) = true := by decide +kernel
theorem dk_167_4 : mc_167_4.all (mm_dk (mm_by 167)) = true := by decide +kernel
theorem dk_167_5 : mc_167_5.all (mm_dk (mm_by 167)) = true := by decide +kernel
theorem dk_167_6 : mc_167_6.all (mm_dk (mm_by 167)) = true := by decide +kernel
theorem dk_167_7 : mc_167_7.all (mm_dk (mm_by 167)) = true := by decide +kernel
theorem dk_167_8 : mc_167_8.all (mm_dk (mm_by 167)) = true := by decide +kernel
theorem dk_167 : mc_167.all (mm_dk (mm_by 167)) = true := (mm_alla dk_167_0 (mm_alla dk_167_1 (mm_alla dk_167_2 (mm_alla dk_167_3 (mm_alla dk_167_4 (mm_alla dk_167_5 (mm_alla dk_167_6 (mm_alla dk_167_7 dk_167_8))))))))
theorem dk_168 : mc_168.all (mm_dk (mm_by 168)) = true := by decide +kernel
theorem dk_169 : mc_169.all (mm_dk (mm_by 169)) = true := by decide +kernel
theorem dk_170_0 : mc_170_0.all (mm_dk (mm_by 170)) = true := by decide +kernel
theorem dk_170_1 : mc_170_1.all (mm_dk (mm_by 170)) = true := by decide +kernel
theorem dk_170_2 : mc_170_2.all (mm_dk (mm_by 170)) = true := by decide +kernel
theorem dk_170 : mc_170.all (mm_dk (mm_by 170)) = true := (mm_alla dk_170_0 (mm_alla dk_170_1 dk_170_2))
theorem dk_171 : mc_171.all (mm_dk (mm_by 171)) = true := by decide +kernel
theorem dk_172 : mc_172.all (mm_dk (mm_by 172)) = true := by decide +kernel
theorem dk_173 : mc_173.all (mm_dk (mm_by 173)) = true := by decide +kernel
theorem dk_174 : mc_174.all (mm_dk (mm_by 174)) = true := by decide +kernel
theorem dk_175 : mc_175.all (mm_dk (mm_by 175)) = true := by decide +kernel
theorem dk_176 : mc_176.all (mm_dk (mm_by 176)) = true := by decide +kernel
theorem dk_177 : mc_177.all (mm_dk (mm_by 177)) = true := by decide +kernel
theorem dk_178 : mc_178.all (mm_dk (mm_by 178)) = true := by decide +kernel
theorem dk_179_0 : mc_179_0.all (mm_dk (mm_by 179)) = true := by decide +kernel
theorem dk_179_1 : mc_179_1.all (mm_dk (mm_by 179)) = true := by decide +kernel
theorem dk_179_2 : mc_179_2.all (mm_dk (mm_by 179)) = true := by decide +kernel
theorem dk_179_3 : mc_179_3.all (mm_dk (mm_by 179)) = true := by decide +kernel
theorem dk_179 : mc_179.all (mm_dk (mm_by 179)) = true := (mm_alla dk_179_0 (mm_alla dk_179_1 (mm_alla dk_179_2 dk_179_3)))
theorem dk_180 : mc_180.all (mm_dk (mm_by 180)) = true := by decide +kernel
theorem dk_181 : mc_181.all (mm_dk (mm_by 181)) = true := by decide +kernel
theorem dk_182 : mc_182.all (mm_dk (mm_by 182)) = true := by decide +kernel
theorem dk_183 : mc_183.all (mm_dk (mm_by 183)) = true := by decide +kernel
theorem dk_184 : mc_184.all (mm_dk (mm_by 184)) = true := by decide +kernel
theorem dk_185_0 : mc_185_0.all (mm_dk (mm_by 185)) = true := by decide +kernel
theorem dk_185_1 : mc_185_1.all (mm_dk (mm_by 185)) = true := by decide +kernel
theorem dk_185_2 : mc_185_2.all (mm_dk (mm_by 185)) = true := by decide +kernel
theorem dk_185_3 : mc_185_3.all (mm_dk (mm_by 185)) = true := by decide +kernel
theorem dk_185 : mc_185.all (mm_dk (mm_by 185)) = true := (mm_alla dk_185_0 (mm_alla dk_185_1 (mm_alla dk_185_2 dk_185_3)))
theorem dk_186 : mc_186.all (mm_dk (mm_by 186)) = true := by decide +kernel
theorem dk_187_0 : mc_187_0.all (mm_dk (mm_by 187)) = true := by decide +kernel
theorem dk_187_1 : mc_187_1.all (mm_dk (mm_by 187)) = true := by decide +kernel
theorem dk_187_2 : mc_187_2.all (mm_dk (mm_by 187)) = true := by decide +kernel
theorem dk_187 : mc_187.all (mm_dk (mm_by 187)) = true := (mm_alla dk_187_0 (mm_alla dk_187_1 dk_187_2))
theorem dk_188 : mc_188.all (mm_dk (mm_by 188)) = true := by decide +kernel
theorem dk_189 : mc_189.all (mm_dk (mm_by 189)) = true := by decide +kernel
theorem dk_190 : mc_190.all (mm_dk (mm_by 190)) = true := by decide +kernel
theorem dk_191 : mc_191.all (mm_dk (mm_by 191)) = true := by decide +kernel
theorem dk_192_0 : mc_192_0.all (mm_dk (mm_by 192)) = true := by decide +kernel
theorem dk_192_1 : mc_192_1.all (mm_dk (mm_by 192)) = true := by decide +kernel
theorem dk_192_2 : mc_192_2.all (mm_dk (mm_by 192)) = true := by decide +kernel
theorem dk_192 : mc_192.all (mm_dk (mm_by 192)) = true := (mm_alla dk_192_0 (mm_alla dk_192_1 dk_192_2))
theorem dk_193 : mc_193.all (mm_dk (mm_by 193)) = true := by decide +kernel
theorem dk_194 : mc_194.all (mm_dk (mm_by 194)) = true := by decide +kernel
theorem dk_195 : mc_195.all (mm_dk (mm_by 195)) = true := by decide +kernel
theorem dk_196 : mc_196.all (mm_dk (mm_by 196)) = true := by decide +kernel
theorem dk_197_0 : mc_197_0.all (mm_dk (mm_by 197)) = true := by decide +kernel
theorem dk_197_1 : mc_197_1.all (mm_dk (mm_by 197)) = true := by decide +kernel
theorem dk_197_2 : mc_197_2.all (mm_dk (mm_by 197)) = true := by decide +kernel
theorem dk_197 : mc_197.all (mm_dk (mm_by 197)) = true := (mm_alla dk_197_0 (mm_alla dk_197_1 dk_197_2))
theorem dk_198 : mc_198.all (mm_dk (mm_by 198)) = true := by decide +kernel
theorem dk_199_0 : mc_199_0.all (mm_dk (mm_by 199)) = true := by decide +kernel
theorem dk_199_1 : mc_199_1.all (mm_dk (mm_by 199)) = true := by decide +kernel
theorem dk_199_2 : mc_199_2.all (mm_dk (mm_by 199)) = true := by decide +kernel
theorem dk_199_3 : mc_199_3.all (mm_dk (mm_by 199)) = true := by decide +kernel
theorem dk_199 : mc_199.all (mm_dk (mm_by 199)) = true := (mm_alla dk_199_0 (mm_alla dk_199_1 (mm_alla dk_199_2 dk_199_3)))
theorem dk_200 : mc_200.all (mm_dk (mm_by 200)) = true := by decide +kernel
theorem dk_201 : mc_201.all (mm_dk (mm_by 201)) = true := by decide +kernel
theorem dk_202 : mc_202.all (mm_dk (mm_by 202)) = true := by decide +kernel
theorem dk_203 : mc_203.all (mm_dk (mm_by 203)) = true := by decide +kernel
theorem dk_204 : mc_204.all (mm_dk (mm_by 204)) = true := by decide +kernel
theorem dq_0 : ∀ a, a < 0 → mm_dP a := lt_0
theorem dq_1 : ∀ a, a < 1 → mm_dP a := lt_s (i := 0) dq_0 dk_0
theorem dq_2 : ∀ a, a < 2 → mm_dP a := lt_s (i := 1) dq_1 dk_1
theorem dq_3 : ∀ a, a < 3 → mm_dP a := lt_s (i := 2) dq_2 dk_2
theorem dq_4 : ∀ a, a < 4 → mm_dP a := lt_s (i := 3) dq_3 dk_3
theorem dq_5 : ∀ a, a < 5 → mm_dP a := lt_s (i := 4) dq_4 dk_4
theorem dq_6 : ∀ a, a < 6 → mm_dP a := lt_s (i := 5) dq_5 dk_5
theorem dq_7 : ∀ a, a < 7 → mm_dP a := lt_s (i := 6) dq_6 dk_6
theorem dq_8 : ∀ a, a < 8 → mm_dP a := lt_s (i := 7) dq_7 dk_7
theorem dq_9 : ∀ a, a < 9 → mm_dP a := lt_s (i := 8) dq_8 dk_8
theorem dq_10 : ∀ a, a < 10 → mm_dP a := lt_s (i := 9) dq_9 dk_9
theorem dq_11 : ∀ a, a < 11 → mm_dP a := lt_s (i := 10) dq_10 dk_10
theorem dq_12 : ∀ a, a < 12 → mm_dP a := lt_s (i := 11) dq_11 dk_11
theorem dq_13 : ∀ a, a < 13 → mm_dP a := lt_s (i := 12) dq_12 dk_12
theorem dq_14 : ∀ a, a < 14 → mm_dP a := lt_s (i := 13) dq_13 dk_13
theorem dq_15 : ∀ a, a < 15 → mm_dP a := lt_s (i := 14) dq_14 dk_14
theorem dq_16 : ∀ a, a < 16 → mm_dP a := lt_s (i := 15) dq_15 dk_15
theorem dq_17 : ∀ a, a < 17 → mm_dP a := lt_s (i := 16) dq_16 dk_16
theorem dq_18 : ∀ a, a < 18 → mm_dP a := lt_s (i := 17) dq_17 dk_17
theorem dq_19 : ∀ a, a < 19 → mm_dP a := lt_s (i := 18) dq_18 dk_18
theorem dq_20 : ∀ a, a < 20 → mm_dP a := lt_s (i := 19) dq_19 dk_19
theorem dq_21 : ∀ a, a < 21 → mm_dP a := lt_s (i := 20) dq_20 dk_20
theorem dq_22 : ∀ a, a < 22 → mm_dP a := lt_s (i := 21) dq_21 dk_21
theorem dq_23 : ∀ a, a < 23 → mm_dP a := lt_s (i := 22) dq_22 dk_22
theorem dq_24 : ∀ a, a < 24 → mm_dP a := lt_s (i := 23) dq_23 dk_23
theorem dq_25 : ∀ a, a < 25 → mm_dP a := lt_s (i := 24) dq_24 dk_24
theorem dq_26 : ∀ a, a < 26 → mm_dP a := lt_s (i := 25) dq_25 dk_25
theorem dq_27 : ∀ a, a < 27 → mm_dP a := lt_s (i := 26) dq_26 dk_26
theorem dq_28 : ∀ a, a < 28 → mm_dP a := lt_s (i := 27) dq_27 dk_27
theorem dq_29 : ∀ a, a < 29 → mm_dP a := lt_s (i := 28) dq_28 dk_28
theorem dq_30 : ∀ a, a < 30 → mm_dP a := lt_s (i := 29) dq_29 dk_29
theorem dq_31 : ∀ a, a < 31 → mm_dP a := lt_s (i := 30) dq_30 dk_30
theorem dq_32 : ∀ a, a < 32 → mm_dP a := lt_s (i := 31) dq_31 dk_31
theorem dq_33 : ∀ a, a < 33 → mm_dP a := lt_s (i := 32) dq_32 dk_32
theorem dq_34 : ∀ a, a < 34 → mm_dP a := lt_s (i := 33) dq_33 dk_33
theorem dq_35 : ∀ a, a < 35 → mm_dP a := lt_s (i := 34) dq_34 dk_34
theorem dq_36 : ∀ a, a < 36 → mm_dP a := lt_s (i := 35) dq_35 dk_35
theorem dq_37 : ∀ a, a < 37 → mm_dP a := lt_s (i := 36) dq_36 dk_36
theorem dq_38 : ∀ a, a < 38 → mm_dP a := lt_s (i := 37) dq_37 dk_37
theorem dq_39 : ∀ a, a < 39 → mm_dP a := lt_s (i := 38) dq_38 dk_38
theorem dq_40 : ∀ a, a < 40 → mm_dP a := lt_s (i := 39) dq_39 dk_39
theorem dq_41 : ∀ a, a < 41 → mm_dP a := lt_s (i := 40) dq_40 dk_40
theorem dq_42 : ∀ a, a < 42 → mm_dP a := lt_s (i := 41) dq_41 dk_41
theorem dq_43 : ∀ a, a < 43 → mm_dP a := lt_s (i := 42) dq_42 dk_42
theorem dq_44 : ∀ a, a < 44 → mm_dP a := lt_s (i := 43) dq_43 dk_43
theorem dq_45 : ∀ a, a < 45 → mm_dP a := lt_s (i := 44) dq_44 dk_44
theorem dq_46 : ∀ a, a < 46 → mm_dP a := lt_s (i := 45) dq_45 dk_45
theorem dq_47 : ∀ a, a < 47 → mm_dP a := lt_s (i := 46) dq_46 dk_46
theorem dq_48 : ∀ a, a < 48 → mm_dP a := lt_s (i := 47) dq_47 dk_47
theorem dq_49 : ∀ a, a < 49 → mm_dP a := lt_s (i := 48) dq_48 dk_48
theorem dq_50 : ∀ a, a < 50 → mm_dP a := lt_s (i := 49) dq_49 dk_49
theorem dq_51 : ∀ a, a < 51 → mm_dP a := lt_s (i := 50) dq_50 dk_50
theorem dq_52 : ∀ a, a < 52 → mm_dP a := lt_s (i := 51) dq_51 dk_51
theorem dq_53 : ∀ a, a < 53 → mm_dP a := lt_s (i := 52) dq_52 dk_52
theorem dq_54 : ∀ a, a < 54 → mm_dP a := lt_s (i := 53) dq_53 dk_53
theorem dq_55 : ∀ a, a < 55 → mm_dP a := lt_s (i := 54) dq_54 dk_54
theorem dq_56 : ∀ a, a < 56 → mm_dP a := lt_s (i := 55) dq_55 dk_55
theorem dq_57 : ∀ a, a < 57 → mm_dP a := lt_s (i := 56) dq_56 dk_56
theorem dq_58 : ∀ a, a < 58 → mm_dP a := lt_s (i := 57) dq_57 dk_57
theorem dq_59 : ∀ a, a < 59 → mm_dP a := lt_s (i := 58) dq_58 dk_58
theorem dq_60 : ∀ a, a < 60 → mm_dP a := lt_s (i := 59) dq_59 dk_59
theorem dq_61 : ∀ a, a < 61 → mm_dP a := lt_s (i := 60) dq_60 dk_60
theorem dq_62 : ∀ a, a < 62 → mm_dP a := lt_s (i := 61) dq_61 dk_61
theorem dq_63 : ∀ a, a < 63 → mm_dP a := lt_s (i := 62) dq_62 dk_62
theorem dq_64 : ∀ a, a < 64 → mm_dP a := lt_s (i := 63) dq_63 dk_63
theorem dq_65 : ∀ a, a < 65 → mm_dP a := lt_s (i := 64) dq_64 dk_64
theorem dq_66 : ∀ a, a < 66 → mm_dP a := lt_s (i := 65) dq_65 dk_65
theorem dq_67 : ∀ a, a < 67 → mm_dP a := lt_s (i := 66) dq_66 dk_66
theorem dq_68 : ∀ a, a < 68 → mm_dP a := lt_s (i := 67) dq_67 dk_67
theorem dq_69 : ∀ a, a < 69 → mm_dP a := lt_s (i := 68) dq_68 dk_68
theorem dq_70 : ∀ a, a < 70 → mm_dP a := lt_s (i := 69) dq_69 dk_69
theorem dq_71 : ∀ a, a < 71 → mm_dP a := lt_s (i := 70) dq_70 dk_70
theorem dq_72 : ∀ a, a < 72 → mm_dP a := lt_s (i := 71) dq_71 dk_71
theorem dq_73 : ∀ a, a < 73 → mm_dP a := lt_s (i := 72) dq_72 dk_72
theorem dq_74 : ∀ a, a < 74 → mm_dP a := lt_s (i := 73) dq_73 dk_73
theorem dq_75 : ∀ a, a < 75 → mm_dP a := lt_s (i := 74) dq_74 dk_74
theorem dq_76 : ∀ a, a < 76 → mm_dP a := lt_s (i := 75) dq_75 dk_75
theorem dq_77 : ∀ a, a < 77 → mm_dP a := lt_s (i := 76) dq_76 dk_76
theorem dq_78 : ∀ a, a < 78 → mm_dP a := lt_s (i := 77) dq_77 dk_77
theorem dq_79 : ∀ a, a < 79 → mm_dP a := lt_s (i := 78) dq_78 dk_78
theorem dq_80 : ∀ a, a < 80 → mm_dP a := lt_s (i := 79) dq_79 dk_79
theorem dq_81 : ∀ a, a < 81 → mm_dP a := lt_s (i := 80) dq_80 dk_80
theorem dq_82 : ∀ a, a < 82 → mm_dP a := lt_s (i := 81) dq_81 dk_81
theorem dq_83 : ∀ a, a < 83 → mm_dP a := lt_s (i := 82) dq_82 dk_82
theorem dq_84 : ∀ a, a < 84 → mm_dP a := lt_s (i := 83) dq_83 dk_83
theorem dq_85 : ∀ a, a < 85 → mm_dP a := lt_s (i := 84) dq_84 dk_84
theorem dq_86 : ∀ a, a < 86 → mm_dP a := lt_s (i := 85) dq_85 dk_85
theorem dq_87 : ∀ a, a < 87 → mm_dP a := lt_s (i := 86) dq_86 dk_86
theorem dq_88 : ∀ a, a < 88 → mm_dP a := lt_s (i := 87) dq_87 dk_87
theorem dq_89 : ∀ a, a < 89 → mm_dP a := lt_s (i := 88) dq_88 dk_88
theorem dq_90 : ∀ a, a < 90 → mm_dP a := lt_s (i := 89) dq_89 dk_89
theorem dq_91 : ∀ a, a < 91 → mm_dP a := lt_s (i := 90) dq_90 dk_90
theorem dq_92 : ∀ a, a < 92 → mm_dP a := lt_s (i := 91) dq_91 dk_91
theorem dq_93 : ∀ a, a < 93 → mm_dP a := lt_s (i := 92) dq_92 dk_92
theorem dq_94 : ∀ a, a < 94 → mm_dP a := lt_s (i := 93) dq_93 dk_93
theorem dq_95 : ∀ a, a < 95 → mm_dP a := lt_s (i := 94) dq_94 dk_94
theorem dq_96 : ∀ a, a < 96 → mm_dP a := lt_s (i := 95) dq_95 dk_95
theorem dq_97 : ∀ a, a < 97 → mm_dP a := lt_s (i := 96) dq_96 dk_96
theorem dq_98 : ∀ a, a < 98 → mm_dP a := lt_s (i := 97) dq_97 dk_97
theorem dq_99 : ∀ a, a < 99 → mm_dP a := lt_s (i := 98) dq_98 dk_98
theorem dq_100 : ∀ a, a < 100 → mm_dP a := lt_s (i := 99) dq_99 dk_99
theorem dq_101 : ∀ a, a < 101 → mm_dP a := lt_s (i := 100) dq_100 dk_100
theorem dq_102 : ∀ a, a < 102 → mm_dP a := lt_s (i := 101) dq_101 dk_101
theorem dq_103 : ∀ a, a < 103 → mm_dP a := lt_s (i := 102) dq_102 dk_102
theorem dq_104 : ∀ a, a < 104 → mm_dP a := lt_s (i := 103) dq_103 dk_103
theorem dq_105 : ∀ a, a < 105 → mm_dP a := lt_s (i := 104) dq_104 dk_104
theorem dq_106 : ∀ a, a < 106 → mm_dP a := lt_s (i := 105) dq_105 dk_105
theorem dq_107 : ∀ a, a < 107 → mm_dP a := lt_s (i := 106) dq_106 dk_106
theorem dq_108 : ∀ a, a < 108 → mm_dP a := lt_s (i := 107) dq_107 dk_107
theorem dq_109 : ∀ a, a < 109 → mm_dP a := lt_s (i := 108) dq_108 dk_108
theorem dq_110 : ∀ a, a < 110 → mm_dP a := lt_s (i := 109) dq_109 dk_109
theorem dq_111 : ∀ a, a < 111 → mm_dP a := lt_s (i := 110) dq_110 dk_110
theorem dq_112 : ∀ a, a < 112 → mm_dP a := lt_s (i := 111) dq_111 dk_111
theorem dq_113 : ∀ a, a < 113 → mm_dP a := lt_s (i := 112) dq_112 dk_112
theorem dq_114 : ∀ a, a < 114 → mm_dP a := lt_s (i := 113) dq_113 dk_113
theorem dq_115 : ∀ a, a < 115 → mm_dP a := lt_s (i := 114) dq_114 dk_114
theorem dq_116 : ∀ a, a < 116 → mm_dP a := lt_s (i := 115) dq_115 dk_115
theorem dq_117 : ∀ a, a < 117 → mm_dP a := lt_s (i := 116) dq_116 dk_116
theorem dq_118 : ∀ a, a < 118 → mm_dP a := lt_s (i := 117) dq_117 dk_117
theorem dq_119 : ∀ a, a < 119 → mm_dP a := lt_s (i := 118) dq_118 dk_118
theorem dq_120 : ∀ a, a < 120 → mm_dP a := lt_s (i := 119) dq_119 dk_119
theorem dq_121 : ∀ a, a < 121 → mm_dP a := lt_s (i := 120) dq_120 dk_120
theorem dq_122 : ∀ a, a < 122 → mm_dP a := lt_s (i := 121) dq_121 dk_121
theorem dq_123 : ∀ a, a < 123 → mm_dP a := lt_s (i := 122) dq_122 dk_122
theorem dq_124 : ∀ a, a < 124 → mm_dP a := lt_s (i := 123) dq_123 dk_123
theorem dq_125 : ∀ a, a < 125 → mm_dP a := lt_s (i := 124) dq_124 dk_124
theorem dq_126 : ∀ a, a < 126 → mm_dP a := lt_s (i := 125) dq_125 dk_125
theorem dq_127 : ∀ a, a < 127 → mm_dP a := lt_s (i := 126) dq_126 dk_126
theorem dq_128 : ∀ a, a < 128 → mm_dP a := lt_s (i := 127) dq_127 dk_127
theorem dq_129 : ∀ a, a < 129 → mm_dP a := lt_s (i := 128) dq_128 dk_128
theorem dq_130 : ∀ a, a < 130 → mm_dP a := lt_s (i := 129) dq_129 dk_129
theorem dq_131 : ∀ a, a < 131 → mm_dP a := lt_s (i := 130) dq_130 dk_130
theorem dq_132 : ∀ a, a < 132 → mm_dP a := lt_s (i := 131) dq_131 dk_131
theorem dq_133 : ∀ a, a < 133 → mm_dP a := lt_s (i := 132) dq_132 dk_132
theorem dq_134 : ∀ a, a < 134 → mm_dP a := lt_s (i := 133) dq_133 dk_133
theorem dq_135 : ∀ a, a < 135 → mm_dP a := lt_s (i := 134) dq_134 dk_134
theorem dq_136 : ∀ a, a < 136 → mm_dP a := lt_s (i := 135) dq_135 dk_135
theorem dq_137 : ∀ a, a < 137 → mm_dP a := lt_s (i := 136) dq_136 dk_136
theorem dq_138 : ∀ a, a < 138 → mm_dP a := lt_s (i := 137) dq_137 dk_137
theorem dq_139 : ∀ a, a < 139 → mm_dP a := lt_s (i := 138) dq_138 dk_138
theorem dq_140 : ∀ a, a < 140 → mm_dP a := lt_s (i := 139) dq_139 dk_139
theorem dq_141 : ∀ a, a < 141 → mm_dP a := lt_s (i := 140) dq_140 dk_140
theorem dq_142 : ∀ a, a < 142 → mm_dP a := lt_s (i := 141) dq_141 dk_141
theorem dq_143 : ∀ a, a < 143 → mm_dP a := lt_s (i := 142) dq_142 dk_142
theorem dq_144 : ∀ a, a < 144 → mm_dP a := lt_s (i := 143) dq_143 dk_143
theorem dq_145 : ∀ a, a < 145 → mm_dP a := lt_s (i := 144) dq_144 dk_144
theorem dq_146 : ∀ a, a < 146 → mm_dP a := lt_s (i := 145) dq_145 dk_145
theorem dq_147 : ∀ a, a < 147 → mm_dP a := lt_s (i := 146) dq_146 dk_146
theorem dq_148 : ∀ a, a < 148 → mm_dP a := lt_s (i := 147) dq_147 dk_147
theorem dq_149 : ∀ a, a < 149 → mm_dP a := lt_s (i := 148) dq_148 dk_148
theorem dq_150 : ∀ a, a < 150 → mm_dP a := lt_s (i := 149) dq_149 dk_149
theorem dq_151 : ∀ a, a < 151 → mm_dP a := lt_s (i := 150) dq_150 dk_150
theorem dq_152 : ∀ a, a < 152 → mm_dP a := lt_s (i := 151) dq_151 dk_151
theorem dq_153 : ∀ a, a < 153 → mm_dP a := lt_s (i := 152) dq_152 dk_152
theorem dq_154 : ∀ a, a < 154 → mm_dP a := lt_s (i := 153) dq_153 dk_153
theorem dq_155 : ∀ a, a < 155 → mm_dP a := lt_s (i := 154) dq_154 dk_154
theorem dq_156 : ∀ a, a < 156 → mm_dP a := lt_s (i := 155) dq_155 dk_155
theorem dq_157 : ∀ a, a < 157 → mm_dP a := lt_s (i := 156) dq_156 dk_156
theorem dq_158 : ∀ a, a < 158 → mm_dP a := lt_s (i := 157) dq_157 dk_157
theorem dq_159 : ∀ a, a < 159 → mm_dP a := lt_s (i := 158) dq_158 dk_158
theorem dq_160 : ∀ a, a < 160 → mm_dP a := lt_s (i := 159) dq_159 dk_159
theorem dq_161 : ∀ a, a < 161 → mm_dP a := lt_s (i := 160) dq_160 dk_160
theorem dq_162 : ∀ a, a < 162 → mm_dP a := lt_s (i := 161) dq_161 dk_161
theorem dq_163 : ∀ a, a < 163 → mm_dP a := lt_s (i := 162) dq_162 dk_162
theorem dq_164 : ∀ a, a < 164 → mm_dP a := lt_s (i := 163) dq_163 dk_163
theorem dq_165 : ∀ a, a < 165 → mm_dP a := lt_s (i := 164) dq_164 dk_164
theorem dq_166 : ∀ a, a < 166 → mm_dP a := lt_s (i := 165) dq_165 dk_165
theorem dq_167 : ∀ a, a < 167 → mm_dP a := lt_s (i := 166) dq_166 dk_166
theorem dq_168 : ∀ a, a < 168 → mm_dP a := lt_s (i := 167) dq_167 dk_167
theorem dq_169 : ∀ a, a < 169 → mm_dP a := lt_s (i := 168) dq_168 dk_168
theorem dq_170 : ∀ a, a < 170 → mm_dP a := lt_s (i := 169) dq_169 dk_169
theorem dq_171 : ∀ a, a < 171 → mm_dP a := lt_s (i := 170) dq_170 dk_170
theorem dq_172 : ∀ a, a < 172 → mm_dP a := lt_s (i := 171) dq_171 dk_171
theorem dq_173 : ∀ a, a < 173 → mm_dP a := lt_s (i := 172) dq_172 dk_172
theorem dq_174 : ∀ a, a < 174 → mm_dP a := lt_s (i := 173) dq_173 dk_173
theorem dq_175 : ∀ a, a < 175 → mm_dP a := lt_s (i := 174) dq_174 dk_174
theorem dq_176 : ∀ a, a < 176 → mm_dP a := lt_s (i := 175) dq_175 dk_175
theorem dq_177 : ∀ a, a < 177 → mm_dP a := lt_s (i := 176) dq_176 dk_176
theorem dq_178 : ∀ a, a < 178 → mm_dP a := lt_s (i := 177) dq_177 dk_177
theorem dq_179 : ∀ a, a < 179 → mm_dP a := lt_s (i := 178) dq_178 dk_178
theorem dq_180 : ∀ a, a < 180 → mm_dP a := lt_s (i := 179) dq_179 dk_179
theorem dq_181 : ∀ a, a < 181 → mm_dP a := lt_s (i := 180) dq_180 dk_180
theorem dq_182 : ∀ a, a < 182 → mm_dP a := lt_s (i := 181) dq_181 dk_181
theorem dq_183 : ∀ a, a < 183 → mm_dP a := lt_s (i := 182) dq_182 dk_182
theorem dq_184 : ∀ a, a < 184 → mm_dP a := lt_s (i := 183) dq_183 dk_183
theorem dq_185 : ∀ a, a < 185 → mm_dP a := lt_s (i := 184) dq_184 dk_184
theorem dq_186 : ∀ a, a < 186 → mm_dP a := lt_s (i := 185) dq_185 dk_185
theorem dq_187 : ∀ a, a < 187 → mm_dP a := lt_s (i := 186) dq_186 dk_186
theorem dq_188 : ∀ a, a < 188 → mm_dP a := lt_s (i := 187) dq_187 dk_187
theorem dq_189 : ∀ a, a < 189 → mm_dP a := lt_s (i := 188) dq_188 dk_188
theorem dq_190 : ∀ a, a < 190 → mm_dP a := lt_s (i := 189) dq_189 dk_189
theorem dq_191 : ∀ a, a < 191 → mm_dP a := lt_s (i := 190) dq_190 dk_190
theorem dq_192 : ∀ a, a < 192 → mm_dP a := lt_s (i := 191) dq_191 dk_191
theorem dq_193 : ∀ a, a < 193 → mm_dP a := lt_s (i := 192) dq_192 dk_192
theorem dq_194 : ∀ a, a < 194 → mm_dP a := lt_s (i := 193) dq_193 dk_193
theorem dq_195 : ∀ a, a < 195 → mm_dP a := lt_s (i := 194) dq_194 dk_194
theorem dq_196 : ∀ a, a < 196 → mm_dP a := lt_s (i := 195) dq_195 dk_195
theorem dq_197 : ∀ a, a < 197 → mm_dP a := lt_s (i := 196) dq_196 dk_196
theorem dq_198 : ∀ a, a < 198 → mm_dP a := lt_s (i := 197) dq_197 dk_197
theorem dq_199 : ∀ a, a < 199 → mm_dP a := lt_s (i := 198) dq_198 dk_198
theorem dq_200 : ∀ a, a < 200 → mm_dP a := lt_s (i := 199) dq_199 dk_199
theorem dq_201 : ∀ a, a < 201 → mm_dP a := lt_s (i := 200) dq_200 dk_200
theorem dq_202 : ∀ a, a < 202 → mm_dP a := lt_s (i := 201) dq_201 dk_201
theorem dq_203 : ∀ a, a < 203 → mm_dP a := lt_s (i := 202) dq_202 dk_202
theorem dq_204 : ∀ a, a < 204 → mm_dP a := lt_s (i := 203) dq_203 dk_203
theorem dq_205 : ∀ a, a < 205 → mm_dP a := lt_s (i := 204) dq_204 dk_204
set_option maxRecDepth 20000 in
theorem mm_coL_len : mm_coL.length = 205 := by decide +kernel
theorem mm_dq (k : Nat) : mm_dP k := by
  by_cases h : k < 205
  · exact dq_205 k h
  · have e : mm_co k = [] := by
      unfold mm_co
      rw [List.getD_eq_getElem?_getD, List.getElem?_eq_none (by rw [mm_coL_len]; exact Nat.not_lt.mp h)]
      rfl
    unfold mm_dP
    rw [e]
    rfl
theorem mm_dec {k pc : Nat} {i : Instr} (h : mm_cd k pc = some i) : ∃ n, decode (mm_by k) pc = .ok (i, n) ∧ mm_ln i n = true := by
  have h1 := List.all_eq_true.mp (mm_dq k) _ (mm_lk_mem h)
  unfold mm_dk at h1
  split at h1
  · next j n e =>
    simp only [Bool.and_eq_true, decide_eq_true_eq] at h1
    obtain ⟨rfl, h2⟩ := h1
    exact ⟨n, e, h2⟩
  · cases h1
end
section
-- cells
def mm_u (f : Nat → Option mm_E) (a : Nat) (c : mm_E) : Nat → Option mm_E := fun k => if k = a then some c else f k
def mm_put (M : mm_M) (a : Nat) (c : mm_E) : mm_M := (mm_u M.1 a c, M.2)
def mm_add (M : mm_M) (c : mm_E) (z : Nat) : mm_M := (mm_u M.1 M.2.1 c, M.2.1 + 1, M.2.2 + z)
def mm_tg (pc : Nat) (off : Int) : Option Nat := if 0 ≤ (pc : Int) + off then some ((pc : Int) + off).toNat else none
abbrev mm_F : Type := Nat × mm_L × List Value × mm_M
def mm_ldi (k len pc : Nat) (L : mm_L) (st : List Value) (M : mm_M) : Option mm_F := match L[k]? with
  | some (some (.int x)) => some (pc + len, L, .int x :: st, M)
  | _ => none
def mm_lda (k len pc : Nat) (L : mm_L) (st : List Value) (M : mm_M) : Option mm_F := match L[k]? with
  | some (some (.ref x)) => some (pc + len, L, .ref x :: st, M)
  | _ => none
def mm_sti (k len pc : Nat) (L : mm_L) (st : List Value) (M : mm_M) : Option mm_F := match st with
  | .int x :: r => if k < L.length then some (pc + len, L.set k (some (.int x)), r, M) else none
  | _ => none
def mm_sta (k len pc : Nat) (L : mm_L) (st : List Value) (M : mm_M) : Option mm_F := match st with
  | .ref x :: r => if k < L.length then some (pc + len, L.set k (some (.ref x)), r, M) else none
  | _ => none
def mm_inc (k : Nat) (n : Int) (pc : Nat) (L : mm_L) (st : List Value) (M : mm_M) : Option mm_F := match L[k]? with
  | some (some (.int x)) => some (pc + 3, L.set k (some (.int (x + Int32.ofInt n))), st, M)
  | _ => none
def mm_b2 (f : Int32 → Int32 → Int32) (pc : Nat) (L : mm_L) (st : List Value) (M : mm_M) : Option mm_F := match st with
  | .int y :: .int x :: r => some (pc + 1, L, .int (f x y) :: r, M)
  | _ => none
def mm_b3 (f : Int32 → Int32 → Int32) (pc : Nat) (L : mm_L) (st : List Value) (M : mm_M) : Option mm_F := match st with
  | .int y :: .int x :: r => if y = 0 then none else some (pc + 1, L, .int (f x y) :: r, M)
  | _ => none
/-- what a comparison says -/
def mm_cc (c : ClassFile.Cond) (x y : Int32) : Bool := match c with
  | .eq => decide (x = y)
  | .ne => decide (¬ x = y)
  | .lt => decide (x < y)
  | .ge => decide (y ≤ x)
  | .gt => decide (y < x)
  | .le => decide (x ≤ y)
def mm_br (b : Bool) (off : Int) (pc : Nat) (L : mm_L) (st : List Value) (M : mm_M) : Option mm_F := match mm_tg pc off with
  | some t => some (if b then t else pc + 3, L, st, M)
  | none => none
def mm_fit (ty : FieldType) (v : Value) : Bool := match ty, v with
  | .boolean, .int x => decide (x = 0 ∨ x = 1)
  | .int, .int _ => true
  | .object _, .ref _ => true
  | .array _, .ref _ => true
  | _, _ => false
def mm_ia (t : Nat) (S : mm_S) (pc : Nat) (L : mm_L) (st : List Value) (M : mm_M) : Option mm_F := match st with
  | .int i :: .ref 0 :: r => if t = 0 ∧ ¬ (i < 0 ∨ S.1 ≤ i.toNatClampNeg) then some (pc + 1, L, .int (S.2 i.toNatClampNeg) :: r, M) else none
  | .int i :: .ref (a + 1) :: r => match M.1 (a + 1) with
    | some (.inl (t', n, .inl f)) => if t' = t ∧ ¬ (i < 0 ∨ n ≤ i.toNatClampNeg) then some (pc + 1, L, .int (f i.toNatClampNeg) :: r, M) else none
    | _ => none
  | _ => none
def mm_aa (pc : Nat) (L : mm_L) (st : List Value) (M : mm_M) : Option mm_F := match st with
  | .int i :: .ref a :: r => match M.1 a with
    | some (.inl (t, n, .inr (.inr (.inr (.inr f))))) => if (mm_tc t).isSome = true ∧ ¬ (i < 0 ∨ n ≤ i.toNatClampNeg) then (match f i.toNatClampNeg with
      | some q => some (pc + 1, L, .ref q :: r, M)
      | none => none) else none
    | _ => none
  | _ => none
def mm_is (t : Nat) (pc : Nat) (L : mm_L) (st : List Value) (M : mm_M) : Option mm_F := match st with
  | .int x :: .int i :: .ref a :: r => match M.1 a with
    | some (.inl (t', n, .inl f)) => if (t' = t ∧ (t = 1 → x = 0 ∨ x = 1)) ∧ ¬ (i < 0 ∨ n ≤ i.toNatClampNeg) then some (pc + 1, L, r, mm_put M a (.inl (t', n, .inl (upd f i.toNatClampNeg x)))) else none
    | _ => none
  | _ => none
def mm_as (pc : Nat) (L : mm_L) (st : List Value) (M : mm_M) : Option mm_F := match st with
  | .ref v :: .int i :: .ref a :: r => match M.1 a, M.1 v with
    | some (.inl (t, n, .inr (.inr (.inr (.inr f))))), some (.inr (ci, _)) => if mm_tc t = some ci ∧ ¬ (i < 0 ∨ n ≤ i.toNatClampNeg) then some (pc + 1, L, r, mm_put M a (.inl (t, n, .inr (.inr (.inr (.inr (va_up f i.toNatClampNeg (some v)))))))) else none
    | _, _ => none
  | _ => none
def mm_al (S : mm_S) (pc : Nat) (L : mm_L) (st : List Value) (M : mm_M) : Option mm_F := match st with
  | .ref 0 :: r => some (pc + 1, L, .int (Int32.ofNat S.1) :: r, M)
  | .ref (a + 1) :: r => match M.1 (a + 1) with
    | some (.inl (t, n, _)) => if t < 4 then some (pc + 1, L, .int (Int32.ofNat n) :: r, M) else none
    | _ => none
  | _ => none
def mm_gf (o k : Nat) (pc : Nat) (L : mm_L) (st : List Value) (M : mm_M) : Option mm_F := match st with
  | .ref a :: r => match mm_l2 mm_fT o k, M.1 a with
    | some (ci, j, _), some (.inr (c', fs)) => if c' = ci then (match fs[j]? with
      | some v => some (pc + 3, L, v :: r, M)
      | none => none) else none
    | _, _ => none
  | _ => none
def mm_pf (o k : Nat) (ini : Bool) (pc : Nat) (L : mm_L) (st : List Value) (M : mm_M) : Option mm_F := match st with
  | v :: .ref a :: r => match mm_l2 mm_fT o k, M.1 a with
    | some (ci, j, _), some (.inr (c', fs)) => if (c' = ci ∧ j < fs.length) ∧ mm_fit (mm_fy ci j) v = true ∧ ((mm_T ci j).2.2.2 = true → ini = true ∧ o = ci) then some (pc + 3, L, r, mm_put M a (.inr (c', fs.set j v))) else none
    | _, _ => none
  | _ => none
def mm_nw (o k : Nat) (pc : Nat) (L : mm_L) (st : List Value) (M : mm_M) : Option mm_F := match mm_l2 mm_nT o k with
  | some (ci, _) => some (pc + 3, L, .ref M.2.1 :: st, mm_add M (.inr (ci, mm_df ci)) (mm_N ci))
  | none => none
def mm_na (t : Nat) (pc : Nat) (L : mm_L) (st : List Value) (M : mm_M) : Option mm_F := match st with
  | .int n :: r => if n < 0 ∨ 65536 < n.toNatClampNeg then none else some (pc + 2, L, .ref M.2.1 :: r, mm_add M (.inl (t, n.toNatClampNeg, .inl (fun _ => 0))) n.toNatClampNeg)
  | _ => none
def mm_an (o k : Nat) (pc : Nat) (L : mm_L) (st : List Value) (M : mm_M) : Option mm_F := match st with
  | .int n :: r => match mm_l2 mm_aT o k with
    | some (t, _, _) => if n < 0 ∨ 65536 < n.toNatClampNeg then none else some (pc + 3, L, .ref M.2.1 :: r, mm_add M (.inl (t, n.toNatClampNeg, .inr (.inr (.inr (.inr (fun _ => none)))))) n.toNatClampNeg)
    | none => none
  | _ => none
def mm_ts (d lo hi : Int) (offs : Array Int) (pc : Nat) (L : mm_L) (st : List Value) (M : mm_M) : Option mm_F := match st with
  | .int x :: r => if x.toInt < lo ∨ hi < x.toInt then (match mm_tg pc d with
      | some t => some (t, L, r, M)
      | none => none) else (match offs[(x.toInt - lo).toNat]? with
      | some off => (match mm_tg pc off with
        | some t => some (t, L, r, M)
        | none => none)
      | none => none)
  | _ => none
def mm_lw (d : Int) (ps : Array (Int × Int)) (pc : Nat) (L : mm_L) (st : List Value) (M : mm_M) : Option mm_F := match st with
  | .int x :: r => if (ps.toList.zip (ps.toList.drop 1)).all (fun (a, next) => a.1 < next.1) = true then (match mm_tg pc (Op.lookupswitch.offset ps.toList d x.toInt) with
      | some t => some (t, L, r, M)
      | none => none) else none
  | _ => none
/-- one instruction that neither calls nor returns -/
def mm_st (o : Nat) (ini : Bool) (S : mm_S) (i : Instr) (pc : Nat) (L : mm_L) (st : List Value) (M : mm_M) : Option mm_F := match i with
  | .iconst n => some (pc + 1, L, .int (Int32.ofInt n) :: st, M)
  | .bipush n => some (pc + 2, L, .int (Int8.ofInt n).toInt32 :: st, M)
  | .sipush n => some (pc + 3, L, .int (Int16.ofInt n).toInt32 :: st, M)
  | .ldc k => (match mm_l2 mm_cT o k with
    | some (v, _) => some (pc + 2, L, .int v :: st, M)
    | none => none)
  | .ldc_w k => (match mm_l2 mm_cT o k with
    | some (v, _) => some (pc + 3, L, .int v :: st, M)
    | none => none)
  | .iload_n k => mm_ldi k.val 1 pc L st M
  | .iload k => mm_ldi k 2 pc L st M
  | .aload_n k => mm_lda k.val 1 pc L st M
  | .aload k => mm_lda k 2 pc L st M
  | .istore_n k => mm_sti k.val 1 pc L st M
  | .istore k => mm_sti k 2 pc L st M
  | .astore_n k => mm_sta k.val 1 pc L st M
  | .astore k => mm_sta k 2 pc L st M
  | .iinc k n => mm_inc k n pc L st M
  | .iadd => mm_b2 (fun x y => x + y) pc L st M
  | .isub => mm_b2 (fun x y => x - y) pc L st M
  | .imul => mm_b2 (fun x y => x * y) pc L st M
  | .iand => mm_b2 (fun x y => x &&& y) pc L st M
  | .ior => mm_b2 (fun x y => x ||| y) pc L st M
  | .ixor => mm_b2 (fun x y => x ^^^ y) pc L st M
  | .ishl => mm_b2 (fun x y => x <<< (y &&& 31)) pc L st M
  | .ishr => mm_b2 (fun x y => x >>> (y &&& 31)) pc L st M
  | .iushr => mm_b2 (fun x y => (x.toUInt32 >>> (y.toUInt32 &&& Int32.toUInt32 31)).toInt32) pc L st M
  | .idiv => mm_b3 (fun x y => x / y) pc L st M
  | .irem => mm_b3 (fun x y => x - x / y * y) pc L st M
  | .ineg => (match st with
    | .int x :: r => some (pc + 1, L, .int (-x) :: r, M)
    | _ => none)
  | .dup => (match st with
    | v :: r => if v.category = 1 then some (pc + 1, L, v :: v :: r, M) else none
    | _ => none)
  | .dup2 => (match st with
    | v :: w :: r => if v.category = 1 ∧ w.category = 1 then some (pc + 1, L, v :: w :: v :: w :: r, M) else none
    | _ => none)
  | .if_icmp c off => (match st with
    | .int y :: .int x :: r => mm_br (mm_cc c x y) off pc L r M
    | _ => none)
  | .ifCond c off => (match st with
    | .int x :: r => mm_br (mm_cc c x 0) off pc L r M
    | _ => none)
  | .goto off => mm_br true off pc L st M
  | .tableswitch d lo hi offs => mm_ts d lo hi offs pc L st M
  | .lookupswitch d ps => mm_lw d ps pc L st M
  | .arraylength => mm_al S pc L st M
  | .iaload => mm_ia 0 S pc L st M
  | .baload => mm_ia 1 S pc L st M
  | .aaload => mm_aa pc L st M
  | .iastore => mm_is 0 pc L st M
  | .bastore => mm_is 1 pc L st M
  | .aastore => mm_as pc L st M
  | .getfield k => mm_gf o k pc L st M
  | .putfield k => mm_pf o k ini pc L st M
  | .new k => mm_nw o k pc L st M
  | .newarray .int => mm_na 0 pc L st M
  | .newarray .boolean => mm_na 1 pc L st M
  | .anewarray k => mm_an o k pc L st M
  | _ => none
/-- a call: the method, its arguments, what lies under them -/
def mm_rc (kind k : Nat) (as : List Value) (M : mm_M) : Bool := if kind = 1 then true else match as with
  | .ref a :: _ => (kind == 2) || (match M.1 a with
    | some (.inr (c, _)) => c == mm_ow k
    | _ => false)
  | _ => false
def mm_nn (kind k : Nat) : Nat := mm_np k + (if kind = 1 then 0 else 1)
def mm_ck (o kind idx : Nat) (st : List Value) (M : mm_M) : Option (Nat × List Value × List Value) := match mm_l2 mm_mT o idx with
  | some (k, kd, _, _) => if (kd = kind ∧ mm_nn kind k ≤ st.length) ∧ ((st.drop (mm_nn kind k)).map fun v => v.category).sum ≤ 8 ∧ (st.take (mm_nn kind k)).all (fun v => v.category == 1) = true ∧ mm_rc kind k (st.take (mm_nn kind k)).reverse M = true then some (k, (st.take (mm_nn kind k)).reverse, st.drop (mm_nn kind k)) else none
  | none => none
def mm_cl (o : Nat) (i : Instr) (st : List Value) (M : mm_M) : Option (Nat × List Value × List Value) := match i with
  | .invokevirtual k => mm_ck o 0 k st M
  | .invokestatic k => mm_ck o 1 k st M
  | .invokespecial k => mm_ck o 2 k st M
  | _ => none
/-- Object's constructor; max, min and abs of Math -/
def mm_oi (o d : Nat) (i : Instr) (st : List Value) : Option (List Value) := match i, st with
  | .invokespecial k, .ref _ :: r => if (mm_l2 mm_oT o k).isSome = true ∧ 1 ≤ d ∧ (r.map fun v => v.category).sum ≤ 8 then some r else none
  | .invokestatic k, .int y :: r => if 1 ≤ d ∧ (r.map fun v => v.category).sum ≤ 8 then (match mm_l2 mm_jT o k, r with
    | some (0, _), .int x :: r' => some (.int (if x < y then y else x) :: r')
    | some (1, _), .int x :: r' => some (.int (if y < x then y else x) :: r')
    | some (2, _), r' => some (.int (if 0 ≤ y then y else 0 - y) :: r')
    | _, _ => none) else none
  | _, _ => none
def mm_rv (i : Instr) (rt : Option FieldType) (st : List Value) : Option (Option Value) := match i, rt, st with
  | .ireturn, some .int, [.int x] => some (some (.int x))
  | .ireturn, some .boolean, [.int x] => if x = 0 ∨ x = 1 then some (some (.int x)) else none
  | .return_, none, [] => some none
  | .areturn, some (.object _), [.ref a] => some (some (.ref a))
  | _, _, _ => none
def mm_en (k : Nat) (as : List Value) : mm_L := as.map some ++ List.replicate (mm_mx k - as.length) none
/-- n steps at most, calls at most d deep: method mi from pc on -/
def mm_ex (S : mm_S) : Nat → Nat → Nat → Nat → mm_L → List Value → mm_M → Option (Option Value × mm_M)
  | 0, _, _, _, _, _, _ => none
  | n + 1, d, mi, pc, L, st, M => match mm_cd mi pc with
    | none => none
    | some i => match mm_cl (mm_ow mi) i st M with
      | some (k, as, r) => (match d with
        | 0 => none
        | d + 1 => match mm_ex S n d k 0 (mm_en k as) [] M with
          | none => none
          | some (v, M1) => mm_ex S n (d + 1) mi (pc + 3) L (v.toList ++ r) M1)
      | none => match mm_rv i (mm_rt mi) st with
        | some v => some (v, M)
        | none => match mm_oi (mm_ow mi) d i st with
          | some r => mm_ex S n d mi (pc + 3) L r M
          | none => match mm_st (mm_ow mi) (mm_in mi) S i pc L st M with
            | none => none
            | some (pc', L', st', M') => mm_ex S n d mi pc' L' st' M'
end
section
def mm_at (p : Nat) (w : Cond) : Bool := decide (lw_tbl[p]? = some w)
/-- the words that stay when the tables warm -/
def mm_tb : List Cond := lw_tbl.filter goodWord
theorem mm_at_in {p : Nat} {w : Cond} (h : mm_at p w = true) : w ∈ lw_tbl := List.mem_of_getElem? (of_decide_eq_true h)
theorem mm_tb_in {w : Cond} (h : w ∈ lw_tbl) (hg : goodWord w = true) : w ∈ mm_tb := List.mem_filter.mpr ⟨h, hg⟩
theorem mm_at_mem {p : Nat} {w : Cond} (h : mm_at p w = true) (hg : goodWord w = true) : w ∈ mm_tb := mm_tb_in (mm_at_in h) hg
theorem mm_posmem {ws : List Cond} (ps : List Nat) (h : ws = ps.filterMap (fun i => lw_tbl[i]?)) (hg : ws.all goodWord = true) : ∀ w ∈ ws, w ∈ mm_tb := by
  intro w hw
  have h2 := List.all_eq_true.mp hg w hw
  rw [h] at hw
  obtain ⟨i, -, hi⟩ := List.mem_filterMap.mp hw
  exact mm_tb_in (List.mem_of_getElem? hi) h2
theorem mm_good : GoodIn mm_tb mm_tb := fun w hw => ⟨hw, good_of_word (List.mem_filter.mp hw).2⟩
def mm_fok (x : (Nat × Nat) × Nat × Nat × Nat) : Bool := mm_at x.2.2.2 (.fieldLink (mm_cn x.1.1) x.1.2 (mm_cn x.2.1) (mm_T x.2.1 x.2.2.1).2.1 (mm_T x.2.1 x.2.2.1).2.2.1) && decide (x.2.2.1 < mm_N x.2.1 ∧ x.2.1 < 13 ∧ (mm_T x.2.1 x.2.2.1).1 = mm_cn x.2.1)
theorem mm_fok_all : mm_fT.all mm_fok = true := by decide +kernel
def mm_nok (x : (Nat × Nat) × Nat × Nat) : Bool := mm_at x.2.2 (.classLink (mm_cn x.1.1) x.1.2 (mm_cn x.2.1)) && decide (x.2.1 < 13)
theorem mm_nok_all : mm_nT.all mm_nok = true := by decide +kernel
def mm_aok (x : (Nat × Nat) × Nat × Nat × Nat) : Bool := match mm_tc x.2.1 with
  | some c => mm_at x.2.2.1 (.classLink (mm_cn x.1.1) x.1.2 (mm_cn c)) && mm_at x.2.2.2 (.arrayOver (.object (mm_cn c)))
  | none => false
theorem mm_aok_all : mm_aT.all mm_aok = true := by decide +kernel
def mm_cok (x : (Nat × Nat) × Int32 × Nat) : Bool := mm_at x.2.2 (.constant (mm_cn x.1.1) x.1.2 x.2.1)
theorem mm_cok_all : mm_cT.all mm_cok = true := by decide +kernel
def mm_ook (x : (Nat × Nat) × Nat) : Bool := mm_at x.2 (.methodLink (mm_cn x.1.1) x.1.2 Lib.objectInit)
theorem mm_ook_all : mm_oT.all mm_ook = true := by decide +kernel
theorem mm_oi1 : (.instanceMethod Lib.objectInit : Cond) ∈ mm_tb := mm_at_mem (p := 85) (by decide +kernel) rfl
theorem mm_oi2 : (.code Lib.objectInit ⟨#[0xb1]⟩ 1 none : Cond) ∈ mm_tb := mm_tb_in (List.mem_of_getElem? (i := 86) (by decide +kernel)) rfl
theorem mm_ac0 : (.arrayClass .int : Cond) ∈ mm_tb := mm_at_mem (p := 98) (by decide +kernel) rfl
theorem mm_ac1 : (.arrayClass .boolean : Cond) ∈ mm_tb := mm_at_mem (p := 1081) (by decide +kernel) rfl
/-- a method, and a call of it -/
def mm_kok (k : Nat) : Bool := mm_at (mm_po k).2.2.2 (.initialized (mm_cn (mm_ow k))) && decide ((mm_y k).cls = mm_cn (mm_ow k) ∧ (mm_y k).cls ≠ "java/lang/invoke/MethodHandle" ∧ (mm_y k).cls ≠ "java/lang/invoke/VarHandle" ∧ (parseMethodDescriptor (mm_y k).desc).map (fun d => d.parameters.length) = some (mm_np k) ∧ mm_mx k ≤ 30 ∧ (mm_in k = true → (mm_y k).name = "<init>"))
theorem mm_kok_all : (List.range 205).all mm_kok = true := by decide +kernel
def mm_mok (x : (Nat × Nat) × Nat × Nat × Nat × Nat) : Bool :=
  (if x.2.2.2.1 = 0 then mm_at x.2.2.2.2 (.methodLink (mm_cn x.1.1) x.1.2 (mm_y x.2.1)) else mm_at x.2.2.2.2 (.methodLinkNest (mm_cn x.1.1) x.1.2 (mm_y x.2.1) "MaskDesk")) &&
  decide (1 ≤ x.2.1 ∧ x.2.1 < 205 ∧ mm_nn x.2.2.1 x.2.1 ≤ mm_mx x.2.1 ∧ plainName (mm_y x.2.1).cls = true) &&
  (if x.2.2.1 = 1 then mm_at (mm_po x.2.1).2.1 (.static (mm_y x.2.1)) else mm_at (mm_po x.2.1).2.1 (.instanceMethod (mm_y x.2.1)) && (if x.2.2.1 = 0 then mm_at (mm_po x.2.1).2.2.1 (.selects (mm_cn (mm_ow x.2.1)) (mm_y x.2.1) (mm_y x.2.1)) && decide (mm_ow x.2.1 < 13) else decide (x.2.2.1 = 2 ∧ (mm_y x.2.1).name = "<init>" ∧ mm_rt x.2.1 = none)))
theorem mm_mok_all : mm_mT.all mm_mok = true := by decide +kernel
def mm_cP (k : Nat) : Prop := 1 ≤ k → (.code (mm_y k) (mm_by k) (mm_mx k) (mm_rt k) : Cond) ∈ mm_tb
def mm_jok (x : (Nat × Nat) × Nat × Nat) : Bool := (match x.2.1 with
  | 0 => mm_at x.2.2 (.methodLink (mm_cn x.1.1) x.1.2 Lib.Math.max.name)
  | 1 => mm_at x.2.2 (.methodLink (mm_cn x.1.1) x.1.2 Lib.Math.min.name)
  | _ => mm_at x.2.2 (.methodLink (mm_cn x.1.1) x.1.2 Lib.Math.abs.name))
theorem mm_jok_all : mm_jT.all mm_jok = true := by decide +kernel
theorem mm_ji : (.initialized "java/lang/Math" : Cond) ∈ mm_tb := mm_at_mem (p := 77) (by decide +kernel) rfl
theorem mm_js0 : (.static Lib.Math.max.name : Cond) ∈ mm_tb := mm_at_mem (p := 406) (by decide +kernel) rfl
theorem mm_js1 : (.static Lib.Math.min.name : Cond) ∈ mm_tb := mm_at_mem (p := 409) (by decide +kernel) rfl
theorem mm_js2 : (.static Lib.Math.abs.name : Cond) ∈ mm_tb := mm_at_mem (p := 559) (by decide +kernel) rfl
theorem mm_jc0 : (.code Lib.Math.max.name Lib.Math.max.code 2 (some .int) : Cond) ∈ mm_tb := mm_tb_in (List.mem_of_getElem? (i := 407) (by decide +kernel)) rfl
theorem mm_jc1 : (.code Lib.Math.min.name Lib.Math.min.code 2 (some .int) : Cond) ∈ mm_tb := mm_tb_in (List.mem_of_getElem? (i := 410) (by decide +kernel)) rfl
theorem mm_jc2 : (.code Lib.Math.abs.name Lib.Math.abs.code 1 (some .int) : Cond) ∈ mm_tb := mm_tb_in (List.mem_of_getElem? (i := 560) (by decide +kernel)) rfl
theorem cv_0 : mm_cP 0 := fun h => absurd h (by decide)
set_option maxRecDepth 100000 in
theorem cv_1 : mm_cP 1 := fun _ => mm_tb_in (List.mem_of_getElem? (i := 92) rfl) rfl
set_option maxRecDepth 100000 in
theorem cv_2 : mm_cP 2 := fun _ => mm_tb_in (List.mem_of_getElem? (i := 414) rfl) rfl
set_option maxRecDepth 100000 in
theorem cv_3 : mm_cP 3 := fun _ => mm_tb_in (List.mem_of_getElem? (i := 661) rfl) rfl
set_option maxRecDepth 100000 in
theorem cv_4 : mm_cP 4 := fun _ => mm_tb_in (List.mem_of_getElem? (i := 577) rfl) rfl
set_option maxRecDepth 100000 in
theorem cv_5 : mm_cP 5 := fun _ => mm_tb_in (List.mem_of_getElem? (i := 588) rfl) rfl
set_option maxRecDepth 100000 in
theorem cv_6 : mm_cP 6 := fun _ => mm_tb_in (List.mem_of_getElem? (i := 419) rfl) rfl
set_option maxRecDepth 100000 in
theorem cv_7 : mm_cP 7 := fun _ => mm_tb_in (List.mem_of_getElem? (i := 404) rfl) rfl
set_option maxRecDepth 100000 in
theorem cv_8 : mm_cP 8 := fun _ => mm_tb_in (List.mem_of_getElem? (i := 450) rfl) rfl
set_option maxRecDepth 100000 in
theorem cv_9 : mm_cP 9 := fun _ => mm_tb_in (List.mem_of_getElem? (i := 626) rfl) rfl
set_option maxRecDepth 100000 in
theorem cv_10 : mm_cP 10 := fun _ => mm_tb_in (List.mem_of_getElem? (i := 424) rfl) rfl
set_option maxRecDepth 100000 in
theorem cv_11 : mm_cP 11 := fun _ => mm_tb_in (List.mem_of_getElem? (i := 618) rfl) rfl
set_option maxRecDepth 100000 in
theorem cv_12 : mm_cP 12 := fun _ => mm_tb_in (List.mem_of_getElem? (i := 364) rfl) rfl
set_option maxRecDepth 100000 in
theorem cv_13 : mm_cP 13 := fun _ => mm_tb_in (List.mem_of_getElem? (i := 793) rfl) rfl
set_option maxRecDepth 100000 in
theorem cv_14 : mm_cP 14 := fun _ => mm_tb_in (List.mem_of_getElem? (i := 436) rfl) rfl
set_option maxRecDepth 100000 in
theorem cv_15 : mm_cP 15 := fun _ => mm_tb_in (List.mem_of_getElem? (i := 439) rfl) rfl
set_option maxRecDepth 100000 in
theorem cv_16 : mm_cP 16 := fun _ => mm_tb_in (List.mem_of_getElem? (i := 454) rfl) rfl
set_option maxRecDepth 100000 in
theorem cv_17 : mm_cP 17 := fun _ => mm_tb_in (List.mem_of_getElem? (i := 459) rfl) rfl
set_option maxRecDepth 100000 in
theorem cv_18 : mm_cP 18 := fun _ => mm_tb_in (List.mem_of_getElem? (i := 170) rfl) rfl
set_option maxRecDepth 100000 in
theorem cv_19 : mm_cP 19 := fun _ => mm_tb_in (List.mem_of_getElem? (i := 631) rfl) rfl
set_option maxRecDepth 100000 in
theorem cv_20 : mm_cP 20 := fun _ => mm_tb_in (List.mem_of_getElem? (i := 670) rfl) rfl
set_option maxRecDepth 100000 in
theorem cv_21 : mm_cP 21 := fun _ => mm_tb_in (List.mem_of_getElem? (i := 705) rfl) rfl
set_option maxRecDepth 100000 in
theorem cv_22 : mm_cP 22 := fun _ => mm_tb_in (List.mem_of_getElem? (i := 665) rfl) rfl
set_option maxRecDepth 100000 in
theorem cv_23 : mm_cP 23 := fun _ => mm_tb_in (List.mem_of_getElem? (i := 734) rfl) rfl
set_option maxRecDepth 100000 in
theorem cv_24 : mm_cP 24 := fun _ => mm_tb_in (List.mem_of_getElem? (i := 739) rfl) rfl
set_option maxRecDepth 100000 in
theorem cv_25 : mm_cP 25 := fun _ => mm_tb_in (List.mem_of_getElem? (i := 759) rfl) rfl
set_option maxRecDepth 100000 in
theorem cv_26 : mm_cP 26 := fun _ => mm_tb_in (List.mem_of_getElem? (i := 747) rfl) rfl
set_option maxRecDepth 100000 in
theorem cv_27 : mm_cP 27 := fun _ => mm_tb_in (List.mem_of_getElem? (i := 751) rfl) rfl
set_option maxRecDepth 100000 in
theorem cv_28 : mm_cP 28 := fun _ => mm_tb_in (List.mem_of_getElem? (i := 755) rfl) rfl
set_option maxRecDepth 100000 in
theorem cv_29 : mm_cP 29 := fun _ => mm_tb_in (List.mem_of_getElem? (i := 635) rfl) rfl
set_option maxRecDepth 100000 in
theorem cv_30 : mm_cP 30 := fun _ => mm_tb_in (List.mem_of_getElem? (i := 640) rfl) rfl
set_option maxRecDepth 100000 in
theorem cv_31 : mm_cP 31 := fun _ => mm_tb_in (List.mem_of_getElem? (i := 657) rfl) rfl
set_option maxRecDepth 100000 in
theorem cv_32 : mm_cP 32 := fun _ => mm_tb_in (List.mem_of_getElem? (i := 644) rfl) rfl
set_option maxRecDepth 100000 in
theorem cv_33 : mm_cP 33 := fun _ => mm_tb_in (List.mem_of_getElem? (i := 653) rfl) rfl
set_option maxRecDepth 100000 in
theorem cv_34 : mm_cP 34 := fun _ => mm_tb_in (List.mem_of_getElem? (i := 709) rfl) rfl
set_option maxRecDepth 100000 in
theorem cv_35 : mm_cP 35 := fun _ => mm_tb_in (List.mem_of_getElem? (i := 714) rfl) rfl
set_option maxRecDepth 100000 in
theorem cv_36 : mm_cP 36 := fun _ => mm_tb_in (List.mem_of_getElem? (i := 718) rfl) rfl
set_option maxRecDepth 100000 in
theorem cv_37 : mm_cP 37 := fun _ => mm_tb_in (List.mem_of_getElem? (i := 722) rfl) rfl
set_option maxRecDepth 100000 in
theorem cv_38 : mm_cP 38 := fun _ => mm_tb_in (List.mem_of_getElem? (i := 726) rfl) rfl
set_option maxRecDepth 100000 in
theorem cv_39 : mm_cP 39 := fun _ => mm_tb_in (List.mem_of_getElem? (i := 207) rfl) rfl
set_option maxRecDepth 100000 in
theorem cv_40 : mm_cP 40 := fun _ => mm_tb_in (List.mem_of_getElem? (i := 730) rfl) rfl
set_option maxRecDepth 100000 in
theorem cv_41 : mm_cP 41 := fun _ => mm_tb_in (List.mem_of_getElem? (i := 743) rfl) rfl
set_option maxRecDepth 100000 in
theorem cv_42 : mm_cP 42 := fun _ => mm_tb_in (List.mem_of_getElem? (i := 763) rfl) rfl
set_option maxRecDepth 100000 in
theorem cv_43 : mm_cP 43 := fun _ => mm_tb_in (List.mem_of_getElem? (i := 768) rfl) rfl
set_option maxRecDepth 100000 in
theorem cv_44 : mm_cP 44 := fun _ => mm_tb_in (List.mem_of_getElem? (i := 774) rfl) rfl
set_option maxRecDepth 100000 in
theorem cv_45 : mm_cP 45 := fun _ => mm_tb_in (List.mem_of_getElem? (i := 778) rfl) rfl
set_option maxRecDepth 100000 in
theorem cv_46 : mm_cP 46 := fun _ => mm_tb_in (List.mem_of_getElem? (i := 785) rfl) rfl
set_option maxRecDepth 100000 in
theorem cv_47 : mm_cP 47 := fun _ => mm_tb_in (List.mem_of_getElem? (i := 789) rfl) rfl
set_option maxRecDepth 100000 in
theorem cv_48 : mm_cP 48 := fun _ => mm_tb_in (List.mem_of_getElem? (i := 231) rfl) rfl
set_option maxRecDepth 100000 in
theorem cv_49 : mm_cP 49 := fun _ => mm_tb_in (List.mem_of_getElem? (i := 682) rfl) rfl
set_option maxRecDepth 100000 in
theorem cv_50 : mm_cP 50 := fun _ => mm_tb_in (List.mem_of_getElem? (i := 697) rfl) rfl
set_option maxRecDepth 100000 in
theorem cv_51 : mm_cP 51 := fun _ => mm_tb_in (List.mem_of_getElem? (i := 692) rfl) rfl
set_option maxRecDepth 100000 in
theorem cv_52 : mm_cP 52 := fun _ => mm_tb_in (List.mem_of_getElem? (i := 802) rfl) rfl
set_option maxRecDepth 100000 in
theorem cv_53 : mm_cP 53 := fun _ => mm_tb_in (List.mem_of_getElem? (i := 119) rfl) rfl
set_option maxRecDepth 100000 in
theorem cv_54 : mm_cP 54 := fun _ => mm_tb_in (List.mem_of_getElem? (i := 470) rfl) rfl
set_option maxRecDepth 100000 in
theorem cv_55 : mm_cP 55 := fun _ => mm_tb_in (List.mem_of_getElem? (i := 482) rfl) rfl
set_option maxRecDepth 100000 in
theorem cv_56 : mm_cP 56 := fun _ => mm_tb_in (List.mem_of_getElem? (i := 490) rfl) rfl
set_option maxRecDepth 100000 in
theorem cv_57 : mm_cP 57 := fun _ => mm_tb_in (List.mem_of_getElem? (i := 498) rfl) rfl
set_option maxRecDepth 100000 in
theorem cv_58 : mm_cP 58 := fun _ => mm_tb_in (List.mem_of_getElem? (i := 510) rfl) rfl
set_option maxRecDepth 100000 in
theorem cv_59 : mm_cP 59 := fun _ => mm_tb_in (List.mem_of_getElem? (i := 522) rfl) rfl
set_option maxRecDepth 100000 in
theorem cv_60 : mm_cP 60 := fun _ => mm_tb_in (List.mem_of_getElem? (i := 539) rfl) rfl
set_option maxRecDepth 100000 in
theorem cv_61 : mm_cP 61 := fun _ => mm_tb_in (List.mem_of_getElem? (i := 544) rfl) rfl
set_option maxRecDepth 100000 in
theorem cv_62 : mm_cP 62 := fun _ => mm_tb_in (List.mem_of_getElem? (i := 566) rfl) rfl
set_option maxRecDepth 100000 in
theorem cv_63 : mm_cP 63 := fun _ => mm_tb_in (List.mem_of_getElem? (i := 547) rfl) rfl
set_option maxRecDepth 100000 in
theorem cv_64 : mm_cP 64 := fun _ => mm_tb_in (List.mem_of_getElem? (i := 554) rfl) rfl
set_option maxRecDepth 100000 in
theorem cv_65 : mm_cP 65 := fun _ => mm_tb_in (List.mem_of_getElem? (i := 557) rfl) rfl
set_option maxRecDepth 100000 in
theorem cv_66 : mm_cP 66 := fun _ => mm_tb_in (List.mem_of_getElem? (i := 569) rfl) rfl
set_option maxRecDepth 100000 in
theorem cv_67 : mm_cP 67 := fun _ => mm_tb_in (List.mem_of_getElem? (i := 103) rfl) rfl
set_option maxRecDepth 100000 in
theorem cv_68 : mm_cP 68 := fun _ => mm_tb_in (List.mem_of_getElem? (i := 376) rfl) rfl
set_option maxRecDepth 100000 in
theorem cv_69 : mm_cP 69 := fun _ => mm_tb_in (List.mem_of_getElem? (i := 428) rfl) rfl
set_option maxRecDepth 100000 in
theorem cv_70 : mm_cP 70 := fun _ => mm_tb_in (List.mem_of_getElem? (i := 384) rfl) rfl
set_option maxRecDepth 100000 in
theorem cv_71 : mm_cP 71 := fun _ => mm_tb_in (List.mem_of_getElem? (i := 400) rfl) rfl
set_option maxRecDepth 100000 in
theorem cv_72 : mm_cP 72 := fun _ => mm_tb_in (List.mem_of_getElem? (i := 388) rfl) rfl
set_option maxRecDepth 100000 in
theorem cv_73 : mm_cP 73 := fun _ => mm_tb_in (List.mem_of_getElem? (i := 392) rfl) rfl
set_option maxRecDepth 100000 in
theorem cv_74 : mm_cP 74 := fun _ => mm_tb_in (List.mem_of_getElem? (i := 396) rfl) rfl
set_option maxRecDepth 100000 in
theorem cv_75 : mm_cP 75 := fun _ => mm_tb_in (List.mem_of_getElem? (i := 126) rfl) rfl
set_option maxRecDepth 100000 in
theorem cv_76 : mm_cP 76 := fun _ => mm_tb_in (List.mem_of_getElem? (i := 514) rfl) rfl
set_option maxRecDepth 100000 in
theorem cv_77 : mm_cP 77 := fun _ => mm_tb_in (List.mem_of_getElem? (i := 526) rfl) rfl
set_option maxRecDepth 100000 in
theorem cv_78 : mm_cP 78 := fun _ => mm_tb_in (List.mem_of_getElem? (i := 530) rfl) rfl
set_option maxRecDepth 100000 in
theorem cv_79 : mm_cP 79 := fun _ => mm_tb_in (List.mem_of_getElem? (i := 474) rfl) rfl
set_option maxRecDepth 100000 in
theorem cv_80 : mm_cP 80 := fun _ => mm_tb_in (List.mem_of_getElem? (i := 502) rfl) rfl
set_option maxRecDepth 100000 in
theorem cv_81 : mm_cP 81 := fun _ => mm_tb_in (List.mem_of_getElem? (i := 551) rfl) rfl
set_option maxRecDepth 100000 in
theorem cv_82 : mm_cP 82 := fun _ => mm_tb_in (List.mem_of_getElem? (i := 534) rfl) rfl
set_option maxRecDepth 100000 in
theorem cv_83 : mm_cP 83 := fun _ => mm_tb_in (List.mem_of_getElem? (i := 155) rfl) rfl
set_option maxRecDepth 100000 in
theorem cv_84 : mm_cP 84 := fun _ => mm_tb_in (List.mem_of_getElem? (i := 598) rfl) rfl
set_option maxRecDepth 100000 in
theorem cv_85 : mm_cP 85 := fun _ => mm_tb_in (List.mem_of_getElem? (i := 622) rfl) rfl
set_option maxRecDepth 100000 in
theorem cv_86 : mm_cP 86 := fun _ => mm_tb_in (List.mem_of_getElem? (i := 603) rfl) rfl
set_option maxRecDepth 100000 in
theorem cv_87 : mm_cP 87 := fun _ => mm_tb_in (List.mem_of_getElem? (i := 610) rfl) rfl
set_option maxRecDepth 100000 in
theorem cv_88 : mm_cP 88 := fun _ => mm_tb_in (List.mem_of_getElem? (i := 614) rfl) rfl
set_option maxRecDepth 100000 in
theorem cv_89 : mm_cP 89 := fun _ => mm_tb_in (List.mem_of_getElem? (i := 678) rfl) rfl
set_option maxRecDepth 100000 in
theorem cv_90 : mm_cP 90 := fun _ => mm_tb_in (List.mem_of_getElem? (i := 685) rfl) rfl
set_option maxRecDepth 100000 in
theorem cv_91 : mm_cP 91 := fun _ => mm_tb_in (List.mem_of_getElem? (i := 244) rfl) rfl
set_option maxRecDepth 100000 in
theorem cv_92 : mm_cP 92 := fun _ => mm_tb_in (List.mem_of_getElem? (i := 814) rfl) rfl
set_option maxRecDepth 100000 in
theorem cv_93 : mm_cP 93 := fun _ => mm_tb_in (List.mem_of_getElem? (i := 866) rfl) rfl
set_option maxRecDepth 100000 in
theorem cv_94 : mm_cP 94 := fun _ => mm_tb_in (List.mem_of_getElem? (i := 879) rfl) rfl
set_option maxRecDepth 100000 in
theorem cv_95 : mm_cP 95 := fun _ => mm_tb_in (List.mem_of_getElem? (i := 883) rfl) rfl
set_option maxRecDepth 100000 in
theorem cv_96 : mm_cP 96 := fun _ => mm_tb_in (List.mem_of_getElem? (i := 838) rfl) rfl
set_option maxRecDepth 100000 in
theorem cv_97 : mm_cP 97 := fun _ => mm_tb_in (List.mem_of_getElem? (i := 862) rfl) rfl
set_option maxRecDepth 100000 in
theorem cv_98 : mm_cP 98 := fun _ => mm_tb_in (List.mem_of_getElem? (i := 281) rfl) rfl
set_option maxRecDepth 100000 in
theorem cv_99 : mm_cP 99 := fun _ => mm_tb_in (List.mem_of_getElem? (i := 892) rfl) rfl
set_option maxRecDepth 100000 in
theorem cv_100 : mm_cP 100 := fun _ => mm_tb_in (List.mem_of_getElem? (i := 899) rfl) rfl
set_option maxRecDepth 100000 in
theorem cv_101 : mm_cP 101 := fun _ => mm_tb_in (List.mem_of_getElem? (i := 903) rfl) rfl
set_option maxRecDepth 100000 in
theorem cv_102 : mm_cP 102 := fun _ => mm_tb_in (List.mem_of_getElem? (i := 907) rfl) rfl
set_option maxRecDepth 100000 in
theorem cv_103 : mm_cP 103 := fun _ => mm_tb_in (List.mem_of_getElem? (i := 915) rfl) rfl
set_option maxRecDepth 100000 in
theorem cv_104 : mm_cP 104 := fun _ => mm_tb_in (List.mem_of_getElem? (i := 919) rfl) rfl
set_option maxRecDepth 100000 in
theorem cv_105 : mm_cP 105 := fun _ => mm_tb_in (List.mem_of_getElem? (i := 911) rfl) rfl
set_option maxRecDepth 100000 in
theorem cv_106 : mm_cP 106 := fun _ => mm_tb_in (List.mem_of_getElem? (i := 257) rfl) rfl
set_option maxRecDepth 100000 in
theorem cv_107 : mm_cP 107 := fun _ => mm_tb_in (List.mem_of_getElem? (i := 858) rfl) rfl
set_option maxRecDepth 100000 in
theorem cv_108 : mm_cP 108 := fun _ => mm_tb_in (List.mem_of_getElem? (i := 810) rfl) rfl
set_option maxRecDepth 100000 in
theorem cv_109 : mm_cP 109 := fun _ => mm_tb_in (List.mem_of_getElem? (i := 821) rfl) rfl
set_option maxRecDepth 100000 in
theorem cv_110 : mm_cP 110 := fun _ => mm_tb_in (List.mem_of_getElem? (i := 817) rfl) rfl
set_option maxRecDepth 100000 in
theorem cv_111 : mm_cP 111 := fun _ => mm_tb_in (List.mem_of_getElem? (i := 826) rfl) rfl
set_option maxRecDepth 100000 in
theorem cv_112 : mm_cP 112 := fun _ => mm_tb_in (List.mem_of_getElem? (i := 830) rfl) rfl
set_option maxRecDepth 100000 in
theorem cv_113 : mm_cP 113 := fun _ => mm_tb_in (List.mem_of_getElem? (i := 842) rfl) rfl
set_option maxRecDepth 100000 in
theorem cv_114 : mm_cP 114 := fun _ => mm_tb_in (List.mem_of_getElem? (i := 846) rfl) rfl
set_option maxRecDepth 100000 in
theorem cv_115 : mm_cP 115 := fun _ => mm_tb_in (List.mem_of_getElem? (i := 850) rfl) rfl
set_option maxRecDepth 100000 in
theorem cv_116 : mm_cP 116 := fun _ => mm_tb_in (List.mem_of_getElem? (i := 854) rfl) rfl
set_option maxRecDepth 100000 in
theorem cv_117 : mm_cP 117 := fun _ => mm_tb_in (List.mem_of_getElem? (i := 834) rfl) rfl
set_option maxRecDepth 100000 in
theorem cv_118 : mm_cP 118 := fun _ => mm_tb_in (List.mem_of_getElem? (i := 83) rfl) rfl
set_option maxRecDepth 100000 in
theorem cv_119 : mm_cP 119 := fun _ => mm_tb_in (List.mem_of_getElem? (i := 354) rfl) rfl
set_option maxRecDepth 100000 in
theorem cv_120 : mm_cP 120 := fun _ => mm_tb_in (List.mem_of_getElem? (i := 372) rfl) rfl
set_option maxRecDepth 100000 in
theorem cv_121 : mm_cP 121 := fun _ => mm_tb_in (List.mem_of_getElem? (i := 380) rfl) rfl
set_option maxRecDepth 100000 in
theorem cv_122 : mm_cP 122 := fun _ => mm_tb_in (List.mem_of_getElem? (i := 432) rfl) rfl
set_option maxRecDepth 100000 in
theorem cv_123 : mm_cP 123 := fun _ => mm_tb_in (List.mem_of_getElem? (i := 443) rfl) rfl
set_option maxRecDepth 100000 in
theorem cv_124 : mm_cP 124 := fun _ => mm_tb_in (List.mem_of_getElem? (i := 463) rfl) rfl
set_option maxRecDepth 100000 in
theorem cv_125 : mm_cP 125 := fun _ => mm_tb_in (List.mem_of_getElem? (i := 478) rfl) rfl
set_option maxRecDepth 100000 in
theorem cv_126 : mm_cP 126 := fun _ => mm_tb_in (List.mem_of_getElem? (i := 486) rfl) rfl
set_option maxRecDepth 100000 in
theorem cv_127 : mm_cP 127 := fun _ => mm_tb_in (List.mem_of_getElem? (i := 494) rfl) rfl
set_option maxRecDepth 100000 in
theorem cv_128 : mm_cP 128 := fun _ => mm_tb_in (List.mem_of_getElem? (i := 506) rfl) rfl
set_option maxRecDepth 100000 in
theorem cv_129 : mm_cP 129 := fun _ => mm_tb_in (List.mem_of_getElem? (i := 518) rfl) rfl
set_option maxRecDepth 100000 in
theorem cv_130 : mm_cP 130 := fun _ => mm_tb_in (List.mem_of_getElem? (i := 573) rfl) rfl
set_option maxRecDepth 100000 in
theorem cv_131 : mm_cP 131 := fun _ => mm_tb_in (List.mem_of_getElem? (i := 584) rfl) rfl
set_option maxRecDepth 100000 in
theorem cv_132 : mm_cP 132 := fun _ => mm_tb_in (List.mem_of_getElem? (i := 674) rfl) rfl
set_option maxRecDepth 100000 in
theorem cv_133 : mm_cP 133 := fun _ => mm_tb_in (List.mem_of_getElem? (i := 701) rfl) rfl
set_option maxRecDepth 100000 in
theorem cv_134 : mm_cP 134 := fun _ => mm_tb_in (List.mem_of_getElem? (i := 798) rfl) rfl
set_option maxRecDepth 100000 in
theorem cv_135 : mm_cP 135 := fun _ => mm_tb_in (List.mem_of_getElem? (i := 806) rfl) rfl
set_option maxRecDepth 100000 in
theorem cv_136 : mm_cP 136 := fun _ => mm_tb_in (List.mem_of_getElem? (i := 870) rfl) rfl
set_option maxRecDepth 100000 in
theorem cv_137 : mm_cP 137 := fun _ => mm_tb_in (List.mem_of_getElem? (i := 875) rfl) rfl
set_option maxRecDepth 100000 in
theorem cv_138 : mm_cP 138 := fun _ => mm_tb_in (List.mem_of_getElem? (i := 888) rfl) rfl
set_option maxRecDepth 100000 in
theorem cv_139 : mm_cP 139 := fun _ => mm_tb_in (List.mem_of_getElem? (i := 357) rfl) rfl
set_option maxRecDepth 100000 in
theorem cv_140 : mm_cP 140 := fun _ => mm_tb_in (List.mem_of_getElem? (i := 466) rfl) rfl
set_option maxRecDepth 100000 in
theorem cv_141 : mm_cP 141 := fun _ => mm_tb_in (List.mem_of_getElem? (i := 446) rfl) rfl
set_option maxRecDepth 100000 in
theorem cv_142 : mm_cP 142 := fun _ => mm_tb_in (List.mem_of_getElem? (i := 580) rfl) rfl
set_option maxRecDepth 100000 in
theorem cv_143 : mm_cP 143 := fun _ => mm_tb_in (List.mem_of_getElem? (i := 360) rfl) rfl
set_option maxRecDepth 100000 in
theorem cv_144 : mm_cP 144 := fun _ => mm_tb_in (List.mem_of_getElem? (i := 648) rfl) rfl
set_option maxRecDepth 100000 in
theorem cv_145 : mm_cP 145 := fun _ => mm_tb_in (List.mem_of_getElem? (i := 368) rfl) rfl
set_option maxRecDepth 100000 in
theorem cv_146 : mm_cP 146 := fun _ => mm_tb_in (List.mem_of_getElem? (i := 925) rfl) rfl
set_option maxRecDepth 100000 in
theorem cv_147 : mm_cP 147 := fun _ => mm_tb_in (List.mem_of_getElem? (i := 1091) rfl) rfl
set_option maxRecDepth 100000 in
theorem cv_148 : mm_cP 148 := fun _ => mm_tb_in (List.mem_of_getElem? (i := 1088) rfl) rfl
set_option maxRecDepth 100000 in
theorem cv_149 : mm_cP 149 := fun _ => mm_tb_in (List.mem_of_getElem? (i := 1126) rfl) rfl
set_option maxRecDepth 100000 in
theorem cv_150 : mm_cP 150 := fun _ => mm_tb_in (List.mem_of_getElem? (i := 1098) rfl) rfl
set_option maxRecDepth 100000 in
theorem cv_151 : mm_cP 151 := fun _ => mm_tb_in (List.mem_of_getElem? (i := 1094) rfl) rfl
set_option maxRecDepth 100000 in
theorem cv_152 : mm_cP 152 := fun _ => mm_tb_in (List.mem_of_getElem? (i := 1085) rfl) rfl
set_option maxRecDepth 100000 in
theorem cv_153 : mm_cP 153 := fun _ => mm_tb_in (List.mem_of_getElem? (i := 1102) rfl) rfl
set_option maxRecDepth 100000 in
theorem cv_154 : mm_cP 154 := fun _ => mm_tb_in (List.mem_of_getElem? (i := 1110) rfl) rfl
set_option maxRecDepth 100000 in
theorem cv_155 : mm_cP 155 := fun _ => mm_tb_in (List.mem_of_getElem? (i := 1114) rfl) rfl
set_option maxRecDepth 100000 in
theorem cv_156 : mm_cP 156 := fun _ => mm_tb_in (List.mem_of_getElem? (i := 1106) rfl) rfl
set_option maxRecDepth 100000 in
theorem cv_157 : mm_cP 157 := fun _ => mm_tb_in (List.mem_of_getElem? (i := 1118) rfl) rfl
set_option maxRecDepth 100000 in
theorem cv_158 : mm_cP 158 := fun _ => mm_tb_in (List.mem_of_getElem? (i := 1122) rfl) rfl
set_option maxRecDepth 100000 in
theorem cv_159 : mm_cP 159 := fun _ => mm_tb_in (List.mem_of_getElem? (i := 1133) rfl) rfl
set_option maxRecDepth 100000 in
theorem cv_160 : mm_cP 160 := fun _ => mm_tb_in (List.mem_of_getElem? (i := 1130) rfl) rfl
set_option maxRecDepth 100000 in
theorem cv_161 : mm_cP 161 := fun _ => mm_tb_in (List.mem_of_getElem? (i := 1137) rfl) rfl
set_option maxRecDepth 100000 in
theorem cv_162 : mm_cP 162 := fun _ => mm_tb_in (List.mem_of_getElem? (i := 1141) rfl) rfl
set_option maxRecDepth 100000 in
theorem cv_163 : mm_cP 163 := fun _ => mm_tb_in (List.mem_of_getElem? (i := 1145) rfl) rfl
set_option maxRecDepth 100000 in
theorem cv_164 : mm_cP 164 := fun _ => mm_tb_in (List.mem_of_getElem? (i := 1149) rfl) rfl
set_option maxRecDepth 100000 in
theorem cv_165 : mm_cP 165 := fun _ => mm_tb_in (List.mem_of_getElem? (i := 1157) rfl) rfl
set_option maxRecDepth 100000 in
theorem cv_166 : mm_cP 166 := fun _ => mm_tb_in (List.mem_of_getElem? (i := 1165) rfl) rfl
set_option maxRecDepth 100000 in
theorem cv_167 : mm_cP 167 := fun _ => mm_tb_in (List.mem_of_getElem? (i := 1161) rfl) rfl
set_option maxRecDepth 100000 in
theorem cv_168 : mm_cP 168 := fun _ => mm_tb_in (List.mem_of_getElem? (i := 1153) rfl) rfl
set_option maxRecDepth 100000 in
theorem cv_169 : mm_cP 169 := fun _ => mm_tb_in (List.mem_of_getElem? (i := 1169) rfl) rfl
set_option maxRecDepth 100000 in
theorem cv_170 : mm_cP 170 := fun _ => mm_tb_in (List.mem_of_getElem? (i := 1184) rfl) rfl
set_option maxRecDepth 100000 in
theorem cv_171 : mm_cP 171 := fun _ => mm_tb_in (List.mem_of_getElem? (i := 1180) rfl) rfl
set_option maxRecDepth 100000 in
theorem cv_172 : mm_cP 172 := fun _ => mm_tb_in (List.mem_of_getElem? (i := 1176) rfl) rfl
set_option maxRecDepth 100000 in
theorem cv_173 : mm_cP 173 := fun _ => mm_tb_in (List.mem_of_getElem? (i := 1192) rfl) rfl
set_option maxRecDepth 100000 in
theorem cv_174 : mm_cP 174 := fun _ => mm_tb_in (List.mem_of_getElem? (i := 1200) rfl) rfl
set_option maxRecDepth 100000 in
theorem cv_175 : mm_cP 175 := fun _ => mm_tb_in (List.mem_of_getElem? (i := 1188) rfl) rfl
set_option maxRecDepth 100000 in
theorem cv_176 : mm_cP 176 := fun _ => mm_tb_in (List.mem_of_getElem? (i := 1196) rfl) rfl
set_option maxRecDepth 100000 in
theorem cv_177 : mm_cP 177 := fun _ => mm_tb_in (List.mem_of_getElem? (i := 1173) rfl) rfl
set_option maxRecDepth 100000 in
theorem cv_178 : mm_cP 178 := fun _ => mm_tb_in (List.mem_of_getElem? (i := 1208) rfl) rfl
set_option maxRecDepth 100000 in
theorem cv_179 : mm_cP 179 := fun _ => mm_tb_in (List.mem_of_getElem? (i := 1204) rfl) rfl
set_option maxRecDepth 100000 in
theorem cv_180 : mm_cP 180 := fun _ => mm_tb_in (List.mem_of_getElem? (i := 1228) rfl) rfl
set_option maxRecDepth 100000 in
theorem cv_181 : mm_cP 181 := fun _ => mm_tb_in (List.mem_of_getElem? (i := 1216) rfl) rfl
set_option maxRecDepth 100000 in
theorem cv_182 : mm_cP 182 := fun _ => mm_tb_in (List.mem_of_getElem? (i := 1224) rfl) rfl
set_option maxRecDepth 100000 in
theorem cv_183 : mm_cP 183 := fun _ => mm_tb_in (List.mem_of_getElem? (i := 1220) rfl) rfl
set_option maxRecDepth 100000 in
theorem cv_184 : mm_cP 184 := fun _ => mm_tb_in (List.mem_of_getElem? (i := 1236) rfl) rfl
set_option maxRecDepth 100000 in
theorem cv_185 : mm_cP 185 := fun _ => mm_tb_in (List.mem_of_getElem? (i := 1232) rfl) rfl
set_option maxRecDepth 100000 in
theorem cv_186 : mm_cP 186 := fun _ => mm_tb_in (List.mem_of_getElem? (i := 1240) rfl) rfl
set_option maxRecDepth 100000 in
theorem cv_187 : mm_cP 187 := fun _ => mm_tb_in (List.mem_of_getElem? (i := 1244) rfl) rfl
set_option maxRecDepth 100000 in
theorem cv_188 : mm_cP 188 := fun _ => mm_tb_in (List.mem_of_getElem? (i := 1212) rfl) rfl
set_option maxRecDepth 100000 in
theorem cv_189 : mm_cP 189 := fun _ => mm_tb_in (List.mem_of_getElem? (i := 1248) rfl) rfl
set_option maxRecDepth 100000 in
theorem cv_190 : mm_cP 190 := fun _ => mm_tb_in (List.mem_of_getElem? (i := 1260) rfl) rfl
set_option maxRecDepth 100000 in
theorem cv_191 : mm_cP 191 := fun _ => mm_tb_in (List.mem_of_getElem? (i := 1256) rfl) rfl
set_option maxRecDepth 100000 in
theorem cv_192 : mm_cP 192 := fun _ => mm_tb_in (List.mem_of_getElem? (i := 1264) rfl) rfl
set_option maxRecDepth 100000 in
theorem cv_193 : mm_cP 193 := fun _ => mm_tb_in (List.mem_of_getElem? (i := 1252) rfl) rfl
set_option maxRecDepth 100000 in
theorem cv_194 : mm_cP 194 := fun _ => mm_tb_in (List.mem_of_getElem? (i := 1268) rfl) rfl
set_option maxRecDepth 100000 in
theorem cv_195 : mm_cP 195 := fun _ => mm_tb_in (List.mem_of_getElem? (i := 1272) rfl) rfl
set_option maxRecDepth 100000 in
theorem cv_196 : mm_cP 196 := fun _ => mm_tb_in (List.mem_of_getElem? (i := 1284) rfl) rfl
set_option maxRecDepth 100000 in
theorem cv_197 : mm_cP 197 := fun _ => mm_tb_in (List.mem_of_getElem? (i := 1288) rfl) rfl
set_option maxRecDepth 100000 in
theorem cv_198 : mm_cP 198 := fun _ => mm_tb_in (List.mem_of_getElem? (i := 1291) rfl) rfl
set_option maxRecDepth 100000 in
theorem cv_199 : mm_cP 199 := fun _ => mm_tb_in (List.mem_of_getElem? (i := 1280) rfl) rfl
set_option maxRecDepth 100000 in
theorem cv_200 : mm_cP 200 := fun _ => mm_tb_in (List.mem_of_getElem? (i := 1276) rfl) rfl
set_option maxRecDepth 100000 in
theorem cv_201 : mm_cP 201 := fun _ => mm_tb_in (List.mem_of_getElem? (i := 591) rfl) rfl
set_option maxRecDepth 100000 in
theorem cv_202 : mm_cP 202 := fun _ => mm_tb_in (List.mem_of_getElem? (i := 560) rfl) rfl
set_option maxRecDepth 100000 in
theorem cv_203 : mm_cP 203 := fun _ => mm_tb_in (List.mem_of_getElem? (i := 407) rfl) rfl
set_option maxRecDepth 100000 in
theorem cv_204 : mm_cP 204 := fun _ => mm_tb_in (List.mem_of_getElem? (i := 410) rfl) rfl
theorem cq_0 : ∀ a, a < 0 → mm_cP a := lt_0
theorem cq_1 : ∀ a, a < 1 → mm_cP a := lt_s (i := 0) cq_0 cv_0
theorem cq_2 : ∀ a, a < 2 → mm_cP a := lt_s (i := 1) cq_1 cv_1
theorem cq_3 : ∀ a, a < 3 → mm_cP a := lt_s (i := 2) cq_2 cv_2
theorem cq_4 : ∀ a, a < 4 → mm_cP a := lt_s (i := 3) cq_3 cv_3
theorem cq_5 : ∀ a, a < 5 → mm_cP a := lt_s (i := 4) cq_4 cv_4
theorem cq_6 : ∀ a, a < 6 → mm_cP a := lt_s (i := 5) cq_5 cv_5
theorem cq_7 : ∀ a, a < 7 → mm_cP a := lt_s (i := 6) cq_6 cv_6
theorem cq_8 : ∀ a, a < 8 → mm_cP a := lt_s (i := 7) cq_7 cv_7
theorem cq_9 : ∀ a, a < 9 → mm_cP a := lt_s (i := 8) cq_8 cv_8
theorem cq_10 : ∀ a, a < 10 → mm_cP a := lt_s (i := 9) cq_9 cv_9
theorem cq_11 : ∀ a, a < 11 → mm_cP a := lt_s (i := 10) cq_10 cv_10
theorem cq_12 : ∀ a, a < 12 → mm_cP a := lt_s (i := 11) cq_11 cv_11
theorem cq_13 : ∀ a, a < 13 → mm_cP a := lt_s (i := 12) cq_12 cv_12
theorem cq_14 : ∀ a, a < 14 → mm_cP a := lt_s (i := 13) cq_13 cv_13
theorem cq_15 : ∀ a, a < 15 → mm_cP a := lt_s (i := 14) cq_14 cv_14
theorem cq_16 : ∀ a, a < 16 → mm_cP a := lt_s (i := 15) cq_15 cv_15
theorem cq_17 : ∀ a, a < 17 → mm_cP a := lt_s (i := 16) cq_16 cv_16
theorem cq_18 : ∀ a, a < 18 → mm_cP a := lt_s (i := 17) cq_17 cv_17
theorem cq_19 : ∀ a, a < 19 → mm_cP a := lt_s (i := 18) cq_18 cv_18
theorem cq_20 : ∀ a, a < 20 → mm_cP a := lt_s (i := 19) cq_19 cv_19
theorem cq_21 : ∀ a, a < 21 → mm_cP a := lt_s (i := 20) cq_20 cv_20
theorem cq_22 : ∀ a, a < 22 → mm_cP a := lt_s (i := 21) cq_21 cv_21
theorem cq_23 : ∀ a, a < 23 → mm_cP a := lt_s (i := 22) cq_22 cv_22
theorem cq_24 : ∀ a, a < 24 → mm_cP a := lt_s (i := 23) cq_23 cv_23
theorem cq_25 : ∀ a, a < 25 → mm_cP a := lt_s (i := 24) cq_24 cv_24
theorem cq_26 : ∀ a, a < 26 → mm_cP a := lt_s (i := 25) cq_25 cv_25
theorem cq_27 : ∀ a, a < 27 → mm_cP a := lt_s (i := 26) cq_26 cv_26
theorem cq_28 : ∀ a, a < 28 → mm_cP a := lt_s (i := 27) cq_27 cv_27
theorem cq_29 : ∀ a, a < 29 → mm_cP a := lt_s (i := 28) cq_28 cv_28
theorem cq_30 : ∀ a, a < 30 → mm_cP a := lt_s (i := 29) cq_29 cv_29
theorem cq_31 : ∀ a, a < 31 → mm_cP a := lt_s (i := 30) cq_30 cv_30
theorem cq_32 : ∀ a, a < 32 → mm_cP a := lt_s (i := 31) cq_31 cv_31
theorem cq_33 : ∀ a, a < 33 → mm_cP a := lt_s (i := 32) cq_32 cv_32
theorem cq_34 : ∀ a, a < 34 → mm_cP a := lt_s (i := 33) cq_33 cv_33
theorem cq_35 : ∀ a, a < 35 → mm_cP a := lt_s (i := 34) cq_34 cv_34
theorem cq_36 : ∀ a, a < 36 → mm_cP a := lt_s (i := 35) cq_35 cv_35
theorem cq_37 : ∀ a, a < 37 → mm_cP a := lt_s (i := 36) cq_36 cv_36
theorem cq_38 : ∀ a, a < 38 → mm_cP a := lt_s (i := 37) cq_37 cv_37
theorem cq_39 : ∀ a, a < 39 → mm_cP a := lt_s (i := 38) cq_38 cv_38
theorem cq_40 : ∀ a, a < 40 → mm_cP a := lt_s (i := 39) cq_39 cv_39
theorem cq_41 : ∀ a, a < 41 → mm_cP a := lt_s (i := 40) cq_40 cv_40
theorem cq_42 : ∀ a, a < 42 → mm_cP a := lt_s (i := 41) cq_41 cv_41
theorem cq_43 : ∀ a, a < 43 → mm_cP a := lt_s (i := 42) cq_42 cv_42
theorem cq_44 : ∀ a, a < 44 → mm_cP a := lt_s (i := 43) cq_43 cv_43
theorem cq_45 : ∀ a, a < 45 → mm_cP a := lt_s (i := 44) cq_44 cv_44
theorem cq_46 : ∀ a, a < 46 → mm_cP a := lt_s (i := 45) cq_45 cv_45
theorem cq_47 : ∀ a, a < 47 → mm_cP a := lt_s (i := 46) cq_46 cv_46
theorem cq_48 : ∀ a, a < 48 → mm_cP a := lt_s (i := 47) cq_47 cv_47
theorem cq_49 : ∀ a, a < 49 → mm_cP a := lt_s (i := 48) cq_48 cv_48
theorem cq_50 : ∀ a, a < 50 → mm_cP a := lt_s (i := 49) cq_49 cv_49
theorem cq_51 : ∀ a, a < 51 → mm_cP a := lt_s (i := 50) cq_50 cv_50
theorem cq_52 : ∀ a, a < 52 → mm_cP a := lt_s (i := 51) cq_51 cv_51
theorem cq_53 : ∀ a, a < 53 → mm_cP a := lt_s (i := 52) cq_52 cv_52
theorem cq_54 : ∀ a, a < 54 → mm_cP a := lt_s (i := 53) cq_53 cv_53
theorem cq_55 : ∀ a, a < 55 → mm_cP a := lt_s (i := 54) cq_54 cv_54
theorem cq_56 : ∀ a, a < 56 → mm_cP a := lt_s (i := 55) cq_55 cv_55
theorem cq_57 : ∀ a, a < 57 → mm_cP a := lt_s (i := 56) cq_56 cv_56
theorem cq_58 : ∀ a, a < 58 → mm_cP a := lt_s (i := 57) cq_57 cv_57
theorem cq_59 : ∀ a, a < 59 → mm_cP a := lt_s (i := 58) cq_58 cv_58
theorem cq_60 : ∀ a, a < 60 → mm_cP a := lt_s (i := 59) cq_59 cv_59
theorem cq_61 : ∀ a, a < 61 → mm_cP a := lt_s (i := 60) cq_60 cv_60
theorem cq_62 : ∀ a, a < 62 → mm_cP a := lt_s (i := 61) cq_61 cv_61
theorem cq_63 : ∀ a, a < 63 → mm_cP a := lt_s (i := 62) cq_62 cv_62
theorem cq_64 : ∀ a, a < 64 → mm_cP a := lt_s (i := 63) cq_63 cv_63
theorem cq_65 : ∀ a, a < 65 → mm_cP a := lt_s (i := 64) cq_64 cv_64
theorem cq_66 : ∀ a, a < 66 → mm_cP a := lt_s (i := 65) cq_65 cv_65
theorem cq_67 : ∀ a, a < 67 → mm_cP a := lt_s (i := 66) cq_66 cv_66
theorem cq_68 : ∀ a, a < 68 → mm_cP a := lt_s (i := 67) cq_67 cv_67
theorem cq_69 : ∀ a, a < 69 → mm_cP a := lt_s (i := 68) cq_68 cv_68
theorem cq_70 : ∀ a, a < 70 → mm_cP a := lt_s (i := 69) cq_69 cv_69
theorem cq_71 : ∀ a, a < 71 → mm_cP a := lt_s (i := 70) cq_70 cv_70
theorem cq_72 : ∀ a, a < 72 → mm_cP a := lt_s (i := 71) cq_71 cv_71
theorem cq_73 : ∀ a, a < 73 → mm_cP a := lt_s (i := 72) cq_72 cv_72
theorem cq_74 : ∀ a, a < 74 → mm_cP a := lt_s (i := 73) cq_73 cv_73
theorem cq_75 : ∀ a, a < 75 → mm_cP a := lt_s (i := 74) cq_74 cv_74
theorem cq_76 : ∀ a, a < 76 → mm_cP a := lt_s (i := 75) cq_75 cv_75
theorem cq_77 : ∀ a, a < 77 → mm_cP a := lt_s (i := 76) cq_76 cv_76
theorem cq_78 : ∀ a, a < 78 → mm_cP a := lt_s (i := 77) cq_77 cv_77
theorem cq_79 : ∀ a, a < 79 → mm_cP a := lt_s (i := 78) cq_78 cv_78
theorem cq_80 : ∀ a, a < 80 → mm_cP a := lt_s (i := 79) cq_79 cv_79
theorem cq_81 : ∀ a, a < 81 → mm_cP a := lt_s (i := 80) cq_80 cv_80
theorem cq_82 : ∀ a, a < 82 → mm_cP a := lt_s (i := 81) cq_81 cv_81
theorem cq_83 : ∀ a, a < 83 → mm_cP a := lt_s (i := 82) cq_82 cv_82
theorem cq_84 : ∀ a, a < 84 → mm_cP a := lt_s (i := 83) cq_83 cv_83
theorem cq_85 : ∀ a, a < 85 → mm_cP a := lt_s (i := 84) cq_84 cv_84
theorem cq_86 : ∀ a, a < 86 → mm_cP a := lt_s (i := 85) cq_85 cv_85
theorem cq_87 : ∀ a, a < 87 → mm_cP a := lt_s (i := 86) cq_86 cv_86
theorem cq_88 : ∀ a, a < 88 → mm_cP a := lt_s (i := 87) cq_87 cv_87
theorem cq_89 : ∀ a, a < 89 → mm_cP a := lt_s (i := 88) cq_88 cv_88
theorem cq_90 : ∀ a, a < 90 → mm_cP a := lt_s (i := 89) cq_89 cv_89
theorem cq_91 : ∀ a, a < 91 → mm_cP a := lt_s (i := 90) cq_90 cv_90
theorem cq_92 : ∀ a, a < 92 → mm_cP a := lt_s (i := 91) cq_91 cv_91
theorem cq_93 : ∀ a, a < 93 → mm_cP a := lt_s (i := 92) cq_92 cv_92
theorem cq_94 : ∀ a, a < 94 → mm_cP a := lt_s (i := 93) cq_93 cv_93
theorem cq_95 : ∀ a, a < 95 → mm_cP a := lt_s (i := 94) cq_94 cv_94
theorem cq_96 : ∀ a, a < 96 → mm_cP a := lt_s (i := 95) cq_95 cv_95
theorem cq_97 : ∀ a, a < 97 → mm_cP a := lt_s (i := 96) cq_96 cv_96
theorem cq_98 : ∀ a, a < 98 → mm_cP a := lt_s (i := 97) cq_97 cv_97
theorem cq_99 : ∀ a, a < 99 → mm_cP a := lt_s (i := 98) cq_98 cv_98
theorem cq_100 : ∀ a, a < 100 → mm_cP a := lt_s (i := 99) cq_99 cv_99
theorem cq_101 : ∀ a, a < 101 → mm_cP a := lt_s (i := 100) cq_100 cv_100
theorem cq_102 : ∀ a, a < 102 → mm_cP a := lt_s (i := 101) cq_101 cv_101
theorem cq_103 : ∀ a, a < 103 → mm_cP a := lt_s (i := 102) cq_102 cv_102
theorem cq_104 : ∀ a, a < 104 → mm_cP a := lt_s (i := 103) cq_103 cv_103
theorem cq_105 : ∀ a, a < 105 → mm_cP a := lt_s (i := 104) cq_104 cv_104
theorem cq_106 : ∀ a, a < 106 → mm_cP a := lt_s (i := 105) cq_105 cv_105
theorem cq_107 : ∀ a, a < 107 → mm_cP a := lt_s (i := 106) cq_106 cv_106
theorem cq_108 : ∀ a, a < 108 → mm_cP a := lt_s (i := 107) cq_107 cv_107
theorem cq_109 : ∀ a, a < 109 → mm_cP a := lt_s (i := 108) cq_108 cv_108
theorem cq_110 : ∀ a, a < 110 → mm_cP a := lt_s (i := 109) cq_109 cv_109
theorem cq_111 : ∀ a, a < 111 → mm_cP a := lt_s (i := 110) cq_110 cv_110
theorem cq_112 : ∀ a, a < 112 → mm_cP a := lt_s (i := 111) cq_111 cv_111
theorem cq_113 : ∀ a, a < 113 → mm_cP a := lt_s (i := 112) cq_112 cv_112
theorem cq_114 : ∀ a, a < 114 → mm_cP a := lt_s (i := 113) cq_113 cv_113
theorem cq_115 : ∀ a, a < 115 → mm_cP a := lt_s (i := 114) cq_114 cv_114
theorem cq_116 : ∀ a, a < 116 → mm_cP a := lt_s (i := 115) cq_115 cv_115
theorem cq_117 : ∀ a, a < 117 → mm_cP a := lt_s (i := 116) cq_116 cv_116
theorem cq_118 : ∀ a, a < 118 → mm_cP a := lt_s (i := 117) cq_117 cv_117
theorem cq_119 : ∀ a, a < 119 → mm_cP a := lt_s (i := 118) cq_118 cv_118
theorem cq_120 : ∀ a, a < 120 → mm_cP a := lt_s (i := 119) cq_119 cv_119
theorem cq_121 : ∀ a, a < 121 → mm_cP a := lt_s (i := 120) cq_120 cv_120
theorem cq_122 : ∀ a, a < 122 → mm_cP a := lt_s (i := 121) cq_121 cv_121
theorem cq_123 : ∀ a, a < 123 → mm_cP a := lt_s (i := 122) cq_122 cv_122
theorem cq_124 : ∀ a, a < 124 → mm_cP a := lt_s (i := 123) cq_123 cv_123
theorem cq_125 : ∀ a, a < 125 → mm_cP a := lt_s (i := 124) cq_124 cv_124
theorem cq_126 : ∀ a, a < 126 → mm_cP a := lt_s (i := 125) cq_125 cv_125
theorem cq_127 : ∀ a, a < 127 → mm_cP a := lt_s (i := 126) cq_126 cv_126
theorem cq_128 : ∀ a, a < 128 → mm_cP a := lt_s (i := 127) cq_127 cv_127
theorem cq_129 : ∀ a, a < 129 → mm_cP a := lt_s (i := 128) cq_128 cv_128
theorem cq_130 : ∀ a, a < 130 → mm_cP a := lt_s (i := 129) cq_129 cv_129
theorem cq_131 : ∀ a, a < 131 → mm_cP a := lt_s (i := 130) cq_130 cv_130
theorem cq_132 : ∀ a, a < 132 → mm_cP a := lt_s (i := 131) cq_131 cv_131
theorem cq_133 : ∀ a, a < 133 → mm_cP a := lt_s (i := 132) cq_132 cv_132
theorem cq_134 : ∀ a, a < 134 → mm_cP a := lt_s (i := 133) cq_133 cv_133
theorem cq_135 : ∀ a, a < 135 → mm_cP a := lt_s (i := 134) cq_134 cv_134
theorem cq_136 : ∀ a, a < 136 → mm_cP a := lt_s (i := 135) cq_135 cv_135
theorem cq_137 : ∀ a, a < 137 → mm_cP a := lt_s (i := 136) cq_136 cv_136
theorem cq_138 : ∀ a, a < 138 → mm_cP a := lt_s (i := 137) cq_137 cv_137
theorem cq_139 : ∀ a, a < 139 → mm_cP a := lt_s (i := 138) cq_138 cv_138
theorem cq_140 : ∀ a, a < 140 → mm_cP a := lt_s (i := 139) cq_139 cv_139
theorem cq_141 : ∀ a, a < 141 → mm_cP a := lt_s (i := 140) cq_140 cv_140
theorem cq_142 : ∀ a, a < 142 → mm_cP a := lt_s (i := 141) cq_141 cv_141
theorem cq_143 : ∀ a, a < 143 → mm_cP a := lt_s (i := 142) cq_142 cv_142
theorem cq_144 : ∀ a, a < 144 → mm_cP a := lt_s (i := 143) cq_143 cv_143
theorem cq_145 : ∀ a, a < 145 → mm_cP a := lt_s (i := 144) cq_144 cv_144
theorem cq_146 : ∀ a, a < 146 → mm_cP a := lt_s (i := 145) cq_145 cv_145
theorem cq_147 : ∀ a, a < 147 → mm_cP a := lt_s (i := 146) cq_146 cv_146
theorem cq_148 : ∀ a, a < 148 → mm_cP a := lt_s (i := 147) cq_147 cv_147
theorem cq_149 : ∀ a, a < 149 → mm_cP a := lt_s (i := 148) cq_148 cv_148
theorem cq_150 : ∀ a, a < 150 → mm_cP a := lt_s (i := 149) cq_149 cv_149
theorem cq_151 : ∀ a, a < 151 → mm_cP a := lt_s (i := 150) cq_150 cv_150
theorem cq_152 : ∀ a, a < 152 → mm_cP a := lt_s (i := 151) cq_151 cv_151
theorem cq_153 : ∀ a, a < 153 → mm_cP a := lt_s (i := 152) cq_152 cv_152
theorem cq_154 : ∀ a, a < 154 → mm_cP a := lt_s (i := 153) cq_153 cv_153
theorem cq_155 : ∀ a, a < 155 → mm_cP a := lt_s (i := 154) cq_154 cv_154
theorem cq_156 : ∀ a, a < 156 → mm_cP a := lt_s (i := 155) cq_155 cv_155
theorem cq_157 : ∀ a, a < 157 → mm_cP a := lt_s (i := 156) cq_156 cv_156
theorem cq_158 : ∀ a, a < 158 → mm_cP a := lt_s (i := 157) cq_157 cv_157
theorem cq_159 : ∀ a, a < 159 → mm_cP a := lt_s (i := 158) cq_158 cv_158
theorem cq_160 : ∀ a, a < 160 → mm_cP a := lt_s (i := 159) cq_159 cv_159
theorem cq_161 : ∀ a, a < 161 → mm_cP a := lt_s (i := 160) cq_160 cv_160
theorem cq_162 : ∀ a, a < 162 → mm_cP a := lt_s (i := 161) cq_161 cv_161
theorem cq_163 : ∀ a, a < 163 → mm_cP a := lt_s (i := 162) cq_162 cv_162
theorem cq_164 : ∀ a, a < 164 → mm_cP a := lt_s (i := 163) cq_163 cv_163
theorem cq_165 : ∀ a, a < 165 → mm_cP a := lt_s (i := 164) cq_164 cv_164
theorem cq_166 : ∀ a, a < 166 → mm_cP a := lt_s (i := 165) cq_165 cv_165
theorem cq_167 : ∀ a, a < 167 → mm_cP a := lt_s (i := 166) cq_166 cv_166
theorem cq_168 : ∀ a, a < 168 → mm_cP a := lt_s (i := 167) cq_167 cv_167
theorem cq_169 : ∀ a, a < 169 → mm_cP a := lt_s (i := 168) cq_168 cv_168
theorem cq_170 : ∀ a, a < 170 → mm_cP a := lt_s (i := 169) cq_169 cv_169
theorem cq_171 : ∀ a, a < 171 → mm_cP a := lt_s (i := 170) cq_170 cv_170
theorem cq_172 : ∀ a, a < 172 → mm_cP a := lt_s (i := 171) cq_171 cv_171
theorem cq_173 : ∀ a, a < 173 → mm_cP a := lt_s (i := 172) cq_172 cv_172
theorem cq_174 : ∀ a, a < 174 → mm_cP a := lt_s (i := 173) cq_173 cv_173
theorem cq_175 : ∀ a, a < 175 → mm_cP a := lt_s (i := 174) cq_174 cv_174
theorem cq_176 : ∀ a, a < 176 → mm_cP a := lt_s (i := 175) cq_175 cv_175
theorem cq_177 : ∀ a, a < 177 → mm_cP a := lt_s (i := 176) cq_176 cv_176
theorem cq_178 : ∀ a, a < 178 → mm_cP a := lt_s (i := 177) cq_177 cv_177
theorem cq_179 : ∀ a, a < 179 → mm_cP a := lt_s (i := 178) cq_178 cv_178
theorem cq_180 : ∀ a, a < 180 → mm_cP a := lt_s (i := 179) cq_179 cv_179
theorem cq_181 : ∀ a, a < 181 → mm_cP a := lt_s (i := 180) cq_180 cv_180
theorem cq_182 : ∀ a, a < 182 → mm_cP a := lt_s (i := 181) cq_181 cv_181
theorem cq_183 : ∀ a, a < 183 → mm_cP a := lt_s (i := 182) cq_182 cv_182
theorem cq_184 : ∀ a, a < 184 → mm_cP a := lt_s (i := 183) cq_183 cv_183
theorem cq_185 : ∀ a, a < 185 → mm_cP a := lt_s (i := 184) cq_184 cv_184
theorem cq_186 : ∀ a, a < 186 → mm_cP a := lt_s (i := 185) cq_185 cv_185
theorem cq_187 : ∀ a, a < 187 → mm_cP a := lt_s (i := 186) cq_186 cv_186
theorem cq_188 : ∀ a, a < 188 → mm_cP a := lt_s (i := 187) cq_187 cv_187
theorem cq_189 : ∀ a, a < 189 → mm_cP a := lt_s (i := 188) cq_188 cv_188
theorem cq_190 : ∀ a, a < 190 → mm_cP a := lt_s (i := 189) cq_189 cv_189
theorem cq_191 : ∀ a, a < 191 → mm_cP a := lt_s (i := 190) cq_190 cv_190
theorem cq_192 : ∀ a, a < 192 → mm_cP a := lt_s (i := 191) cq_191 cv_191
theorem cq_193 : ∀ a, a < 193 → mm_cP a := lt_s (i := 192) cq_192 cv_192
theorem cq_194 : ∀ a, a < 194 → mm_cP a := lt_s (i := 193) cq_193 cv_193
theorem cq_195 : ∀ a, a < 195 → mm_cP a := lt_s (i := 194) cq_194 cv_194
theorem cq_196 : ∀ a, a < 196 → mm_cP a := lt_s (i := 195) cq_195 cv_195
theorem cq_197 : ∀ a, a < 197 → mm_cP a := lt_s (i := 196) cq_196 cv_196
theorem cq_198 : ∀ a, a < 198 → mm_cP a := lt_s (i := 197) cq_197 cv_197
theorem cq_199 : ∀ a, a < 199 → mm_cP a := lt_s (i := 198) cq_198 cv_198
theorem cq_200 : ∀ a, a < 200 → mm_cP a := lt_s (i := 199) cq_199 cv_199
theorem cq_201 : ∀ a, a < 201 → mm_cP a := lt_s (i := 200) cq_200 cv_200
theorem cq_202 : ∀ a, a < 202 → mm_cP a := lt_s (i := 201) cq_201 cv_201
theorem cq_203 : ∀ a, a < 203 → mm_cP a := lt_s (i := 202) cq_202 cv_202
theorem cq_204 : ∀ a, a < 204 → mm_cP a := lt_s (i := 203) cq_203 cv_203
theorem cq_205 : ∀ a, a < 205 → mm_cP a := lt_s (i := 204) cq_204 cv_204
def mm_clP (c : Nat) : Prop := vwCl[c]? = some (mm_cn c, mm_T c, mm_N c) ∧ (∀ w ∈ u_ws (mm_cn c) (mm_T c) (mm_N c), w ∈ mm_tb) ∧ (∀ a, a < mm_N c → ∀ b, b < mm_N c → a ≠ b → (mm_T c a).2.1 ≠ (mm_T c b).2.1) ∧ (∀ k, k < mm_N c → parseFieldDescriptor (mm_T c k).2.2.1 = some (mm_fy c k)) ∧ (∀ j, j < mm_N c → defaultValue (mm_fy c j) = vp_V (mm_df c) j) ∧ (mm_df c).length = mm_N c ∧ (.instantiable (mm_cn c) (mm_N c) : Cond) ∈ mm_tb ∧ (.initialized (mm_cn c) : Cond) ∈ mm_tb
theorem cc_0 : mm_clP 0 := ⟨rfl, mm_posmem mm_fp0 (by decide +kernel) (by decide +kernel), nmX0, tyX0_ok, by decide +kernel, rfl, mm_at_mem (p := 89) (by decide +kernel) rfl, mm_at_mem (p := 65) (by decide +kernel) rfl⟩
theorem cc_1 : mm_clP 1 := ⟨rfl, mm_posmem mm_fp1 (by decide +kernel) (by decide +kernel), nmX1, tyX1_ok, by decide +kernel, rfl, mm_at_mem (p := 167) (by decide +kernel) rfl, mm_at_mem (p := 70) (by decide +kernel) rfl⟩
theorem cc_2 : mm_clP 2 := ⟨rfl, mm_posmem mm_fp2 (by decide +kernel) (by decide +kernel), nmX2, tyX2_ok, by decide +kernel, rfl, mm_at_mem (p := 204) (by decide +kernel) rfl, mm_at_mem (p := 71) (by decide +kernel) rfl⟩
theorem cc_3 : mm_clP 3 := ⟨rfl, mm_posmem mm_fp3 (by decide +kernel) (by decide +kernel), nmX3, tyX3_ok, by decide +kernel, rfl, mm_at_mem (p := 228) (by decide +kernel) rfl, mm_at_mem (p := 72) (by decide +kernel) rfl⟩
theorem cc_4 : mm_clP 4 := ⟨rfl, mm_posmem mm_fp4 (by decide +kernel) (by decide +kernel), nmX4, tyX4_ok, by decide +kernel, rfl, mm_at_mem (p := 116) (by decide +kernel) rfl, mm_at_mem (p := 67) (by decide +kernel) rfl⟩
theorem cc_5 : mm_clP 5 := ⟨rfl, mm_posmem mm_fp5 (by decide +kernel) (by decide +kernel), nmX5, tyX5_ok, by decide +kernel, rfl, mm_at_mem (p := 100) (by decide +kernel) rfl, mm_at_mem (p := 66) (by decide +kernel) rfl⟩
theorem cc_6 : mm_clP 6 := ⟨rfl, mm_posmem mm_fp6 (by decide +kernel) (by decide +kernel), nmX6, tyX6_ok, by decide +kernel, rfl, mm_at_mem (p := 123) (by decide +kernel) rfl, mm_at_mem (p := 68) (by decide +kernel) rfl⟩
theorem cc_7 : mm_clP 7 := ⟨rfl, mm_posmem mm_fp7 (by decide +kernel) (by decide +kernel), nmX7, tyX7_ok, by decide +kernel, rfl, mm_at_mem (p := 152) (by decide +kernel) rfl, mm_at_mem (p := 69) (by decide +kernel) rfl⟩
theorem cc_8 : mm_clP 8 := ⟨rfl, mm_posmem mm_fp8 (by decide +kernel) (by decide +kernel), nmX8, tyX8_ok, by decide +kernel, rfl, mm_at_mem (p := 241) (by decide +kernel) rfl, mm_at_mem (p := 73) (by decide +kernel) rfl⟩
theorem cc_9 : mm_clP 9 := ⟨rfl, mm_posmem mm_fp9 (by decide +kernel) (by decide +kernel), nmX9, tyX9_ok, by decide +kernel, rfl, mm_at_mem (p := 278) (by decide +kernel) rfl, mm_at_mem (p := 75) (by decide +kernel) rfl⟩
theorem cc_10 : mm_clP 10 := ⟨rfl, mm_posmem mm_fp10 (by decide +kernel) (by decide +kernel), nmX10, tyX10_ok, by decide +kernel, rfl, mm_at_mem (p := 254) (by decide +kernel) rfl, mm_at_mem (p := 74) (by decide +kernel) rfl⟩
theorem cc_11 : mm_clP 11 := ⟨rfl, mm_posmem mm_fp11 (by decide +kernel) (by decide +kernel), nmX11, tyX11_ok, by decide +kernel, rfl, mm_at_mem (p := 80) (by decide +kernel) rfl, mm_at_mem (p := 64) (by decide +kernel) rfl⟩
theorem cc_12 : mm_clP 12 := ⟨rfl, mm_posmem mm_fp12 (by decide +kernel) (by decide +kernel), nmX12, tyX12_ok, by decide +kernel, rfl, mm_at_mem (p := 922) (by decide +kernel) rfl, mm_at_mem (p := 76) (by decide +kernel) rfl⟩
theorem ce_0 : ∀ a, a < 0 → mm_clP a := lt_0
theorem ce_1 : ∀ a, a < 1 → mm_clP a := lt_s (i := 0) ce_0 cc_0
theorem ce_2 : ∀ a, a < 2 → mm_clP a := lt_s (i := 1) ce_1 cc_1
theorem ce_3 : ∀ a, a < 3 → mm_clP a := lt_s (i := 2) ce_2 cc_2
theorem ce_4 : ∀ a, a < 4 → mm_clP a := lt_s (i := 3) ce_3 cc_3
theorem ce_5 : ∀ a, a < 5 → mm_clP a := lt_s (i := 4) ce_4 cc_4
theorem ce_6 : ∀ a, a < 6 → mm_clP a := lt_s (i := 5) ce_5 cc_5
theorem ce_7 : ∀ a, a < 7 → mm_clP a := lt_s (i := 6) ce_6 cc_6
theorem ce_8 : ∀ a, a < 8 → mm_clP a := lt_s (i := 7) ce_7 cc_7
theorem ce_9 : ∀ a, a < 9 → mm_clP a := lt_s (i := 8) ce_8 cc_8
theorem ce_10 : ∀ a, a < 10 → mm_clP a := lt_s (i := 9) ce_9 cc_9
theorem ce_11 : ∀ a, a < 11 → mm_clP a := lt_s (i := 10) ce_10 cc_10
theorem ce_12 : ∀ a, a < 12 → mm_clP a := lt_s (i := 11) ce_11 cc_11
theorem ce_13 : ∀ a, a < 13 → mm_clP a := lt_s (i := 12) ce_12 cc_12
end
section
/-! ===== the small machine's cells in the real heap ===== -/
def mm_ad (b h0 : Nat) : Nat → Nat
  | 0 => b
  | k + 1 => h0 + k
def mm_up (b h0 : Nat) : Value → Value
  | .ref a => .ref (mm_ad b h0 a)
  | v => v
theorem mm_up_cat (b h0 : Nat) (v : Value) : (mm_up b h0 v).category = v.category := by cases v <;> rfl
def mm_uE (dA : Nat → ClassId) (b h0 : Nat) (c : mm_E) : va_E := match c with
  | .inl (t, n, .inr (.inr (.inr (.inr f)))) => .inl (dA t, n, .inr (.inr (.inr (.inr (fun j => (f j).map (mm_ad b h0))))))
  | .inl (t, n, .inr (.inr (.inr (.inl f)))) => .inl (dA t, n, .inr (.inr (.inr (.inl f))))
  | .inl (t, n, .inr (.inr (.inl f))) => .inl (dA t, n, .inr (.inr (.inl f)))
  | .inl (t, n, .inr (.inl f)) => .inl (dA t, n, .inr (.inl f))
  | .inl (t, n, .inl f) => .inl (dA t, n, .inl f)
  | .inr (ci, fs) => .inr (ci, fs.map (mm_up b h0))
def mm_tys (dA : Nat → ClassId) : List (ClassId × FieldType) := [(dA 0, mm_ty 0), (dA 1, mm_ty 1), (dA 2, mm_ty 2), (dA 3, mm_ty 3)]
abbrev mm_A (h0 : Nat) : Nat → Prop := fun q => h0 ≤ q
def mm_ws (dA : Nat → ClassId) (b h0 : Nat) (M : mm_M) : va_W := (List.range (M.2.1 - 1)).map fun k => (h0 + k, mm_uE dA b h0 ((M.1 (k + 1)).getD (.inr (0, []))))
def mm_Wd (D : va_G) (dA : Nat → ClassId) (b h0 : Nat) (M : mm_M) (H : Heap) : Prop := (1 ≤ M.2.1 ∧ H.size + 1 = h0 + M.2.1) ∧ (∀ k c, M.1 k = some c → 1 ≤ k ∧ k < M.2.1) ∧ (∀ k, 1 ≤ k → k < M.2.1 → ∃ c, M.1 k = some c) ∧ va_P D vwCl (mm_ws dA b h0 M) H
theorem mm_rng {n k j : Nat} (h : (List.range n)[k]? = some j) : j = k ∧ k < n := by
  obtain ⟨h1, h2⟩ := List.getElem?_eq_some_iff.mp h
  rw [List.getElem_range] at h2
  rw [List.length_range] at h1
  exact ⟨h2.symm, h1⟩
theorem mm_rng' {n k : Nat} (h : k < n) : (List.range n)[k]? = some k := by
  rw [List.getElem?_eq_some_iff]
  exact ⟨by rw [List.length_range]; exact h, List.getElem_range _⟩
theorem mm_ws_at {D : va_G} {dA : Nat → ClassId} {b h0 a : Nat} {M : mm_M} {H : Heap} {c : mm_E} (hW : mm_Wd D dA b h0 M H) (h : M.1 a = some c) : ∃ q0, a = q0 + 1 ∧ q0 + 1 < M.2.1 ∧ mm_ad b h0 a = h0 + q0 ∧ (mm_ws dA b h0 M)[q0]? = some (h0 + q0, mm_uE dA b h0 c) := by
  obtain ⟨h1, h2⟩ := hW.2.1 a c h
  obtain ⟨q0, rfl⟩ : ∃ q, a = q + 1 := ⟨a - 1, by omega⟩
  refine ⟨q0, rfl, h2, rfl, ?_⟩
  unfold mm_ws
  rw [List.getElem?_map, mm_rng' (by omega)]
  simp [h]
theorem mm_ws_in {dA : Nat → ClassId} {b h0 k : Nat} {M : mm_M} {q : Nat × va_E} (h : (mm_ws dA b h0 M)[k]? = some q) : q.1 = h0 + k ∧ k + 1 < M.2.1 := by
  unfold mm_ws at h
  rw [List.getElem?_map] at h
  cases hr : (List.range (M.2.1 - 1))[k]? with
  | none => rw [hr] at h; cases h
  | some j =>
    rw [hr] at h
    obtain ⟨rfl, hk⟩ := mm_rng hr
    cases h
    exact ⟨rfl, by omega⟩
theorem mm_ws_D (dA : Nat → ClassId) (b h0 : Nat) (M : mm_M) : va_D (mm_A h0) (mm_ws dA b h0 M) := by
  refine ⟨fun i j p q hi hj e => ?_, fun k q hk => ?_⟩
  · have h1 := (mm_ws_in hi).1
    have h2 := (mm_ws_in hj).1
    omega
  · have h1 := (mm_ws_in hk).1
    show h0 ≤ q.1
    omega
theorem mm_ws_put {dA : Nat → ClassId} {b h0 q0 : Nat} {M : mm_M} {c : mm_E} (h : q0 + 1 < M.2.1) : (mm_ws dA b h0 M).set q0 (h0 + q0, mm_uE dA b h0 c) = mm_ws dA b h0 (mm_put M (q0 + 1) c) := by
  apply List.ext_getElem?
  intro k
  rw [List.getElem?_set]
  by_cases e : q0 = k
  · subst e
    rw [if_pos rfl, if_pos (by unfold mm_ws; rw [List.length_map, List.length_range]; omega)]
    unfold mm_ws mm_put
    rw [List.getElem?_map, mm_rng' (by show q0 < M.2.1 - 1; omega)]
    simp [mm_u]
  · rw [if_neg e]
    unfold mm_ws mm_put
    rw [List.getElem?_map, List.getElem?_map]
    cases hr : (List.range (M.2.1 - 1))[k]? with
    | none => rfl
    | some j =>
      obtain ⟨rfl, -⟩ := mm_rng hr
      have e2 : ¬ j = q0 := fun q => e q.symm
      simp [mm_u, e2]
theorem mm_ws_add {dA : Nat → ClassId} {b h0 z : Nat} {M : mm_M} {c : mm_E} (h : 1 ≤ M.2.1) : mm_ws dA b h0 (mm_add M c z) = mm_ws dA b h0 M ++ [(h0 + (M.2.1 - 1), mm_uE dA b h0 c)] := by
  unfold mm_ws mm_add
  show (List.range (M.2.1 + 1 - 1)).map _ = _
  rw [show M.2.1 + 1 - 1 = (M.2.1 - 1) + 1 by omega, List.range_succ, List.map_append]
  congr 1
  · apply List.map_congr_left
    intro k hk
    have hk := List.mem_range.mp hk
    have e : ¬ k + 1 = M.2.1 := by omega
    simp [mm_u, e]
  · have e : M.2.1 - 1 + 1 = M.2.1 := by omega
    simp [mm_u, e]
/-- the world behind a store -/
theorem mm_Wd_put {D : va_G} {dA : Nat → ClassId} {b h0 a : Nat} {M : mm_M} {H H1 : Heap} {c0 c : mm_E} (hW : mm_Wd D dA b h0 M H) (h : M.1 a = some c0) (hz : H1.size = H.size) (hP : va_P D vwCl (mm_ws dA b h0 (mm_put M a c)) H1) : mm_Wd D dA b h0 (mm_put M a c) H1 := by
  obtain ⟨⟨z1, z2⟩, k1, k2, -⟩ := hW
  refine ⟨⟨z1, by rw [hz]; exact z2⟩, fun k c' hk => ?_, fun k h1 h2 => ?_, hP⟩
  · by_cases e : k = a
    · subst e
      exact k1 k c0 h
    · have h3 : M.1 k = some c' := by
        have h4 : mm_u M.1 a c k = some c' := hk
        unfold mm_u at h4
        rw [if_neg e] at h4
        exact h4
      exact k1 k c' h3
  · show ∃ c', mm_u M.1 a c k = some c'
    unfold mm_u
    by_cases e : k = a
    · exact ⟨c, by rw [if_pos e]⟩
    · rw [if_neg e]
      exact k2 k h1 h2
theorem mm_Wd_add {D : va_G} {dA : Nat → ClassId} {b h0 z : Nat} {M : mm_M} {H H1 : Heap} {c : mm_E} (hW : mm_Wd D dA b h0 M H) (hz : H1.size = H.size + 1) (hP : va_P D vwCl (mm_ws dA b h0 (mm_add M c z)) H1) : mm_Wd D dA b h0 (mm_add M c z) H1 := by
  obtain ⟨⟨z1, z2⟩, k1, k2, -⟩ := hW
  refine ⟨⟨by show 1 ≤ M.2.1 + 1; omega, by rw [hz]; show H.size + 1 + 1 = h0 + (M.2.1 + 1); omega⟩, fun k c' hk => ?_, fun k h1 h2 => ?_, hP⟩
  · show 1 ≤ k ∧ k < M.2.1 + 1
    by_cases e : k = M.2.1
    · omega
    · have h3 : M.1 k = some c' := by
        have h4 : mm_u M.1 M.2.1 c k = some c' := hk
        unfold mm_u at h4
        rw [if_neg e] at h4
        exact h4
      have h5 := k1 k c' h3
      omega
  · show ∃ c', mm_u M.1 M.2.1 c k = some c'
    have h3 : k < M.2.1 + 1 := h2
    unfold mm_u
    by_cases e : k = M.2.1
    · exact ⟨c, by rw [if_pos e]⟩
    · rw [if_neg e]
      exact k2 k h1 (by omega)
-- locals
def mm_lh (b h0 : Nat) (ls : Array Slot) (L : mm_L) : Prop := ls.size = L.length ∧ lv_wf ls ∧ ∀ (i : Nat) (v : Value), L[i]? = some (some v) → v.category = 1 ∧ ls[i]? = some (.val (mm_up b h0 v))
def mm_p1 (b h0 : Nat) (L : mm_L) (i : Nat) : Option (Nat × Value) := match L[i]? with
  | some (some v) => some (i, mm_up b h0 v)
  | _ => none
def mm_pr (b h0 : Nat) (L : mm_L) : List (Nat × Value) := (List.range L.length).filterMap (mm_p1 b h0 L)
theorem mm_lh_has {b h0 : Nat} {ls : Array Slot} {L : mm_L} (h : mm_lh b h0 ls L) : lv_has ls L.length (mm_pr b h0 L) := by
  refine ⟨h.1, h.2.1, fun q hq => ?_⟩
  obtain ⟨i, -, hi⟩ := List.mem_filterMap.mp hq
  unfold mm_p1 at hi
  split at hi
  · next v e =>
    cases hi
    exact (h.2.2 i v e).2
  · cases hi
theorem mm_pr_mem {b h0 i : Nat} {L : mm_L} {v : Value} (hi : L[i]? = some (some v)) : (i, mm_up b h0 v) ∈ mm_pr b h0 L :=
  List.mem_filterMap.mpr ⟨i, List.mem_range.mpr (List.getElem?_eq_some_iff.mp hi).1, by unfold mm_p1; rw [hi]⟩
theorem mm_lh_set {b h0 k : Nat} {ls ls' : Array Slot} {L : mm_L} {x : Value} (h : mm_lh b h0 ls L) (hx : x.category = 1) (hk : k < L.length) (h' : lv_has ls' L.length ((k, mm_up b h0 x) :: (mm_pr b h0 L).filter (fun q => !(q.1 == k) && !(q.1 + 1 == k && q.2.category == 2)))) : mm_lh b h0 ls' (L.set k (some x)) := by
  refine ⟨by rw [List.length_set]; exact h'.1, h'.2.1, fun i v hi => ?_⟩
  rw [List.getElem?_set] at hi
  by_cases e : k = i
  · subst e
    rw [if_pos rfl, if_pos hk] at hi
    cases hi
    exact ⟨hx, h'.2.2 (k, _) List.mem_cons_self⟩
  · rw [if_neg e] at hi
    obtain ⟨hc, -⟩ := h.2.2 i v hi
    refine ⟨hc, h'.2.2 (i, mm_up b h0 v) (List.mem_cons_of_mem _ (List.mem_filter.mpr ⟨mm_pr_mem hi, ?_⟩))⟩
    have e2 : ¬ i = k := fun q => e q.symm
    simp [e2, mm_up_cat, hc]
theorem mm_lh_entry {b h0 n : Nat} {as : List Value} (hc : ∀ v ∈ as, v.category = 1) (hn : as.length ≤ n) : mm_lh b h0 (((as.map (mm_up b h0)).map Slot.val ++ List.replicate (n - (as.map (mm_up b h0)).length) Slot.unset).toArray) (as.map some ++ List.replicate (n - as.length) none) := by
  have key : ∀ (i : Nat) (v : Value), (((as.map (mm_up b h0)).map Slot.val ++ List.replicate (n - (as.map (mm_up b h0)).length) Slot.unset).toArray)[i]? = some (.val v) → v.category = 1 := by
    intro i v hi
    rw [List.getElem?_toArray] at hi
    rcases List.mem_append.mp (List.mem_of_getElem? hi) with h | h
    · obtain ⟨w, hw, e⟩ := List.mem_map.mp h
      obtain ⟨u, hu, rfl⟩ := List.mem_map.mp hw
      cases e
      rw [mm_up_cat]
      exact hc u hu
    · have := (List.mem_replicate.mp h).2
      cases this
  have key2 : ∀ i : Nat, (((as.map (mm_up b h0)).map Slot.val ++ List.replicate (n - (as.map (mm_up b h0)).length) Slot.unset).toArray)[i]? ≠ some .second := by
    intro i hi
    rw [List.getElem?_toArray] at hi
    rcases List.mem_append.mp (List.mem_of_getElem? hi) with h | h
    · obtain ⟨w, hw, e⟩ := List.mem_map.mp h
      cases e
    · have := (List.mem_replicate.mp h).2
      cases this
  refine ⟨?_, ⟨fun i v hi h2 => ?_, fun i hi => absurd hi (key2 i)⟩, fun i v hi => ?_⟩
  · simp
  · have := key i v hi
    omega
  · rw [List.getElem?_append] at hi
    split at hi
    · next hlt =>
      rw [List.getElem?_map] at hi
      cases ha : as[i]? with
      | none => rw [ha] at hi; cases hi
      | some w =>
        rw [ha] at hi
        cases hi
        refine ⟨hc _ (List.mem_of_getElem? ha), ?_⟩
        rw [List.getElem?_toArray, List.getElem?_append_left (by simpa using (List.getElem?_eq_some_iff.mp ha).1), List.getElem?_map, List.getElem?_map, ha]
        rfl
    · have h3 := List.mem_of_getElem? hi
      have := (List.mem_replicate.mp h3).2
      cases this
end
section
/-- the words that are carried by hand: links to nest mates, arrays of references -/
def mm_Nx (s : State) : Prop := (∀ a i x h, (Cond.methodLinkNest a i x h) ∈ lw_tbl → va_Nw (.methodLinkNest a i x h) s) ∧ (∀ C, (Cond.arrayOver (.object C)) ∈ lw_tbl → va_AO C s)
theorem mm_Nx_moved {s U : State} (hW : s.WarmedH U.vm) (h : mm_Nx s) : mm_Nx U := ⟨fun a i x y hw => va_Nw.warmM hW (h.1 a i x y hw), fun C hw => (h.2 C hw).moved hW.alike⟩
/-- what holds in a method of the system at any point of it -/
def mm_Cx (D : va_G) (dA : Nat → ClassId) (b h0 : Nat) (S : mm_S) (p : Program) (s : State) (m : MethodId) (args : Array Value) (meth : Method) (c : Code) (mi : Nat) : Prop :=
  p.tables.exec = Jvm.exec ∧ c.code = mm_by mi ∧ c.maxLocals = mm_mx mi ∧ meth.sig.returnType = mm_rt mi ∧ meth.locks = false ∧ s.vm.findClass (mm_cn (mm_ow mi)) = some m.cls ∧ (∀ w ∈ mm_tb, w.before args s = true) ∧ mm_Nx s ∧ va_K D vwCl (mm_tys dA) s ∧ (mm_in mi = true → meth.name = "<init>") ∧ va_X b S.1 S.2 s s.heap ∧ b < h0 ∧ h0 ≤ s.heap.size
/-- the goal from a small state on -/
def mm_Go (p : Program) (l : Launch) (e : Env) (R : Room) (s : State) (m : MethodId) (args : Array Value) (below : List Frame) (meth : Method) (c : Code) (Q : State → Prop) (D : va_G) (dA : Nat → ClassId) (b h0 n0 u0 : Nat) (fr : mm_F) : Prop :=
  ∀ (H1 : Heap) (locs1 : List Loc) (ls1 : Array Slot), mm_Wd D dA b h0 fr.2.2.2 H1 → va_S (mm_A h0) s.heap H1 locs1 → mm_lh b h0 ls1 fr.2.1 → W p l e R s m args below meth c H1 locs1 (fr.2.2.2.2.1 - n0) (fr.2.2.2.2.2 - u0) Q (F0 m fr.1 ls1 (fr.2.2.1.map (mm_up b h0)))
theorem mm_Sself {A : Nat → Prop} {H0 H : Heap} {locs : List Loc} (hS : va_S A H0 H locs) : va_S A H H locs := ⟨Nat.le_refl _, fun _ _ _ => rfl, hS.2.2⟩
theorem mm_Strans {A : Nat → Prop} {H0 H H1 : Heap} {locs locs1 : List Loc} (hS : va_S A H0 H locs) (h1 : va_S A H H1 locs1) : va_S A H0 H1 locs1 := ⟨Nat.le_trans hS.1 h1.1, fun q a b => (h1.2.1 q (Nat.lt_of_lt_of_le a hS.1) b).trans (hS.2.1 q a b), h1.2.2⟩
theorem mm_tg_spec {pc t : Nat} {off : Int} (h : mm_tg pc off = some t) : (pc : Int) + off = (t : Int) := by
  unfold mm_tg at h
  split at h
  · next q => cases h; exact (Int.toNat_of_nonneg q).symm
  · cases h
theorem mm_tc_ty {t c : Nat} (h : mm_tc t = some c) : t < 4 ∧ mm_ty t = .object (mm_cn c) ∧ c < 13 := by
  match t, h with
  | 2, h => cases h; exact ⟨by decide, rfl, by decide⟩
  | 3, h => cases h; exact ⟨by decide, rfl, by decide⟩
theorem mm_tys_at (dA : Nat → ClassId) {t : Nat} (h : t < 4) : (mm_tys dA)[t]? = some (dA t, mm_ty t) := by
  match t, h with
  | 0, _ => rfl
  | 1, _ => rfl
  | 2, _ => rfl
  | 3, _ => rfl
section MMS
variable {p : Program} {l : Launch} {e : Env} {R : Room} {s : State} {m : MethodId} {args : Array Value} {below : List Frame} {meth : Method} {c : Code} {H : Heap} {locs : List Loc} {Q : State → Prop} {D : va_G} {dA : Nat → ClassId} {b h0 : Nat} {S : mm_S} {mi pc n0 u0 : Nat} {ls : Array Slot} {L : mm_L} {st : List Value} {M : mm_M}
theorem mm_sz {cells slots : Nat} {g : JFrame} (k : H.size ≤ s.heap.size + cells → W p l e R s m args below meth c H locs cells slots Q g) : W p l e R s m args below meth c H locs cells slots Q g := fun T hT X => k (by rw [← hT]; exact X.heapSize) T hT X
/-- behind a store into the cell a -/
theorem mm_afterput {H1 : Heap} {locs1 : List Loc} {pc' q0 a : Nat} {st' : List Value} {c0 c1 : mm_E} (hW : mm_Wd D dA b h0 M H) (hS : va_S (mm_A h0) s.heap H locs) (hl : mm_lh b h0 ls L) (hs0 : s.heap.size + 1 = h0 + n0) (hn0 : n0 ≤ M.2.1) (h : M.1 a = some c0) (ha : a = q0 + 1) (hP1 : va_P D vwCl ((mm_ws dA b h0 M).set q0 (h0 + q0, mm_uE dA b h0 c1)) H1) (hS1 : va_S (mm_A h0) H H1 locs1)
    (go : mm_Go p l e R s m args below meth c Q D dA b h0 n0 u0 (pc', L, st', mm_put M a c1)) : W p l e R s m args below meth c H1 locs1 (M.2.1 - n0) (M.2.2 - u0) Q (F0 m pc' ls (st'.map (mm_up b h0))) := by
  refine mm_sz fun hz => ?_
  have z : H1.size = H.size := by
    have z1 := hW.1.2
    have z2 := hS1.1
    omega
  subst ha
  have hlt := (hW.2.1 _ _ h).2
  rw [mm_ws_put hlt] at hP1
  exact go H1 locs1 ls (mm_Wd_put hW h z hP1) (mm_Strans hS hS1) hl
/-- behind a making -/
theorem mm_afternew {H1 : Heap} {locs1 : List Loc} {pc' q z : Nat} {st' : List Value} {c1 : mm_E} {e1 : va_E} (hW : mm_Wd D dA b h0 M H) (hS : va_S (mm_A h0) s.heap H locs) (hl : mm_lh b h0 ls L) (hs0 : s.heap.size + 1 = h0 + n0) (hn0 : n0 ≤ M.2.1) (hu0 : u0 ≤ M.2.2) (he : e1 = mm_uE dA b h0 c1) (hP1 : va_P D vwCl (mm_ws dA b h0 M ++ [(q, e1)]) H1) (hD1 : va_D (mm_A h0) (mm_ws dA b h0 M ++ [(q, e1)])) (hS1 : va_S (mm_A h0) H H1 locs1)
    (go : mm_Go p l e R s m args below meth c Q D dA b h0 n0 u0 (pc', L, .ref M.2.1 :: st', mm_add M c1 z)) : W p l e R s m args below meth c H1 locs1 (M.2.1 - n0 + 1) (M.2.2 - u0 + z) Q (F0 m pc' ls (.ref q :: st'.map (mm_up b h0))) := by
  subst he
  have hlen : (mm_ws dA b h0 M).length = M.2.1 - 1 := by unfold mm_ws; rw [List.length_map, List.length_range]
  have hlast : (mm_ws dA b h0 M ++ [(q, mm_uE dA b h0 c1)])[M.2.1 - 1]? = some (q, mm_uE dA b h0 c1) := by
    rw [← hlen]
    simp
  refine mm_sz fun hz => ?_
  have hq1 : q < H1.size := (hP1 _ _ hlast).lt
  have hq0 : h0 ≤ q := hD1.2 _ _ hlast
  have z1 := hW.1.2
  have z0 := hW.1.1
  have z2 := hS1.1
  have hq : q = h0 + (M.2.1 - 1) := by
    rcases Nat.lt_or_ge q (h0 + (M.2.1 - 1)) with hlt | hge
    · exfalso
      obtain ⟨k, rfl⟩ : ∃ k, q = h0 + k := ⟨q - h0, by omega⟩
      have hk : k < M.2.1 - 1 := by omega
      have h1 : (mm_ws dA b h0 M ++ [(h0 + k, mm_uE dA b h0 c1)])[k]? = some (h0 + k, mm_uE dA b h0 ((M.1 (k + 1)).getD (.inr (0, [])))) := by
        rw [List.getElem?_append_left (by rw [hlen]; exact hk)]
        unfold mm_ws
        rw [List.getElem?_map, mm_rng' hk]
        rfl
      have h2 := hD1.1 _ _ _ _ h1 hlast rfl
      omega
    · omega
  subst hq
  have hP2 : va_P D vwCl (mm_ws dA b h0 (mm_add M c1 z)) H1 := by
    rw [mm_ws_add z0]
    exact hP1
  have z3 : H1.size = H.size + 1 := by omega
  have g := go H1 locs1 ls (mm_Wd_add hW z3 hP2) (mm_Strans hS hS1) hl
  have e1 : (mm_add M c1 z).2.1 - n0 = M.2.1 - n0 + 1 := by show M.2.1 + 1 - n0 = _; omega
  have e2 : (mm_add M c1 z).2.2 - u0 = M.2.2 - u0 + z := by show M.2.2 + z - u0 = _; omega
  have e3 : mm_up b h0 (.ref M.2.1) = .ref (h0 + (M.2.1 - 1)) := by
    obtain ⟨k, hk⟩ : ∃ k, M.2.1 = k + 1 := ⟨M.2.1 - 1, by omega⟩
    rw [hk]
    rfl
  have g2 : W p l e R s m args below meth c H1 locs1 ((mm_add M c1 z).2.1 - n0) ((mm_add M c1 z).2.2 - u0) Q (F0 m pc' ls (mm_up b h0 (.ref M.2.1) :: st'.map (mm_up b h0))) := g
  rw [e1, e2, e3] at g2
  exact g2
theorem ms_iadd (C : mm_Cx D dA b h0 S p s m args meth c mi) (hW : mm_Wd D dA b h0 M H) (hS : va_S (mm_A h0) s.heap H locs) (hl : mm_lh b h0 ls L) (hs0 : s.heap.size + 1 = h0 + n0) (hn0 : n0 ≤ M.2.1) (hu0 : u0 ≤ M.2.2) {fr : mm_F} (hRc : fr.2.2.2.2.1 ≤ R.cells + n0) (hRs : fr.2.2.2.2.2 ≤ R.slots + u0) (hd : decode (mm_by mi) pc = .ok (.iadd, 1)) (hst : mm_b2 (fun x y => x + y) pc L st M = some fr) (go : mm_Go p l e R s m args below meth c Q D dA b h0 n0 u0 fr) : W p l e R s m args below meth c H locs (M.2.1 - n0) (M.2.2 - u0) Q (F0 m pc ls (st.map (mm_up b h0))) := by
  obtain ⟨hx, hb, hml, hrt, hlk, hown, hts, hnx, hK, hini, hX, hbl, hh0⟩ := C
  unfold mm_b2 at hst
  split at hst
  · next y x r =>
    cases hst
    exact lv_iadd (x := x) (y := y) (rest := r.map (mm_up b h0)) hx hb hd (go H locs ls hW hS hl)
  · cases hst
theorem ms_isub (C : mm_Cx D dA b h0 S p s m args meth c mi) (hW : mm_Wd D dA b h0 M H) (hS : va_S (mm_A h0) s.heap H locs) (hl : mm_lh b h0 ls L) (hs0 : s.heap.size + 1 = h0 + n0) (hn0 : n0 ≤ M.2.1) (hu0 : u0 ≤ M.2.2) {fr : mm_F} (hRc : fr.2.2.2.2.1 ≤ R.cells + n0) (hRs : fr.2.2.2.2.2 ≤ R.slots + u0) (hd : decode (mm_by mi) pc = .ok (.isub, 1)) (hst : mm_b2 (fun x y => x - y) pc L st M = some fr) (go : mm_Go p l e R s m args below meth c Q D dA b h0 n0 u0 fr) : W p l e R s m args below meth c H locs (M.2.1 - n0) (M.2.2 - u0) Q (F0 m pc ls (st.map (mm_up b h0))) := by
  obtain ⟨hx, hb, hml, hrt, hlk, hown, hts, hnx, hK, hini, hX, hbl, hh0⟩ := C
  unfold mm_b2 at hst
  split at hst
  · next y x r =>
    cases hst
    exact lv_isub (x := x) (y := y) (rest := r.map (mm_up b h0)) hx hb hd (go H locs ls hW hS hl)
  · cases hst
theorem ms_imul (C : mm_Cx D dA b h0 S p s m args meth c mi) (hW : mm_Wd D dA b h0 M H) (hS : va_S (mm_A h0) s.heap H locs) (hl : mm_lh b h0 ls L) (hs0 : s.heap.size + 1 = h0 + n0) (hn0 : n0 ≤ M.2.1) (hu0 : u0 ≤ M.2.2) {fr : mm_F} (hRc : fr.2.2.2.2.1 ≤ R.cells + n0) (hRs : fr.2.2.2.2.2 ≤ R.slots + u0) (hd : decode (mm_by mi) pc = .ok (.imul, 1)) (hst : mm_b2 (fun x y => x * y) pc L st M = some fr) (go : mm_Go p l e R s m args below meth c Q D dA b h0 n0 u0 fr) : W p l e R s m args below meth c H locs (M.2.1 - n0) (M.2.2 - u0) Q (F0 m pc ls (st.map (mm_up b h0))) := by
  obtain ⟨hx, hb, hml, hrt, hlk, hown, hts, hnx, hK, hini, hX, hbl, hh0⟩ := C
  unfold mm_b2 at hst
  split at hst
  · next y x r =>
    cases hst
    exact lv_imul (x := x) (y := y) (rest := r.map (mm_up b h0)) hx hb hd (go H locs ls hW hS hl)
  · cases hst
theorem ms_iand (C : mm_Cx D dA b h0 S p s m args meth c mi) (hW : mm_Wd D dA b h0 M H) (hS : va_S (mm_A h0) s.heap H locs) (hl : mm_lh b h0 ls L) (hs0 : s.heap.size + 1 = h0 + n0) (hn0 : n0 ≤ M.2.1) (hu0 : u0 ≤ M.2.2) {fr : mm_F} (hRc : fr.2.2.2.2.1 ≤ R.cells + n0) (hRs : fr.2.2.2.2.2 ≤ R.slots + u0) (hd : decode (mm_by mi) pc = .ok (.iand, 1)) (hst : mm_b2 (fun x y => x &&& y) pc L st M = some fr) (go : mm_Go p l e R s m args below meth c Q D dA b h0 n0 u0 fr) : W p l e R s m args below meth c H locs (M.2.1 - n0) (M.2.2 - u0) Q (F0 m pc ls (st.map (mm_up b h0))) := by
  obtain ⟨hx, hb, hml, hrt, hlk, hown, hts, hnx, hK, hini, hX, hbl, hh0⟩ := C
  unfold mm_b2 at hst
  split at hst
  · next y x r =>
    cases hst
    exact lv_iand (x := x) (y := y) (rest := r.map (mm_up b h0)) hx hb hd (go H locs ls hW hS hl)
  · cases hst
theorem ms_ior (C : mm_Cx D dA b h0 S p s m args meth c mi) (hW : mm_Wd D dA b h0 M H) (hS : va_S (mm_A h0) s.heap H locs) (hl : mm_lh b h0 ls L) (hs0 : s.heap.size + 1 = h0 + n0) (hn0 : n0 ≤ M.2.1) (hu0 : u0 ≤ M.2.2) {fr : mm_F} (hRc : fr.2.2.2.2.1 ≤ R.cells + n0) (hRs : fr.2.2.2.2.2 ≤ R.slots + u0) (hd : decode (mm_by mi) pc = .ok (.ior, 1)) (hst : mm_b2 (fun x y => x ||| y) pc L st M = some fr) (go : mm_Go p l e R s m args below meth c Q D dA b h0 n0 u0 fr) : W p l e R s m args below meth c H locs (M.2.1 - n0) (M.2.2 - u0) Q (F0 m pc ls (st.map (mm_up b h0))) := by
  obtain ⟨hx, hb, hml, hrt, hlk, hown, hts, hnx, hK, hini, hX, hbl, hh0⟩ := C
  unfold mm_b2 at hst
  split at hst
  · next y x r =>
    cases hst
    exact lv_ior (x := x) (y := y) (rest := r.map (mm_up b h0)) hx hb hd (go H locs ls hW hS hl)
  · cases hst
theorem ms_ixor (C : mm_Cx D dA b h0 S p s m args meth c mi) (hW : mm_Wd D dA b h0 M H) (hS : va_S (mm_A h0) s.heap H locs) (hl : mm_lh b h0 ls L) (hs0 : s.heap.size + 1 = h0 + n0) (hn0 : n0 ≤ M.2.1) (hu0 : u0 ≤ M.2.2) {fr : mm_F} (hRc : fr.2.2.2.2.1 ≤ R.cells + n0) (hRs : fr.2.2.2.2.2 ≤ R.slots + u0) (hd : decode (mm_by mi) pc = .ok (.ixor, 1)) (hst : mm_b2 (fun x y => x ^^^ y) pc L st M = some fr) (go : mm_Go p l e R s m args below meth c Q D dA b h0 n0 u0 fr) : W p l e R s m args below meth c H locs (M.2.1 - n0) (M.2.2 - u0) Q (F0 m pc ls (st.map (mm_up b h0))) := by
  obtain ⟨hx, hb, hml, hrt, hlk, hown, hts, hnx, hK, hini, hX, hbl, hh0⟩ := C
  unfold mm_b2 at hst
  split at hst
  · next y x r =>
    cases hst
    exact lv_ixor (x := x) (y := y) (rest := r.map (mm_up b h0)) hx hb hd (go H locs ls hW hS hl)
  · cases hst
theorem ms_ishl (C : mm_Cx D dA b h0 S p s m args meth c mi) (hW : mm_Wd D dA b h0 M H) (hS : va_S (mm_A h0) s.heap H locs) (hl : mm_lh b h0 ls L) (hs0 : s.heap.size + 1 = h0 + n0) (hn0 : n0 ≤ M.2.1) (hu0 : u0 ≤ M.2.2) {fr : mm_F} (hRc : fr.2.2.2.2.1 ≤ R.cells + n0) (hRs : fr.2.2.2.2.2 ≤ R.slots + u0) (hd : decode (mm_by mi) pc = .ok (.ishl, 1)) (hst : mm_b2 (fun x y => x <<< (y &&& 31)) pc L st M = some fr) (go : mm_Go p l e R s m args below meth c Q D dA b h0 n0 u0 fr) : W p l e R s m args below meth c H locs (M.2.1 - n0) (M.2.2 - u0) Q (F0 m pc ls (st.map (mm_up b h0))) := by
  obtain ⟨hx, hb, hml, hrt, hlk, hown, hts, hnx, hK, hini, hX, hbl, hh0⟩ := C
  unfold mm_b2 at hst
  split at hst
  · next y x r =>
    cases hst
    exact lv_ishl (x := x) (y := y) (rest := r.map (mm_up b h0)) hx hb hd (go H locs ls hW hS hl)
  · cases hst
theorem ms_ishr (C : mm_Cx D dA b h0 S p s m args meth c mi) (hW : mm_Wd D dA b h0 M H) (hS : va_S (mm_A h0) s.heap H locs) (hl : mm_lh b h0 ls L) (hs0 : s.heap.size + 1 = h0 + n0) (hn0 : n0 ≤ M.2.1) (hu0 : u0 ≤ M.2.2) {fr : mm_F} (hRc : fr.2.2.2.2.1 ≤ R.cells + n0) (hRs : fr.2.2.2.2.2 ≤ R.slots + u0) (hd : decode (mm_by mi) pc = .ok (.ishr, 1)) (hst : mm_b2 (fun x y => x >>> (y &&& 31)) pc L st M = some fr) (go : mm_Go p l e R s m args below meth c Q D dA b h0 n0 u0 fr) : W p l e R s m args below meth c H locs (M.2.1 - n0) (M.2.2 - u0) Q (F0 m pc ls (st.map (mm_up b h0))) := by
  obtain ⟨hx, hb, hml, hrt, hlk, hown, hts, hnx, hK, hini, hX, hbl, hh0⟩ := C
  unfold mm_b2 at hst
  split at hst
  · next y x r =>
    cases hst
    exact lv_ishr (x := x) (y := y) (rest := r.map (mm_up b h0)) hx hb hd (go H locs ls hW hS hl)
  · cases hst
theorem ms_iushr (C : mm_Cx D dA b h0 S p s m args meth c mi) (hW : mm_Wd D dA b h0 M H) (hS : va_S (mm_A h0) s.heap H locs) (hl : mm_lh b h0 ls L) (hs0 : s.heap.size + 1 = h0 + n0) (hn0 : n0 ≤ M.2.1) (hu0 : u0 ≤ M.2.2) {fr : mm_F} (hRc : fr.2.2.2.2.1 ≤ R.cells + n0) (hRs : fr.2.2.2.2.2 ≤ R.slots + u0) (hd : decode (mm_by mi) pc = .ok (.iushr, 1)) (hst : mm_b2 (fun x y => (x.toUInt32 >>> (y.toUInt32 &&& Int32.toUInt32 31)).toInt32) pc L st M = some fr) (go : mm_Go p l e R s m args below meth c Q D dA b h0 n0 u0 fr) : W p l e R s m args below meth c H locs (M.2.1 - n0) (M.2.2 - u0) Q (F0 m pc ls (st.map (mm_up b h0))) := by
  obtain ⟨hx, hb, hml, hrt, hlk, hown, hts, hnx, hK, hini, hX, hbl, hh0⟩ := C
  unfold mm_b2 at hst
  split at hst
  · next y x r =>
    cases hst
    exact lv_iushr (x := x) (y := y) (rest := r.map (mm_up b h0)) hx hb hd rfl (go H locs ls hW hS hl)
  · cases hst
theorem ms_idiv (C : mm_Cx D dA b h0 S p s m args meth c mi) (hW : mm_Wd D dA b h0 M H) (hS : va_S (mm_A h0) s.heap H locs) (hl : mm_lh b h0 ls L) (hs0 : s.heap.size + 1 = h0 + n0) (hn0 : n0 ≤ M.2.1) (hu0 : u0 ≤ M.2.2) {fr : mm_F} (hRc : fr.2.2.2.2.1 ≤ R.cells + n0) (hRs : fr.2.2.2.2.2 ≤ R.slots + u0) (hd : decode (mm_by mi) pc = .ok (.idiv, 1)) (hst : mm_b3 (fun x y => x / y) pc L st M = some fr) (go : mm_Go p l e R s m args below meth c Q D dA b h0 n0 u0 fr) : W p l e R s m args below meth c H locs (M.2.1 - n0) (M.2.2 - u0) Q (F0 m pc ls (st.map (mm_up b h0))) := by
  obtain ⟨hx, hb, hml, hrt, hlk, hown, hts, hnx, hK, hini, hX, hbl, hh0⟩ := C
  unfold mm_b3 at hst
  split at hst
  · next y x r =>
    split at hst
    · cases hst
    · next hne =>
      cases hst
      exact lv_idiv (x := x) (y := y) (rest := r.map (mm_up b h0)) hx hb hd hne (go H locs ls hW hS hl)
  · cases hst
theorem ms_irem (C : mm_Cx D dA b h0 S p s m args meth c mi) (hW : mm_Wd D dA b h0 M H) (hS : va_S (mm_A h0) s.heap H locs) (hl : mm_lh b h0 ls L) (hs0 : s.heap.size + 1 = h0 + n0) (hn0 : n0 ≤ M.2.1) (hu0 : u0 ≤ M.2.2) {fr : mm_F} (hRc : fr.2.2.2.2.1 ≤ R.cells + n0) (hRs : fr.2.2.2.2.2 ≤ R.slots + u0) (hd : decode (mm_by mi) pc = .ok (.irem, 1)) (hst : mm_b3 (fun x y => x - x / y * y) pc L st M = some fr) (go : mm_Go p l e R s m args below meth c Q D dA b h0 n0 u0 fr) : W p l e R s m args below meth c H locs (M.2.1 - n0) (M.2.2 - u0) Q (F0 m pc ls (st.map (mm_up b h0))) := by
  obtain ⟨hx, hb, hml, hrt, hlk, hown, hts, hnx, hK, hini, hX, hbl, hh0⟩ := C
  unfold mm_b3 at hst
  split at hst
  · next y x r =>
    split at hst
    · cases hst
    · next hne =>
      cases hst
      exact lv_irem (x := x) (y := y) (rest := r.map (mm_up b h0)) hx hb hd hne (go H locs ls hW hS hl)
  · cases hst
theorem ms_iload_n (C : mm_Cx D dA b h0 S p s m args meth c mi) (hW : mm_Wd D dA b h0 M H) (hS : va_S (mm_A h0) s.heap H locs) (hl : mm_lh b h0 ls L) (hs0 : s.heap.size + 1 = h0 + n0) (hn0 : n0 ≤ M.2.1) (hu0 : u0 ≤ M.2.2) {fr : mm_F} (hRc : fr.2.2.2.2.1 ≤ R.cells + n0) (hRs : fr.2.2.2.2.2 ≤ R.slots + u0) {k : Fin 4} (hd : decode (mm_by mi) pc = .ok (.iload_n k, 1)) (hst : mm_ldi k.val 1 pc L st M = some fr) (go : mm_Go p l e R s m args below meth c Q D dA b h0 n0 u0 fr) : W p l e R s m args below meth c H locs (M.2.1 - n0) (M.2.2 - u0) Q (F0 m pc ls (st.map (mm_up b h0))) := by
  obtain ⟨hx, hb, hml, hrt, hlk, hown, hts, hnx, hK, hini, hX, hbl, hh0⟩ := C
  unfold mm_ldi at hst
  split at hst
  · next x hL =>
    cases hst
    exact lv_iload_n (x := x) (rest := st.map (mm_up b h0)) hx hb hd rfl (hl.2.2 _ _ hL).2 (go H locs ls hW hS hl)
  · cases hst
theorem ms_iload (C : mm_Cx D dA b h0 S p s m args meth c mi) (hW : mm_Wd D dA b h0 M H) (hS : va_S (mm_A h0) s.heap H locs) (hl : mm_lh b h0 ls L) (hs0 : s.heap.size + 1 = h0 + n0) (hn0 : n0 ≤ M.2.1) (hu0 : u0 ≤ M.2.2) {fr : mm_F} (hRc : fr.2.2.2.2.1 ≤ R.cells + n0) (hRs : fr.2.2.2.2.2 ≤ R.slots + u0) {k : Nat} (hd : decode (mm_by mi) pc = .ok (.iload k, 2)) (hst : mm_ldi k 2 pc L st M = some fr) (go : mm_Go p l e R s m args below meth c Q D dA b h0 n0 u0 fr) : W p l e R s m args below meth c H locs (M.2.1 - n0) (M.2.2 - u0) Q (F0 m pc ls (st.map (mm_up b h0))) := by
  obtain ⟨hx, hb, hml, hrt, hlk, hown, hts, hnx, hK, hini, hX, hbl, hh0⟩ := C
  unfold mm_ldi at hst
  split at hst
  · next x hL =>
    cases hst
    exact lv_iload (x := x) (rest := st.map (mm_up b h0)) hx hb hd (hl.2.2 _ _ hL).2 (go H locs ls hW hS hl)
  · cases hst
theorem ms_aload_n (C : mm_Cx D dA b h0 S p s m args meth c mi) (hW : mm_Wd D dA b h0 M H) (hS : va_S (mm_A h0) s.heap H locs) (hl : mm_lh b h0 ls L) (hs0 : s.heap.size + 1 = h0 + n0) (hn0 : n0 ≤ M.2.1) (hu0 : u0 ≤ M.2.2) {fr : mm_F} (hRc : fr.2.2.2.2.1 ≤ R.cells + n0) (hRs : fr.2.2.2.2.2 ≤ R.slots + u0) {k : Fin 4} (hd : decode (mm_by mi) pc = .ok (.aload_n k, 1)) (hst : mm_lda k.val 1 pc L st M = some fr) (go : mm_Go p l e R s m args below meth c Q D dA b h0 n0 u0 fr) : W p l e R s m args below meth c H locs (M.2.1 - n0) (M.2.2 - u0) Q (F0 m pc ls (st.map (mm_up b h0))) := by
  obtain ⟨hx, hb, hml, hrt, hlk, hown, hts, hnx, hK, hini, hX, hbl, hh0⟩ := C
  unfold mm_lda at hst
  split at hst
  · next x hL =>
    cases hst
    exact lv_aload_n (x := mm_ad b h0 x) (rest := st.map (mm_up b h0)) hx hb hd rfl (hl.2.2 _ _ hL).2 (go H locs ls hW hS hl)
  · cases hst
theorem ms_aload (C : mm_Cx D dA b h0 S p s m args meth c mi) (hW : mm_Wd D dA b h0 M H) (hS : va_S (mm_A h0) s.heap H locs) (hl : mm_lh b h0 ls L) (hs0 : s.heap.size + 1 = h0 + n0) (hn0 : n0 ≤ M.2.1) (hu0 : u0 ≤ M.2.2) {fr : mm_F} (hRc : fr.2.2.2.2.1 ≤ R.cells + n0) (hRs : fr.2.2.2.2.2 ≤ R.slots + u0) {k : Nat} (hd : decode (mm_by mi) pc = .ok (.aload k, 2)) (hst : mm_lda k 2 pc L st M = some fr) (go : mm_Go p l e R s m args below meth c Q D dA b h0 n0 u0 fr) : W p l e R s m args below meth c H locs (M.2.1 - n0) (M.2.2 - u0) Q (F0 m pc ls (st.map (mm_up b h0))) := by
  obtain ⟨hx, hb, hml, hrt, hlk, hown, hts, hnx, hK, hini, hX, hbl, hh0⟩ := C
  unfold mm_lda at hst
  split at hst
  · next x hL =>
    cases hst
    exact lv_aload (x := mm_ad b h0 x) (rest := st.map (mm_up b h0)) hx hb hd (hl.2.2 _ _ hL).2 (go H locs ls hW hS hl)
  · cases hst
theorem ms_istore_n (C : mm_Cx D dA b h0 S p s m args meth c mi) (hW : mm_Wd D dA b h0 M H) (hS : va_S (mm_A h0) s.heap H locs) (hl : mm_lh b h0 ls L) (hs0 : s.heap.size + 1 = h0 + n0) (hn0 : n0 ≤ M.2.1) (hu0 : u0 ≤ M.2.2) {fr : mm_F} (hRc : fr.2.2.2.2.1 ≤ R.cells + n0) (hRs : fr.2.2.2.2.2 ≤ R.slots + u0) {k : Fin 4} (hd : decode (mm_by mi) pc = .ok (.istore_n k, 1)) (hst : mm_sti k.val 1 pc L st M = some fr) (go : mm_Go p l e R s m args below meth c Q D dA b h0 n0 u0 fr) : W p l e R s m args below meth c H locs (M.2.1 - n0) (M.2.2 - u0) Q (F0 m pc ls (st.map (mm_up b h0))) := by
  obtain ⟨hx, hb, hml, hrt, hlk, hown, hts, hnx, hK, hini, hX, hbl, hh0⟩ := C
  unfold mm_sti at hst
  split at hst
  · next x r =>
    split at hst
    · next hk =>
      cases hst
      exact lv_istore_n (x := x) (rest := r.map (mm_up b h0)) hx hb hd rfl (mm_lh_has hl) hk rfl (fun ls' h' => go H locs ls' hW hS (mm_lh_set (x := .int x) hl rfl hk h'))
    · cases hst
  · cases hst
theorem ms_istore (C : mm_Cx D dA b h0 S p s m args meth c mi) (hW : mm_Wd D dA b h0 M H) (hS : va_S (mm_A h0) s.heap H locs) (hl : mm_lh b h0 ls L) (hs0 : s.heap.size + 1 = h0 + n0) (hn0 : n0 ≤ M.2.1) (hu0 : u0 ≤ M.2.2) {fr : mm_F} (hRc : fr.2.2.2.2.1 ≤ R.cells + n0) (hRs : fr.2.2.2.2.2 ≤ R.slots + u0) {k : Nat} (hd : decode (mm_by mi) pc = .ok (.istore k, 2)) (hst : mm_sti k 2 pc L st M = some fr) (go : mm_Go p l e R s m args below meth c Q D dA b h0 n0 u0 fr) : W p l e R s m args below meth c H locs (M.2.1 - n0) (M.2.2 - u0) Q (F0 m pc ls (st.map (mm_up b h0))) := by
  obtain ⟨hx, hb, hml, hrt, hlk, hown, hts, hnx, hK, hini, hX, hbl, hh0⟩ := C
  unfold mm_sti at hst
  split at hst
  · next x r =>
    split at hst
    · next hk =>
      cases hst
      exact lv_istore (x := x) (rest := r.map (mm_up b h0)) hx hb hd (mm_lh_has hl) hk rfl (fun ls' h' => go H locs ls' hW hS (mm_lh_set (x := .int x) hl rfl hk h'))
    · cases hst
  · cases hst
theorem ms_astore_n (C : mm_Cx D dA b h0 S p s m args meth c mi) (hW : mm_Wd D dA b h0 M H) (hS : va_S (mm_A h0) s.heap H locs) (hl : mm_lh b h0 ls L) (hs0 : s.heap.size + 1 = h0 + n0) (hn0 : n0 ≤ M.2.1) (hu0 : u0 ≤ M.2.2) {fr : mm_F} (hRc : fr.2.2.2.2.1 ≤ R.cells + n0) (hRs : fr.2.2.2.2.2 ≤ R.slots + u0) {k : Fin 4} (hd : decode (mm_by mi) pc = .ok (.astore_n k, 1)) (hst : mm_sta k.val 1 pc L st M = some fr) (go : mm_Go p l e R s m args below meth c Q D dA b h0 n0 u0 fr) : W p l e R s m args below meth c H locs (M.2.1 - n0) (M.2.2 - u0) Q (F0 m pc ls (st.map (mm_up b h0))) := by
  obtain ⟨hx, hb, hml, hrt, hlk, hown, hts, hnx, hK, hini, hX, hbl, hh0⟩ := C
  unfold mm_sta at hst
  split at hst
  · next x r =>
    split at hst
    · next hk =>
      cases hst
      exact lv_astore_n (x := mm_ad b h0 x) (rest := r.map (mm_up b h0)) hx hb hd rfl (mm_lh_has hl) hk rfl (fun ls' h' => go H locs ls' hW hS (mm_lh_set (x := .ref x) hl rfl hk h'))
    · cases hst
  · cases hst
theorem ms_astore (C : mm_Cx D dA b h0 S p s m args meth c mi) (hW : mm_Wd D dA b h0 M H) (hS : va_S (mm_A h0) s.heap H locs) (hl : mm_lh b h0 ls L) (hs0 : s.heap.size + 1 = h0 + n0) (hn0 : n0 ≤ M.2.1) (hu0 : u0 ≤ M.2.2) {fr : mm_F} (hRc : fr.2.2.2.2.1 ≤ R.cells + n0) (hRs : fr.2.2.2.2.2 ≤ R.slots + u0) {k : Nat} (hd : decode (mm_by mi) pc = .ok (.astore k, 2)) (hst : mm_sta k 2 pc L st M = some fr) (go : mm_Go p l e R s m args below meth c Q D dA b h0 n0 u0 fr) : W p l e R s m args below meth c H locs (M.2.1 - n0) (M.2.2 - u0) Q (F0 m pc ls (st.map (mm_up b h0))) := by
  obtain ⟨hx, hb, hml, hrt, hlk, hown, hts, hnx, hK, hini, hX, hbl, hh0⟩ := C
  unfold mm_sta at hst
  split at hst
  · next x r =>
    split at hst
    · next hk =>
      cases hst
      exact lv_astore (x := mm_ad b h0 x) (rest := r.map (mm_up b h0)) hx hb hd (mm_lh_has hl) hk rfl (fun ls' h' => go H locs ls' hW hS (mm_lh_set (x := .ref x) hl rfl hk h'))
    · cases hst
  · cases hst
theorem ms_iinc (C : mm_Cx D dA b h0 S p s m args meth c mi) (hW : mm_Wd D dA b h0 M H) (hS : va_S (mm_A h0) s.heap H locs) (hl : mm_lh b h0 ls L) (hs0 : s.heap.size + 1 = h0 + n0) (hn0 : n0 ≤ M.2.1) (hu0 : u0 ≤ M.2.2) {fr : mm_F} (hRc : fr.2.2.2.2.1 ≤ R.cells + n0) (hRs : fr.2.2.2.2.2 ≤ R.slots + u0) {k : Nat} {n : Int} (hd : decode (mm_by mi) pc = .ok (.iinc k n, 3)) (hst : mm_inc k n pc L st M = some fr) (go : mm_Go p l e R s m args below meth c Q D dA b h0 n0 u0 fr) : W p l e R s m args below meth c H locs (M.2.1 - n0) (M.2.2 - u0) Q (F0 m pc ls (st.map (mm_up b h0))) := by
  obtain ⟨hx, hb, hml, hrt, hlk, hown, hts, hnx, hK, hini, hX, hbl, hh0⟩ := C
  unfold mm_inc at hst
  split at hst
  · next x hL =>
    cases hst
    obtain ⟨j, hj⟩ := List.getElem?_of_mem (mm_pr_mem (b := b) (h0 := h0) hL)
    have hk : k < L.length := (List.getElem?_eq_some_iff.mp hL).1
    exact lv_iinc (x := x) (rest := st.map (mm_up b h0)) hx hb hd (mm_lh_has hl) hj rfl hk rfl (fun ls' h' => go H locs ls' hW hS (mm_lh_set (x := .int (x + Int32.ofInt n)) hl rfl hk h'))
  · cases hst
theorem ms_icmp_eq (C : mm_Cx D dA b h0 S p s m args meth c mi) (hW : mm_Wd D dA b h0 M H) (hS : va_S (mm_A h0) s.heap H locs) (hl : mm_lh b h0 ls L) (hs0 : s.heap.size + 1 = h0 + n0) (hn0 : n0 ≤ M.2.1) (hu0 : u0 ≤ M.2.2) {fr : mm_F} (hRc : fr.2.2.2.2.1 ≤ R.cells + n0) (hRs : fr.2.2.2.2.2 ≤ R.slots + u0) {off : Int} (hd : decode (mm_by mi) pc = .ok (.if_icmp .eq off, 3)) {x y : Int32} (hst : mm_br (mm_cc .eq x y) off pc L st M = some fr) (go : mm_Go p l e R s m args below meth c Q D dA b h0 n0 u0 fr) : W p l e R s m args below meth c H locs (M.2.1 - n0) (M.2.2 - u0) Q (F0 m pc ls ((.int y :: .int x :: st).map (mm_up b h0))) := by
  obtain ⟨hx, hb, hml, hrt, hlk, hown, hts, hnx, hK, hini, hX, hbl, hh0⟩ := C
  unfold mm_br at hst
  split at hst
  · next t ht =>
    refine lv_icmp_eq (x := x) (y := y) (tgt := t) (rest := st.map (mm_up b h0)) hx hb hd (mm_tg_spec ht) (fun h => ?_) (fun h => ?_)
    · have hc : mm_cc .eq x y = true := decide_eq_true h
      rw [hc] at hst
      cases hst
      exact go H locs ls hW hS hl
    · have hc : mm_cc .eq x y = false := decide_eq_false h
      rw [hc] at hst
      cases hst
      exact go H locs ls hW hS hl
  · cases hst
theorem ms_if_eq (C : mm_Cx D dA b h0 S p s m args meth c mi) (hW : mm_Wd D dA b h0 M H) (hS : va_S (mm_A h0) s.heap H locs) (hl : mm_lh b h0 ls L) (hs0 : s.heap.size + 1 = h0 + n0) (hn0 : n0 ≤ M.2.1) (hu0 : u0 ≤ M.2.2) {fr : mm_F} (hRc : fr.2.2.2.2.1 ≤ R.cells + n0) (hRs : fr.2.2.2.2.2 ≤ R.slots + u0) {off : Int} (hd : decode (mm_by mi) pc = .ok (.ifCond .eq off, 3)) {x : Int32} (hst : mm_br (mm_cc .eq x 0) off pc L st M = some fr) (go : mm_Go p l e R s m args below meth c Q D dA b h0 n0 u0 fr) : W p l e R s m args below meth c H locs (M.2.1 - n0) (M.2.2 - u0) Q (F0 m pc ls ((.int x :: st).map (mm_up b h0))) := by
  obtain ⟨hx, hb, hml, hrt, hlk, hown, hts, hnx, hK, hini, hX, hbl, hh0⟩ := C
  unfold mm_br at hst
  split at hst
  · next t ht =>
    refine lv_if_eq (x := x) (tgt := t) (rest := st.map (mm_up b h0)) hx hb hd (mm_tg_spec ht) (fun h => ?_) (fun h => ?_)
    · have hc : mm_cc .eq x 0 = true := decide_eq_true h
      rw [hc] at hst
      cases hst
      exact go H locs ls hW hS hl
    · have hc : mm_cc .eq x 0 = false := decide_eq_false h
      rw [hc] at hst
      cases hst
      exact go H locs ls hW hS hl
  · cases hst
theorem ms_icmp_ne (C : mm_Cx D dA b h0 S p s m args meth c mi) (hW : mm_Wd D dA b h0 M H) (hS : va_S (mm_A h0) s.heap H locs) (hl : mm_lh b h0 ls L) (hs0 : s.heap.size + 1 = h0 + n0) (hn0 : n0 ≤ M.2.1) (hu0 : u0 ≤ M.2.2) {fr : mm_F} (hRc : fr.2.2.2.2.1 ≤ R.cells + n0) (hRs : fr.2.2.2.2.2 ≤ R.slots + u0) {off : Int} (hd : decode (mm_by mi) pc = .ok (.if_icmp .ne off, 3)) {x y : Int32} (hst : mm_br (mm_cc .ne x y) off pc L st M = some fr) (go : mm_Go p l e R s m args below meth c Q D dA b h0 n0 u0 fr) : W p l e R s m args below meth c H locs (M.2.1 - n0) (M.2.2 - u0) Q (F0 m pc ls ((.int y :: .int x :: st).map (mm_up b h0))) := by
  obtain ⟨hx, hb, hml, hrt, hlk, hown, hts, hnx, hK, hini, hX, hbl, hh0⟩ := C
  unfold mm_br at hst
  split at hst
  · next t ht =>
    refine lv_icmp_ne (x := x) (y := y) (tgt := t) (rest := st.map (mm_up b h0)) hx hb hd (mm_tg_spec ht) (fun h => ?_) (fun h => ?_)
    · have hc : mm_cc .ne x y = true := decide_eq_true h
      rw [hc] at hst
      cases hst
      exact go H locs ls hW hS hl
    · have hc : mm_cc .ne x y = false := decide_eq_false (fun q => q h)
      rw [hc] at hst
      cases hst
      exact go H locs ls hW hS hl
  · cases hst
theorem ms_if_ne (C : mm_Cx D dA b h0 S p s m args meth c mi) (hW : mm_Wd D dA b h0 M H) (hS : va_S (mm_A h0) s.heap H locs) (hl : mm_lh b h0 ls L) (hs0 : s.heap.size + 1 = h0 + n0) (hn0 : n0 ≤ M.2.1) (hu0 : u0 ≤ M.2.2) {fr : mm_F} (hRc : fr.2.2.2.2.1 ≤ R.cells + n0) (hRs : fr.2.2.2.2.2 ≤ R.slots + u0) {off : Int} (hd : decode (mm_by mi) pc = .ok (.ifCond .ne off, 3)) {x : Int32} (hst : mm_br (mm_cc .ne x 0) off pc L st M = some fr) (go : mm_Go p l e R s m args below meth c Q D dA b h0 n0 u0 fr) : W p l e R s m args below meth c H locs (M.2.1 - n0) (M.2.2 - u0) Q (F0 m pc ls ((.int x :: st).map (mm_up b h0))) := by
  obtain ⟨hx, hb, hml, hrt, hlk, hown, hts, hnx, hK, hini, hX, hbl, hh0⟩ := C
  unfold mm_br at hst
  split at hst
  · next t ht =>
    refine lv_if_ne (x := x) (tgt := t) (rest := st.map (mm_up b h0)) hx hb hd (mm_tg_spec ht) (fun h => ?_) (fun h => ?_)
    · have hc : mm_cc .ne x 0 = true := decide_eq_true h
      rw [hc] at hst
      cases hst
      exact go H locs ls hW hS hl
    · have hc : mm_cc .ne x 0 = false := decide_eq_false (fun q => q h)
      rw [hc] at hst
      cases hst
      exact go H locs ls hW hS hl
  · cases hst
theorem ms_icmp_lt (C : mm_Cx D dA b h0 S p s m args meth c mi) (hW : mm_Wd D dA b h0 M H) (hS : va_S (mm_A h0) s.heap H locs) (hl : mm_lh b h0 ls L) (hs0 : s.heap.size + 1 = h0 + n0) (hn0 : n0 ≤ M.2.1) (hu0 : u0 ≤ M.2.2) {fr : mm_F} (hRc : fr.2.2.2.2.1 ≤ R.cells + n0) (hRs : fr.2.2.2.2.2 ≤ R.slots + u0) {off : Int} (hd : decode (mm_by mi) pc = .ok (.if_icmp .lt off, 3)) {x y : Int32} (hst : mm_br (mm_cc .lt x y) off pc L st M = some fr) (go : mm_Go p l e R s m args below meth c Q D dA b h0 n0 u0 fr) : W p l e R s m args below meth c H locs (M.2.1 - n0) (M.2.2 - u0) Q (F0 m pc ls ((.int y :: .int x :: st).map (mm_up b h0))) := by
  obtain ⟨hx, hb, hml, hrt, hlk, hown, hts, hnx, hK, hini, hX, hbl, hh0⟩ := C
  unfold mm_br at hst
  split at hst
  · next t ht =>
    refine lv_icmp_lt (x := x) (y := y) (tgt := t) (rest := st.map (mm_up b h0)) hx hb hd (mm_tg_spec ht) (fun h => ?_) (fun h => ?_)
    · have hc : mm_cc .lt x y = true := decide_eq_true h
      rw [hc] at hst
      cases hst
      exact go H locs ls hW hS hl
    · have hc : mm_cc .lt x y = false := decide_eq_false h
      rw [hc] at hst
      cases hst
      exact go H locs ls hW hS hl
  · cases hst
theorem ms_if_lt (C : mm_Cx D dA b h0 S p s m args meth c mi) (hW : mm_Wd D dA b h0 M H) (hS : va_S (mm_A h0) s.heap H locs) (hl : mm_lh b h0 ls L) (hs0 : s.heap.size + 1 = h0 + n0) (hn0 : n0 ≤ M.2.1) (hu0 : u0 ≤ M.2.2) {fr : mm_F} (hRc : fr.2.2.2.2.1 ≤ R.cells + n0) (hRs : fr.2.2.2.2.2 ≤ R.slots + u0) {off : Int} (hd : decode (mm_by mi) pc = .ok (.ifCond .lt off, 3)) {x : Int32} (hst : mm_br (mm_cc .lt x 0) off pc L st M = some fr) (go : mm_Go p l e R s m args below meth c Q D dA b h0 n0 u0 fr) : W p l e R s m args below meth c H locs (M.2.1 - n0) (M.2.2 - u0) Q (F0 m pc ls ((.int x :: st).map (mm_up b h0))) := by
  obtain ⟨hx, hb, hml, hrt, hlk, hown, hts, hnx, hK, hini, hX, hbl, hh0⟩ := C
  unfold mm_br at hst
  split at hst
  · next t ht =>
    refine lv_if_lt (x := x) (tgt := t) (rest := st.map (mm_up b h0)) hx hb hd (mm_tg_spec ht) (fun h => ?_) (fun h => ?_)
    · have hc : mm_cc .lt x 0 = true := decide_eq_true h
      rw [hc] at hst
      cases hst
      exact go H locs ls hW hS hl
    · have hc : mm_cc .lt x 0 = false := decide_eq_false h
      rw [hc] at hst
      cases hst
      exact go H locs ls hW hS hl
  · cases hst
theorem ms_icmp_ge (C : mm_Cx D dA b h0 S p s m args meth c mi) (hW : mm_Wd D dA b h0 M H) (hS : va_S (mm_A h0) s.heap H locs) (hl : mm_lh b h0 ls L) (hs0 : s.heap.size + 1 = h0 + n0) (hn0 : n0 ≤ M.2.1) (hu0 : u0 ≤ M.2.2) {fr : mm_F} (hRc : fr.2.2.2.2.1 ≤ R.cells + n0) (hRs : fr.2.2.2.2.2 ≤ R.slots + u0) {off : Int} (hd : decode (mm_by mi) pc = .ok (.if_icmp .ge off, 3)) {x y : Int32} (hst : mm_br (mm_cc .ge x y) off pc L st M = some fr) (go : mm_Go p l e R s m args below meth c Q D dA b h0 n0 u0 fr) : W p l e R s m args below meth c H locs (M.2.1 - n0) (M.2.2 - u0) Q (F0 m pc ls ((.int y :: .int x :: st).map (mm_up b h0))) := by
  obtain ⟨hx, hb, hml, hrt, hlk, hown, hts, hnx, hK, hini, hX, hbl, hh0⟩ := C
  unfold mm_br at hst
  split at hst
  · next t ht =>
    refine lv_icmp_ge (x := x) (y := y) (tgt := t) (rest := st.map (mm_up b h0)) hx hb hd (mm_tg_spec ht) (fun h => ?_) (fun h => ?_)
    · have hc : mm_cc .ge x y = true := decide_eq_true h
      rw [hc] at hst
      cases hst
      exact go H locs ls hW hS hl
    · have hc : mm_cc .ge x y = false := decide_eq_false h
      rw [hc] at hst
      cases hst
      exact go H locs ls hW hS hl
  · cases hst
theorem ms_if_ge (C : mm_Cx D dA b h0 S p s m args meth c mi) (hW : mm_Wd D dA b h0 M H) (hS : va_S (mm_A h0) s.heap H locs) (hl : mm_lh b h0 ls L) (hs0 : s.heap.size + 1 = h0 + n0) (hn0 : n0 ≤ M.2.1) (hu0 : u0 ≤ M.2.2) {fr : mm_F} (hRc : fr.2.2.2.2.1 ≤ R.cells + n0) (hRs : fr.2.2.2.2.2 ≤ R.slots + u0) {off : Int} (hd : decode (mm_by mi) pc = .ok (.ifCond .ge off, 3)) {x : Int32} (hst : mm_br (mm_cc .ge x 0) off pc L st M = some fr) (go : mm_Go p l e R s m args below meth c Q D dA b h0 n0 u0 fr) : W p l e R s m args below meth c H locs (M.2.1 - n0) (M.2.2 - u0) Q (F0 m pc ls ((.int x :: st).map (mm_up b h0))) := by
  obtain ⟨hx, hb, hml, hrt, hlk, hown, hts, hnx, hK, hini, hX, hbl, hh0⟩ := C
  unfold mm_br at hst
  split at hst
  · next t ht =>
    refine lv_if_ge (x := x) (tgt := t) (rest := st.map (mm_up b h0)) hx hb hd (mm_tg_spec ht) (fun h => ?_) (fun h => ?_)
    · have hc : mm_cc .ge x 0 = true := decide_eq_true h
      rw [hc] at hst
      cases hst
      exact go H locs ls hW hS hl
    · have hc : mm_cc .ge x 0 = false := decide_eq_false h
      rw [hc] at hst
      cases hst
      exact go H locs ls hW hS hl
  · cases hst
theorem ms_icmp_gt (C : mm_Cx D dA b h0 S p s m args meth c mi) (hW : mm_Wd D dA b h0 M H) (hS : va_S (mm_A h0) s.heap H locs) (hl : mm_lh b h0 ls L) (hs0 : s.heap.size + 1 = h0 + n0) (hn0 : n0 ≤ M.2.1) (hu0 : u0 ≤ M.2.2) {fr : mm_F} (hRc : fr.2.2.2.2.1 ≤ R.cells + n0) (hRs : fr.2.2.2.2.2 ≤ R.slots + u0) {off : Int} (hd : decode (mm_by mi) pc = .ok (.if_icmp .gt off, 3)) {x y : Int32} (hst : mm_br (mm_cc .gt x y) off pc L st M = some fr) (go : mm_Go p l e R s m args below meth c Q D dA b h0 n0 u0 fr) : W p l e R s m args below meth c H locs (M.2.1 - n0) (M.2.2 - u0) Q (F0 m pc ls ((.int y :: .int x :: st).map (mm_up b h0))) := by
  obtain ⟨hx, hb, hml, hrt, hlk, hown, hts, hnx, hK, hini, hX, hbl, hh0⟩ := C
  unfold mm_br at hst
  split at hst
  · next t ht =>
    refine lv_icmp_gt (x := x) (y := y) (tgt := t) (rest := st.map (mm_up b h0)) hx hb hd (mm_tg_spec ht) (fun h => ?_) (fun h => ?_)
    · have hc : mm_cc .gt x y = true := decide_eq_true h
      rw [hc] at hst
      cases hst
      exact go H locs ls hW hS hl
    · have hc : mm_cc .gt x y = false := decide_eq_false h
      rw [hc] at hst
      cases hst
      exact go H locs ls hW hS hl
  · cases hst
theorem ms_if_gt (C : mm_Cx D dA b h0 S p s m args meth c mi) (hW : mm_Wd D dA b h0 M H) (hS : va_S (mm_A h0) s.heap H locs) (hl : mm_lh b h0 ls L) (hs0 : s.heap.size + 1 = h0 + n0) (hn0 : n0 ≤ M.2.1) (hu0 : u0 ≤ M.2.2) {fr : mm_F} (hRc : fr.2.2.2.2.1 ≤ R.cells + n0) (hRs : fr.2.2.2.2.2 ≤ R.slots + u0) {off : Int} (hd : decode (mm_by mi) pc = .ok (.ifCond .gt off, 3)) {x : Int32} (hst : mm_br (mm_cc .gt x 0) off pc L st M = some fr) (go : mm_Go p l e R s m args below meth c Q D dA b h0 n0 u0 fr) : W p l e R s m args below meth c H locs (M.2.1 - n0) (M.2.2 - u0) Q (F0 m pc ls ((.int x :: st).map (mm_up b h0))) := by
  obtain ⟨hx, hb, hml, hrt, hlk, hown, hts, hnx, hK, hini, hX, hbl, hh0⟩ := C
  unfold mm_br at hst
  split at hst
  · next t ht =>
    refine lv_if_gt (x := x) (tgt := t) (rest := st.map (mm_up b h0)) hx hb hd (mm_tg_spec ht) (fun h => ?_) (fun h => ?_)
    · have hc : mm_cc .gt x 0 = true := decide_eq_true h
      rw [hc] at hst
      cases hst
      exact go H locs ls hW hS hl
    · have hc : mm_cc .gt x 0 = false := decide_eq_false h
      rw [hc] at hst
      cases hst
      exact go H locs ls hW hS hl
  · cases hst
theorem ms_icmp_le (C : mm_Cx D dA b h0 S p s m args meth c mi) (hW : mm_Wd D dA b h0 M H) (hS : va_S (mm_A h0) s.heap H locs) (hl : mm_lh b h0 ls L) (hs0 : s.heap.size + 1 = h0 + n0) (hn0 : n0 ≤ M.2.1) (hu0 : u0 ≤ M.2.2) {fr : mm_F} (hRc : fr.2.2.2.2.1 ≤ R.cells + n0) (hRs : fr.2.2.2.2.2 ≤ R.slots + u0) {off : Int} (hd : decode (mm_by mi) pc = .ok (.if_icmp .le off, 3)) {x y : Int32} (hst : mm_br (mm_cc .le x y) off pc L st M = some fr) (go : mm_Go p l e R s m args below meth c Q D dA b h0 n0 u0 fr) : W p l e R s m args below meth c H locs (M.2.1 - n0) (M.2.2 - u0) Q (F0 m pc ls ((.int y :: .int x :: st).map (mm_up b h0))) := by
  obtain ⟨hx, hb, hml, hrt, hlk, hown, hts, hnx, hK, hini, hX, hbl, hh0⟩ := C
  unfold mm_br at hst
  split at hst
  · next t ht =>
    refine lv_icmp_le (x := x) (y := y) (tgt := t) (rest := st.map (mm_up b h0)) hx hb hd (mm_tg_spec ht) (fun h => ?_) (fun h => ?_)
    · have hc : mm_cc .le x y = true := decide_eq_true h
      rw [hc] at hst
      cases hst
      exact go H locs ls hW hS hl
    · have hc : mm_cc .le x y = false := decide_eq_false h
      rw [hc] at hst
      cases hst
      exact go H locs ls hW hS hl
  · cases hst
theorem ms_if_le (C : mm_Cx D dA b h0 S p s m args meth c mi) (hW : mm_Wd D dA b h0 M H) (hS : va_S (mm_A h0) s.heap H locs) (hl : mm_lh b h0 ls L) (hs0 : s.heap.size + 1 = h0 + n0) (hn0 : n0 ≤ M.2.1) (hu0 : u0 ≤ M.2.2) {fr : mm_F} (hRc : fr.2.2.2.2.1 ≤ R.cells + n0) (hRs : fr.2.2.2.2.2 ≤ R.slots + u0) {off : Int} (hd : decode (mm_by mi) pc = .ok (.ifCond .le off, 3)) {x : Int32} (hst : mm_br (mm_cc .le x 0) off pc L st M = some fr) (go : mm_Go p l e R s m args below meth c Q D dA b h0 n0 u0 fr) : W p l e R s m args below meth c H locs (M.2.1 - n0) (M.2.2 - u0) Q (F0 m pc ls ((.int x :: st).map (mm_up b h0))) := by
  obtain ⟨hx, hb, hml, hrt, hlk, hown, hts, hnx, hK, hini, hX, hbl, hh0⟩ := C
  unfold mm_br at hst
  split at hst
  · next t ht =>
    refine lv_if_le (x := x) (tgt := t) (rest := st.map (mm_up b h0)) hx hb hd (mm_tg_spec ht) (fun h => ?_) (fun h => ?_)
    · have hc : mm_cc .le x 0 = true := decide_eq_true h
      rw [hc] at hst
      cases hst
      exact go H locs ls hW hS hl
    · have hc : mm_cc .le x 0 = false := decide_eq_false h
      rw [hc] at hst
      cases hst
      exact go H locs ls hW hS hl
  · cases hst
theorem ms_goto (C : mm_Cx D dA b h0 S p s m args meth c mi) (hW : mm_Wd D dA b h0 M H) (hS : va_S (mm_A h0) s.heap H locs) (hl : mm_lh b h0 ls L) (hs0 : s.heap.size + 1 = h0 + n0) (hn0 : n0 ≤ M.2.1) (hu0 : u0 ≤ M.2.2) {fr : mm_F} (hRc : fr.2.2.2.2.1 ≤ R.cells + n0) (hRs : fr.2.2.2.2.2 ≤ R.slots + u0) {off : Int} (hd : decode (mm_by mi) pc = .ok (.goto off, 3)) (hst : mm_br true off pc L st M = some fr) (go : mm_Go p l e R s m args below meth c Q D dA b h0 n0 u0 fr) : W p l e R s m args below meth c H locs (M.2.1 - n0) (M.2.2 - u0) Q (F0 m pc ls (st.map (mm_up b h0))) := by
  obtain ⟨hx, hb, hml, hrt, hlk, hown, hts, hnx, hK, hini, hX, hbl, hh0⟩ := C
  unfold mm_br at hst
  split at hst
  · next t ht =>
    cases hst
    exact lv_goto (tgt := t) (rest := st.map (mm_up b h0)) hx hb hd (mm_tg_spec ht) (go H locs ls hW hS hl)
  · cases hst
theorem ms_ts (C : mm_Cx D dA b h0 S p s m args meth c mi) (hW : mm_Wd D dA b h0 M H) (hS : va_S (mm_A h0) s.heap H locs) (hl : mm_lh b h0 ls L) (hs0 : s.heap.size + 1 = h0 + n0) (hn0 : n0 ≤ M.2.1) (hu0 : u0 ≤ M.2.2) {fr : mm_F} (hRc : fr.2.2.2.2.1 ≤ R.cells + n0) (hRs : fr.2.2.2.2.2 ≤ R.slots + u0) {d lo hi : Int} {offs : Array Int} {len : Nat} (hd : decode (mm_by mi) pc = .ok (.tableswitch d lo hi offs, len)) (hst : mm_ts d lo hi offs pc L st M = some fr) (go : mm_Go p l e R s m args below meth c Q D dA b h0 n0 u0 fr) : W p l e R s m args below meth c H locs (M.2.1 - n0) (M.2.2 - u0) Q (F0 m pc ls (st.map (mm_up b h0))) := by
  obtain ⟨hx, hb, hml, hrt, hlk, hown, hts, hnx, hK, hini, hX, hbl, hh0⟩ := C
  unfold mm_ts at hst
  split at hst
  · next x r =>
    split at hst
    · next ho =>
      split at hst
      · next t ht =>
        cases hst
        exact lv_tableOut (x := x) (tgt := t) (rest := r.map (mm_up b h0)) hx hb hd ho (mm_tg_spec ht) (go H locs ls hW hS hl)
      · cases hst
    · next ho =>
      split at hst
      · next off hoff =>
        split at hst
        · next t ht =>
          cases hst
          exact lv_tableIn (x := x) (tgt := t) (rest := r.map (mm_up b h0)) hx hb hd (fun q => ho (Or.inl q)) (fun q => ho (Or.inr q)) hoff (mm_tg_spec ht) (go H locs ls hW hS hl)
        · cases hst
      · cases hst
  · cases hst
theorem ms_lw (C : mm_Cx D dA b h0 S p s m args meth c mi) (hW : mm_Wd D dA b h0 M H) (hS : va_S (mm_A h0) s.heap H locs) (hl : mm_lh b h0 ls L) (hs0 : s.heap.size + 1 = h0 + n0) (hn0 : n0 ≤ M.2.1) (hu0 : u0 ≤ M.2.2) {fr : mm_F} (hRc : fr.2.2.2.2.1 ≤ R.cells + n0) (hRs : fr.2.2.2.2.2 ≤ R.slots + u0) {d : Int} {ps : Array (Int × Int)} {len : Nat} (hd : decode (mm_by mi) pc = .ok (.lookupswitch d ps, len)) (hst : mm_lw d ps pc L st M = some fr) (go : mm_Go p l e R s m args below meth c Q D dA b h0 n0 u0 fr) : W p l e R s m args below meth c H locs (M.2.1 - n0) (M.2.2 - u0) Q (F0 m pc ls (st.map (mm_up b h0))) := by
  obtain ⟨hx, hb, hml, hrt, hlk, hown, hts, hnx, hK, hini, hX, hbl, hh0⟩ := C
  unfold mm_lw at hst
  split at hst
  · next x r =>
    split at hst
    · next ho =>
      split at hst
      · next t ht =>
        cases hst
        exact lv_lookup (x := x) (tgt := t) (rest := r.map (mm_up b h0)) hx hb hd ho rfl (mm_tg_spec ht) (go H locs ls hW hS hl)
      · cases hst
    · cases hst
  · cases hst
end MMS
end
section
theorem mm_df_P : ∀ c, c < 13 → (mm_df c).all (fun v => match v with | .ref _ => false | _ => true) = true := by decide +kernel
theorem mm_df_up (b h0 ci : Nat) (h : ci < 13) : (mm_df ci).map (mm_up b h0) = mm_df ci := by
  have h1 := List.all_eq_true.mp (mm_df_P ci h)
  rw [List.map_congr_left (g := id) (fun v hv => ?_), List.map_id]
  have h2 := h1 v hv
  cases v <;> first | rfl | cases h2
theorem mm_ft_ok {o k ci j q : Nat} (h : mm_l2 mm_fT o k = some (ci, j, q)) : (.fieldLink (mm_cn o) k (mm_cn ci) (mm_T ci j).2.1 (mm_T ci j).2.2.1 : Cond) ∈ mm_tb ∧ j < mm_N ci ∧ ci < 13 ∧ (mm_T ci j).1 = mm_cn ci := by
  have h1 := List.all_eq_true.mp mm_fok_all _ (mm_l2_mem h)
  unfold mm_fok at h1
  rw [Bool.and_eq_true] at h1
  have h2 := of_decide_eq_true h1.2
  exact ⟨mm_at_mem h1.1 rfl, h2.1, h2.2.1, h2.2.2⟩
theorem mm_nt_ok {o k ci q : Nat} (h : mm_l2 mm_nT o k = some (ci, q)) : (.classLink (mm_cn o) k (mm_cn ci) : Cond) ∈ mm_tb ∧ ci < 13 := by
  have h1 := List.all_eq_true.mp mm_nok_all _ (mm_l2_mem h)
  unfold mm_nok at h1
  rw [Bool.and_eq_true] at h1
  exact ⟨mm_at_mem h1.1 rfl, of_decide_eq_true h1.2⟩
theorem mm_at_ok {o k t q r : Nat} (h : mm_l2 mm_aT o k = some (t, q, r)) : ∃ ci, mm_tc t = some ci ∧ (.classLink (mm_cn o) k (mm_cn ci) : Cond) ∈ mm_tb ∧ (.arrayOver (.object (mm_cn ci)) : Cond) ∈ lw_tbl := by
  have h1 := List.all_eq_true.mp mm_aok_all _ (mm_l2_mem h)
  unfold mm_aok at h1
  split at h1
  · next ci hc =>
    rw [Bool.and_eq_true] at h1
    exact ⟨ci, hc, mm_at_mem h1.1 rfl, mm_at_in h1.2⟩
  · cases h1
theorem mm_ct_ok {o k q : Nat} {v : Int32} (h : mm_l2 mm_cT o k = some (v, q)) : (.constant (mm_cn o) k v : Cond) ∈ mm_tb := mm_at_mem (List.all_eq_true.mp mm_cok_all _ (mm_l2_mem h)) rfl
theorem mm_cl_ok {ci : Nat} (h : ci < 13) : mm_clP ci := ce_13 ci h
theorem mm_fit_ok {ty : FieldType} {v : Value} (b h0 : Nat) (h : mm_fit ty v = true) : narrow ty (mm_up b h0 v) = mm_up b h0 v ∧ fits ty (mm_up b h0 v) = true := by
  unfold mm_fit at h
  split at h
  · next x =>
    rcases of_decide_eq_true h with rfl | rfl
    · exact ⟨by rfl, by rfl⟩
    · exact ⟨by rfl, by rfl⟩
  · exact ⟨rfl, rfl⟩
  · exact ⟨rfl, rfl⟩
  · exact ⟨rfl, rfl⟩
  · cases h
theorem mm_uE_i (dA : Nat → ClassId) (b h0 t n : Nat) (f : Nat → Int32) : mm_uE dA b h0 (.inl (t, n, .inl f)) = .inl (dA t, n, .inl f) := rfl
theorem mm_uE_q (dA : Nat → ClassId) (b h0 t n : Nat) (f : Nat → Option Nat) : mm_uE dA b h0 (.inl (t, n, .inr (.inr (.inr (.inr f))))) = .inl (dA t, n, .inr (.inr (.inr (.inr (fun j => (f j).map (mm_ad b h0)))))) := rfl
theorem mm_uE_o (dA : Nat → ClassId) (b h0 ci : Nat) (fs : List Value) : mm_uE dA b h0 (.inr (ci, fs)) = .inr (ci, fs.map (mm_up b h0)) := rfl
theorem mm_uE_a (dA : Nat → ClassId) (b h0 t n : Nat) (z : (Nat → Int32) ⊕ (Nat → Int64) ⊕ (Nat → UInt32) ⊕ (Nat → UInt64) ⊕ (Nat → Option Nat)) : ∃ z', mm_uE dA b h0 (.inl (t, n, z)) = .inl (dA t, n, z') := by
  rcases z with f | f | f | f | f
  · exact ⟨_, rfl⟩
  · exact ⟨_, rfl⟩
  · exact ⟨_, rfl⟩
  · exact ⟨_, rfl⟩
  · exact ⟨_, rfl⟩
section MMT
variable {p : Program} {l : Launch} {e : Env} {R : Room} {s : State} {m : MethodId} {args : Array Value} {below : List Frame} {meth : Method} {c : Code} {H : Heap} {locs : List Loc} {Q : State → Prop} {D : va_G} {dA : Nat → ClassId} {b h0 : Nat} {S : mm_S} {mi pc n0 u0 : Nat} {ls : Array Slot} {L : mm_L} {st : List Value} {M : mm_M}
theorem ms_iconst (C : mm_Cx D dA b h0 S p s m args meth c mi) (hW : mm_Wd D dA b h0 M H) (hS : va_S (mm_A h0) s.heap H locs) (hl : mm_lh b h0 ls L) (hs0 : s.heap.size + 1 = h0 + n0) (hn0 : n0 ≤ M.2.1) (hu0 : u0 ≤ M.2.2) {fr : mm_F} (hRc : fr.2.2.2.2.1 ≤ R.cells + n0) (hRs : fr.2.2.2.2.2 ≤ R.slots + u0) {n : Int} (hd : decode (mm_by mi) pc = .ok (.iconst n, 1)) (hst : (some (pc + 1, L, .int (Int32.ofInt n) :: st, M) : Option mm_F) = some fr) (go : mm_Go p l e R s m args below meth c Q D dA b h0 n0 u0 fr) : W p l e R s m args below meth c H locs (M.2.1 - n0) (M.2.2 - u0) Q (F0 m pc ls (st.map (mm_up b h0))) := by
  obtain ⟨hx, hb, hml, hrt, hlk, hown, hts, hnx, hK, hini, hX, hbl, hh0⟩ := C
  cases hst
  exact lv_iconst (rest := st.map (mm_up b h0)) hx hb hd rfl (go H locs ls hW hS hl)
theorem ms_bipush (C : mm_Cx D dA b h0 S p s m args meth c mi) (hW : mm_Wd D dA b h0 M H) (hS : va_S (mm_A h0) s.heap H locs) (hl : mm_lh b h0 ls L) (hs0 : s.heap.size + 1 = h0 + n0) (hn0 : n0 ≤ M.2.1) (hu0 : u0 ≤ M.2.2) {fr : mm_F} (hRc : fr.2.2.2.2.1 ≤ R.cells + n0) (hRs : fr.2.2.2.2.2 ≤ R.slots + u0) {n : Int} (hd : decode (mm_by mi) pc = .ok (.bipush n, 2)) (hst : (some (pc + 2, L, .int (Int8.ofInt n).toInt32 :: st, M) : Option mm_F) = some fr) (go : mm_Go p l e R s m args below meth c Q D dA b h0 n0 u0 fr) : W p l e R s m args below meth c H locs (M.2.1 - n0) (M.2.2 - u0) Q (F0 m pc ls (st.map (mm_up b h0))) := by
  obtain ⟨hx, hb, hml, hrt, hlk, hown, hts, hnx, hK, hini, hX, hbl, hh0⟩ := C
  cases hst
  exact lv_bipush (rest := st.map (mm_up b h0)) hx hb hd rfl (go H locs ls hW hS hl)
theorem ms_sipush (C : mm_Cx D dA b h0 S p s m args meth c mi) (hW : mm_Wd D dA b h0 M H) (hS : va_S (mm_A h0) s.heap H locs) (hl : mm_lh b h0 ls L) (hs0 : s.heap.size + 1 = h0 + n0) (hn0 : n0 ≤ M.2.1) (hu0 : u0 ≤ M.2.2) {fr : mm_F} (hRc : fr.2.2.2.2.1 ≤ R.cells + n0) (hRs : fr.2.2.2.2.2 ≤ R.slots + u0) {n : Int} (hd : decode (mm_by mi) pc = .ok (.sipush n, 3)) (hst : (some (pc + 3, L, .int (Int16.ofInt n).toInt32 :: st, M) : Option mm_F) = some fr) (go : mm_Go p l e R s m args below meth c Q D dA b h0 n0 u0 fr) : W p l e R s m args below meth c H locs (M.2.1 - n0) (M.2.2 - u0) Q (F0 m pc ls (st.map (mm_up b h0))) := by
  obtain ⟨hx, hb, hml, hrt, hlk, hown, hts, hnx, hK, hini, hX, hbl, hh0⟩ := C
  cases hst
  exact lv_sipush (rest := st.map (mm_up b h0)) hx hb hd rfl (go H locs ls hW hS hl)
theorem ms_ldc (C : mm_Cx D dA b h0 S p s m args meth c mi) (hW : mm_Wd D dA b h0 M H) (hS : va_S (mm_A h0) s.heap H locs) (hl : mm_lh b h0 ls L) (hs0 : s.heap.size + 1 = h0 + n0) (hn0 : n0 ≤ M.2.1) (hu0 : u0 ≤ M.2.2) {fr : mm_F} (hRc : fr.2.2.2.2.1 ≤ R.cells + n0) (hRs : fr.2.2.2.2.2 ≤ R.slots + u0) {k : Nat} (hd : decode (mm_by mi) pc = .ok (.ldc k, 2)) (hst : (match mm_l2 mm_cT (mm_ow mi) k with | some (v, _) => some (pc + 2, L, .int v :: st, M) | none => none : Option mm_F) = some fr) (go : mm_Go p l e R s m args below meth c Q D dA b h0 n0 u0 fr) : W p l e R s m args below meth c H locs (M.2.1 - n0) (M.2.2 - u0) Q (F0 m pc ls (st.map (mm_up b h0))) := by
  obtain ⟨hx, hb, hml, hrt, hlk, hown, hts, hnx, hK, hini, hX, hbl, hh0⟩ := C
  split at hst
  · next v q hq =>
    cases hst
    exact lv_ldc (rest := st.map (mm_up b h0)) hx hb hown (hts _ (mm_ct_ok hq)) hd (go H locs ls hW hS hl)
  · cases hst
theorem ms_ldc_w (C : mm_Cx D dA b h0 S p s m args meth c mi) (hW : mm_Wd D dA b h0 M H) (hS : va_S (mm_A h0) s.heap H locs) (hl : mm_lh b h0 ls L) (hs0 : s.heap.size + 1 = h0 + n0) (hn0 : n0 ≤ M.2.1) (hu0 : u0 ≤ M.2.2) {fr : mm_F} (hRc : fr.2.2.2.2.1 ≤ R.cells + n0) (hRs : fr.2.2.2.2.2 ≤ R.slots + u0) {k : Nat} (hd : decode (mm_by mi) pc = .ok (.ldc_w k, 3)) (hst : (match mm_l2 mm_cT (mm_ow mi) k with | some (v, _) => some (pc + 3, L, .int v :: st, M) | none => none : Option mm_F) = some fr) (go : mm_Go p l e R s m args below meth c Q D dA b h0 n0 u0 fr) : W p l e R s m args below meth c H locs (M.2.1 - n0) (M.2.2 - u0) Q (F0 m pc ls (st.map (mm_up b h0))) := by
  obtain ⟨hx, hb, hml, hrt, hlk, hown, hts, hnx, hK, hini, hX, hbl, hh0⟩ := C
  split at hst
  · next v q hq =>
    cases hst
    exact lv_ldcw (rest := st.map (mm_up b h0)) hx hb hown (hts _ (mm_ct_ok hq)) hd (go H locs ls hW hS hl)
  · cases hst
theorem ms_ineg (C : mm_Cx D dA b h0 S p s m args meth c mi) (hW : mm_Wd D dA b h0 M H) (hS : va_S (mm_A h0) s.heap H locs) (hl : mm_lh b h0 ls L) (hs0 : s.heap.size + 1 = h0 + n0) (hn0 : n0 ≤ M.2.1) (hu0 : u0 ≤ M.2.2) {fr : mm_F} (hRc : fr.2.2.2.2.1 ≤ R.cells + n0) (hRs : fr.2.2.2.2.2 ≤ R.slots + u0) (hd : decode (mm_by mi) pc = .ok (.ineg, 1)) (hst : (match st with | .int x :: r => some (pc + 1, L, .int (-x) :: r, M) | _ => none : Option mm_F) = some fr) (go : mm_Go p l e R s m args below meth c Q D dA b h0 n0 u0 fr) : W p l e R s m args below meth c H locs (M.2.1 - n0) (M.2.2 - u0) Q (F0 m pc ls (st.map (mm_up b h0))) := by
  obtain ⟨hx, hb, hml, hrt, hlk, hown, hts, hnx, hK, hini, hX, hbl, hh0⟩ := C
  split at hst
  · next x r =>
    cases hst
    exact lv_ineg (x := x) (rest := r.map (mm_up b h0)) hx hb hd (go H locs ls hW hS hl)
  · cases hst
theorem ms_dup (C : mm_Cx D dA b h0 S p s m args meth c mi) (hW : mm_Wd D dA b h0 M H) (hS : va_S (mm_A h0) s.heap H locs) (hl : mm_lh b h0 ls L) (hs0 : s.heap.size + 1 = h0 + n0) (hn0 : n0 ≤ M.2.1) (hu0 : u0 ≤ M.2.2) {fr : mm_F} (hRc : fr.2.2.2.2.1 ≤ R.cells + n0) (hRs : fr.2.2.2.2.2 ≤ R.slots + u0) (hd : decode (mm_by mi) pc = .ok (.dup, 1)) (hst : (match st with | v :: r => if v.category = 1 then some (pc + 1, L, v :: v :: r, M) else none | _ => none : Option mm_F) = some fr) (go : mm_Go p l e R s m args below meth c Q D dA b h0 n0 u0 fr) : W p l e R s m args below meth c H locs (M.2.1 - n0) (M.2.2 - u0) Q (F0 m pc ls (st.map (mm_up b h0))) := by
  obtain ⟨hx, hb, hml, hrt, hlk, hown, hts, hnx, hK, hini, hX, hbl, hh0⟩ := C
  split at hst
  · next v r =>
    split at hst
    · next hv =>
      cases hst
      exact lv_dup (va := mm_up b h0 v) (rest := r.map (mm_up b h0)) hx hb hd (by rw [mm_up_cat]; exact hv) (go H locs ls hW hS hl)
    · cases hst
  · cases hst
theorem ms_dup2 (C : mm_Cx D dA b h0 S p s m args meth c mi) (hW : mm_Wd D dA b h0 M H) (hS : va_S (mm_A h0) s.heap H locs) (hl : mm_lh b h0 ls L) (hs0 : s.heap.size + 1 = h0 + n0) (hn0 : n0 ≤ M.2.1) (hu0 : u0 ≤ M.2.2) {fr : mm_F} (hRc : fr.2.2.2.2.1 ≤ R.cells + n0) (hRs : fr.2.2.2.2.2 ≤ R.slots + u0) (hd : decode (mm_by mi) pc = .ok (.dup2, 1)) (hst : (match st with | v :: w :: r => if v.category = 1 ∧ w.category = 1 then some (pc + 1, L, v :: w :: v :: w :: r, M) else none | _ => none : Option mm_F) = some fr) (go : mm_Go p l e R s m args below meth c Q D dA b h0 n0 u0 fr) : W p l e R s m args below meth c H locs (M.2.1 - n0) (M.2.2 - u0) Q (F0 m pc ls (st.map (mm_up b h0))) := by
  obtain ⟨hx, hb, hml, hrt, hlk, hown, hts, hnx, hK, hini, hX, hbl, hh0⟩ := C
  split at hst
  · next v v2 r =>
    split at hst
    · next hv =>
      cases hst
      exact lv_dup2_11 (va := mm_up b h0 v) (vb := mm_up b h0 v2) (rest := r.map (mm_up b h0)) hx hb hd (by rw [mm_up_cat]; exact hv.1) (by rw [mm_up_cat]; exact hv.2) (go H locs ls hW hS hl)
    · cases hst
  · cases hst
theorem ms_alen (C : mm_Cx D dA b h0 S p s m args meth c mi) (hW : mm_Wd D dA b h0 M H) (hS : va_S (mm_A h0) s.heap H locs) (hl : mm_lh b h0 ls L) (hs0 : s.heap.size + 1 = h0 + n0) (hn0 : n0 ≤ M.2.1) (hu0 : u0 ≤ M.2.2) {fr : mm_F} (hRc : fr.2.2.2.2.1 ≤ R.cells + n0) (hRs : fr.2.2.2.2.2 ≤ R.slots + u0) (hd : decode (mm_by mi) pc = .ok (.arraylength, 1)) (hst : mm_al S pc L st M = some fr) (go : mm_Go p l e R s m args below meth c Q D dA b h0 n0 u0 fr) : W p l e R s m args below meth c H locs (M.2.1 - n0) (M.2.2 - u0) Q (F0 m pc ls (st.map (mm_up b h0))) := by
  obtain ⟨hx, hb, hml, hrt, hlk, hown, hts, hnx, hK, hini, hX, hbl, hh0⟩ := C
  unfold mm_al at hst
  split at hst
  · next r =>
    cases hst
    exact va_slen (A := mm_A h0) (rest := r.map (mm_up b h0)) hx hb hX (Nat.lt_of_lt_of_le hbl hh0) (Nat.not_le.mpr hbl) hS hd (go H locs ls hW hS hl)
  · next a r =>
    split at hst
    · next t n z hM =>
      split at hst
      · next ht =>
        cases hst
        obtain ⟨q0, ha, hlt, had, hws⟩ := mm_ws_at hW hM
        obtain ⟨z', hz⟩ := mm_uE_a dA b h0 t n z
        rw [hz] at hws
        show W p l e R s m args below meth c H locs (M.2.1 - n0) (M.2.2 - u0) Q (F0 m pc ls (.ref (mm_ad b h0 (a + 1)) :: r.map (mm_up b h0)))
        rw [had]
        exact va_alen (rest := r.map (mm_up b h0)) hx hb hK hW.2.2.2 q0 t hws (mm_tys_at dA ht) rfl hd (go H locs ls hW hS hl)
      · cases hst
    · cases hst
  · cases hst
theorem ms_iaload (C : mm_Cx D dA b h0 S p s m args meth c mi) (hW : mm_Wd D dA b h0 M H) (hS : va_S (mm_A h0) s.heap H locs) (hl : mm_lh b h0 ls L) (hs0 : s.heap.size + 1 = h0 + n0) (hn0 : n0 ≤ M.2.1) (hu0 : u0 ≤ M.2.2) {fr : mm_F} (hRc : fr.2.2.2.2.1 ≤ R.cells + n0) (hRs : fr.2.2.2.2.2 ≤ R.slots + u0) (hd : decode (mm_by mi) pc = .ok (.iaload, 1)) (hst : mm_ia 0 S pc L st M = some fr) (go : mm_Go p l e R s m args below meth c Q D dA b h0 n0 u0 fr) : W p l e R s m args below meth c H locs (M.2.1 - n0) (M.2.2 - u0) Q (F0 m pc ls (st.map (mm_up b h0))) := by
  obtain ⟨hx, hb, hml, hrt, hlk, hown, hts, hnx, hK, hini, hX, hbl, hh0⟩ := C
  unfold mm_ia at hst
  split at hst
  · next i r =>
    split at hst
    · next hc =>
      cases hst
      exact va_sld (A := mm_A h0) (rest := r.map (mm_up b h0)) hx hb hX (Nat.lt_of_lt_of_le hbl hh0) (Nat.not_le.mpr hbl) hS hc.2 hd (go H locs ls hW hS hl)
    · cases hst
  · next i a r =>
    split at hst
    · next t n f hM =>
      split at hst
      · next hc =>
        cases hst
        obtain ⟨rfl, hin⟩ := hc
        obtain ⟨q0, ha, hlt, had, hws⟩ := mm_ws_at hW hM
        rw [mm_uE_i] at hws
        show W p l e R s m args below meth c H locs (M.2.1 - n0) (M.2.2 - u0) Q (F0 m pc ls (.int i :: .ref (mm_ad b h0 (a + 1)) :: r.map (mm_up b h0)))
        rw [had]
        exact va_iald (rest := r.map (mm_up b h0)) hx hb hK hW.2.2.2 q0 0 hws (mm_tys_at dA (by decide)) hin hd (go H locs ls hW hS hl)
      · cases hst
    · cases hst
  · cases hst
theorem ms_baload (C : mm_Cx D dA b h0 S p s m args meth c mi) (hW : mm_Wd D dA b h0 M H) (hS : va_S (mm_A h0) s.heap H locs) (hl : mm_lh b h0 ls L) (hs0 : s.heap.size + 1 = h0 + n0) (hn0 : n0 ≤ M.2.1) (hu0 : u0 ≤ M.2.2) {fr : mm_F} (hRc : fr.2.2.2.2.1 ≤ R.cells + n0) (hRs : fr.2.2.2.2.2 ≤ R.slots + u0) (hd : decode (mm_by mi) pc = .ok (.baload, 1)) (hst : mm_ia 1 S pc L st M = some fr) (go : mm_Go p l e R s m args below meth c Q D dA b h0 n0 u0 fr) : W p l e R s m args below meth c H locs (M.2.1 - n0) (M.2.2 - u0) Q (F0 m pc ls (st.map (mm_up b h0))) := by
  obtain ⟨hx, hb, hml, hrt, hlk, hown, hts, hnx, hK, hini, hX, hbl, hh0⟩ := C
  unfold mm_ia at hst
  split at hst
  · next i r =>
    split at hst
    · next hc =>
      exact absurd hc.1 (by decide)
    · cases hst
  · next i a r =>
    split at hst
    · next t n f hM =>
      split at hst
      · next hc =>
        cases hst
        obtain ⟨rfl, hin⟩ := hc
        obtain ⟨q0, ha, hlt, had, hws⟩ := mm_ws_at hW hM
        rw [mm_uE_i] at hws
        show W p l e R s m args below meth c H locs (M.2.1 - n0) (M.2.2 - u0) Q (F0 m pc ls (.int i :: .ref (mm_ad b h0 (a + 1)) :: r.map (mm_up b h0)))
        rw [had]
        exact va_zald (rest := r.map (mm_up b h0)) hx hb hK hW.2.2.2 q0 1 hws (mm_tys_at dA (by decide)) hin hd (go H locs ls hW hS hl)
      · cases hst
    · cases hst
  · cases hst
theorem ms_aaload (C : mm_Cx D dA b h0 S p s m args meth c mi) (hW : mm_Wd D dA b h0 M H) (hS : va_S (mm_A h0) s.heap H locs) (hl : mm_lh b h0 ls L) (hs0 : s.heap.size + 1 = h0 + n0) (hn0 : n0 ≤ M.2.1) (hu0 : u0 ≤ M.2.2) {fr : mm_F} (hRc : fr.2.2.2.2.1 ≤ R.cells + n0) (hRs : fr.2.2.2.2.2 ≤ R.slots + u0) (hd : decode (mm_by mi) pc = .ok (.aaload, 1)) (hst : mm_aa pc L st M = some fr) (go : mm_Go p l e R s m args below meth c Q D dA b h0 n0 u0 fr) : W p l e R s m args below meth c H locs (M.2.1 - n0) (M.2.2 - u0) Q (F0 m pc ls (st.map (mm_up b h0))) := by
  obtain ⟨hx, hb, hml, hrt, hlk, hown, hts, hnx, hK, hini, hX, hbl, hh0⟩ := C
  unfold mm_aa at hst
  split at hst
  · next i a r =>
    split at hst
    · next t n f hM =>
      split at hst
      · next hc =>
        split at hst
        · next q hq =>
          cases hst
          obtain ⟨h1, hin⟩ := hc
          obtain ⟨ci, hci⟩ := Option.isSome_iff_exists.mp h1
          obtain ⟨ht, hty, -⟩ := mm_tc_ty hci
          obtain ⟨q0, ha, hlt, had, hws⟩ := mm_ws_at hW hM
          rw [mm_uE_q] at hws
          have htt := mm_tys_at dA ht
          rw [hty] at htt
          show W p l e R s m args below meth c H locs (M.2.1 - n0) (M.2.2 - u0) Q (F0 m pc ls (.int i :: .ref (mm_ad b h0 a) :: r.map (mm_up b h0)))
          rw [had]
          refine va_aldq (rest := r.map (mm_up b h0)) hx hb hK hW.2.2.2 q0 t hws htt hin hd ?_
          rw [hq]
          exact go H locs ls hW hS hl
        · cases hst
      · cases hst
    · cases hst
  · cases hst
theorem ms_iastore (C : mm_Cx D dA b h0 S p s m args meth c mi) (hW : mm_Wd D dA b h0 M H) (hS : va_S (mm_A h0) s.heap H locs) (hl : mm_lh b h0 ls L) (hs0 : s.heap.size + 1 = h0 + n0) (hn0 : n0 ≤ M.2.1) (hu0 : u0 ≤ M.2.2) {fr : mm_F} (hRc : fr.2.2.2.2.1 ≤ R.cells + n0) (hRs : fr.2.2.2.2.2 ≤ R.slots + u0) (hd : decode (mm_by mi) pc = .ok (.iastore, 1)) (hst : mm_is 0 pc L st M = some fr) (go : mm_Go p l e R s m args below meth c Q D dA b h0 n0 u0 fr) : W p l e R s m args below meth c H locs (M.2.1 - n0) (M.2.2 - u0) Q (F0 m pc ls (st.map (mm_up b h0))) := by
  obtain ⟨hx, hb, hml, hrt, hlk, hown, hts, hnx, hK, hini, hX, hbl, hh0⟩ := C
  unfold mm_is at hst
  split at hst
  · next x i a r =>
    split at hst
    · next t n f hM =>
      split at hst
      · next hc =>
        cases hst
        obtain ⟨⟨rfl, hb1⟩, hin⟩ := hc
        obtain ⟨q0, ha, hlt, had, hws⟩ := mm_ws_at hW hM
        rw [mm_uE_i] at hws
        show W p l e R s m args below meth c H locs (M.2.1 - n0) (M.2.2 - u0) Q (F0 m pc ls (.int x :: .int i :: .ref (mm_ad b h0 a) :: r.map (mm_up b h0)))
        rw [had]
        refine va_iast (A := mm_A h0) (H0 := H) (rest := r.map (mm_up b h0)) hx hb hK hW.2.2.2 (mm_ws_D dA b h0 M) (mm_Sself hS) q0 0 hws (mm_tys_at dA (by decide)) hin hd (fun H1 locs1 hP1 hD1 hS1 => ?_)
        exact mm_afterput hW hS hl hs0 hn0 hM ha (c1 := .inl (0, n, .inl (upd f i.toNatClampNeg x))) hP1 hS1 go
      · cases hst
    · cases hst
  · cases hst
theorem ms_bastore (C : mm_Cx D dA b h0 S p s m args meth c mi) (hW : mm_Wd D dA b h0 M H) (hS : va_S (mm_A h0) s.heap H locs) (hl : mm_lh b h0 ls L) (hs0 : s.heap.size + 1 = h0 + n0) (hn0 : n0 ≤ M.2.1) (hu0 : u0 ≤ M.2.2) {fr : mm_F} (hRc : fr.2.2.2.2.1 ≤ R.cells + n0) (hRs : fr.2.2.2.2.2 ≤ R.slots + u0) (hd : decode (mm_by mi) pc = .ok (.bastore, 1)) (hst : mm_is 1 pc L st M = some fr) (go : mm_Go p l e R s m args below meth c Q D dA b h0 n0 u0 fr) : W p l e R s m args below meth c H locs (M.2.1 - n0) (M.2.2 - u0) Q (F0 m pc ls (st.map (mm_up b h0))) := by
  obtain ⟨hx, hb, hml, hrt, hlk, hown, hts, hnx, hK, hini, hX, hbl, hh0⟩ := C
  unfold mm_is at hst
  split at hst
  · next x i a r =>
    split at hst
    · next t n f hM =>
      split at hst
      · next hc =>
        cases hst
        obtain ⟨⟨rfl, hb1⟩, hin⟩ := hc
        obtain ⟨q0, ha, hlt, had, hws⟩ := mm_ws_at hW hM
        rw [mm_uE_i] at hws
        show W p l e R s m args below meth c H locs (M.2.1 - n0) (M.2.2 - u0) Q (F0 m pc ls (.int x :: .int i :: .ref (mm_ad b h0 a) :: r.map (mm_up b h0)))
        rw [had]
        refine va_zast (A := mm_A h0) (H0 := H) (rest := r.map (mm_up b h0)) hx hb hK hW.2.2.2 (mm_ws_D dA b h0 M) (mm_Sself hS) q0 1 hws (mm_tys_at dA (by decide)) hin hd (fun H1 locs1 hP1 hD1 hS1 => ?_)
        have hx1 : vp_nar .boolean x = x := by
          rcases hb1 rfl with rfl | rfl
          · rfl
          · rfl
        rw [hx1] at hP1
        exact mm_afterput hW hS hl hs0 hn0 hM ha (c1 := .inl (1, n, .inl (upd f i.toNatClampNeg x))) hP1 hS1 go
      · cases hst
    · cases hst
  · cases hst
theorem ms_aastore (C : mm_Cx D dA b h0 S p s m args meth c mi) (hW : mm_Wd D dA b h0 M H) (hS : va_S (mm_A h0) s.heap H locs) (hl : mm_lh b h0 ls L) (hs0 : s.heap.size + 1 = h0 + n0) (hn0 : n0 ≤ M.2.1) (hu0 : u0 ≤ M.2.2) {fr : mm_F} (hRc : fr.2.2.2.2.1 ≤ R.cells + n0) (hRs : fr.2.2.2.2.2 ≤ R.slots + u0) (hd : decode (mm_by mi) pc = .ok (.aastore, 1)) (hst : mm_as pc L st M = some fr) (go : mm_Go p l e R s m args below meth c Q D dA b h0 n0 u0 fr) : W p l e R s m args below meth c H locs (M.2.1 - n0) (M.2.2 - u0) Q (F0 m pc ls (st.map (mm_up b h0))) := by
  obtain ⟨hx, hb, hml, hrt, hlk, hown, hts, hnx, hK, hini, hX, hbl, hh0⟩ := C
  unfold mm_as at hst
  split at hst
  · next v i a r =>
    split at hst
    · next t n f ci vs hM hV =>
      split at hst
      · next hc =>
        cases hst
        obtain ⟨hci, hin⟩ := hc
        obtain ⟨ht, hty, hc13⟩ := mm_tc_ty hci
        obtain ⟨q0, ha, hlt, had, hws⟩ := mm_ws_at hW hM
        obtain ⟨q1, ha1, hlt1, had1, hws1⟩ := mm_ws_at hW hV
        rw [mm_uE_q] at hws
        rw [mm_uE_o] at hws1
        have htt := mm_tys_at dA ht
        rw [hty] at htt
        have hcl := (mm_cl_ok hc13).1
        show W p l e R s m args below meth c H locs (M.2.1 - n0) (M.2.2 - u0) Q (F0 m pc ls (.ref (mm_ad b h0 v) :: .int i :: .ref (mm_ad b h0 a) :: r.map (mm_up b h0)))
        rw [had, had1]
        refine va_astq (A := mm_A h0) (H0 := H) (rest := r.map (mm_up b h0)) (r := (mm_cn ci, mm_T ci, mm_N ci)) hx hb hK hW.2.2.2 (mm_ws_D dA b h0 M) (mm_Sself hS) q0 t q1 ci hws htt hws1 hcl hin hd (fun H1 locs1 hP1 hD1 hS1 => ?_)
        refine mm_afterput hW hS hl hs0 hn0 hM ha (c1 := .inl (t, n, .inr (.inr (.inr (.inr (va_up f i.toNatClampNeg (some v))))))) ?_ hS1 go
        rw [mm_uE_q]
        have e1 : (fun j => (va_up f i.toNatClampNeg (some v) j).map (mm_ad b h0)) = va_up (fun j => (f j).map (mm_ad b h0)) i.toNatClampNeg (some (h0 + q1)) := by
          funext j
          unfold va_up
          by_cases hj : j = i.toNatClampNeg
          · rw [if_pos hj, if_pos hj, ← had1]
            rfl
          · rw [if_neg hj, if_neg hj]
        rw [e1]
        exact hP1
      · cases hst
    · cases hst
  · cases hst
theorem ms_getf (C : mm_Cx D dA b h0 S p s m args meth c mi) (hW : mm_Wd D dA b h0 M H) (hS : va_S (mm_A h0) s.heap H locs) (hl : mm_lh b h0 ls L) (hs0 : s.heap.size + 1 = h0 + n0) (hn0 : n0 ≤ M.2.1) (hu0 : u0 ≤ M.2.2) {fr : mm_F} (hRc : fr.2.2.2.2.1 ≤ R.cells + n0) (hRs : fr.2.2.2.2.2 ≤ R.slots + u0) {k : Nat} (hd : decode (mm_by mi) pc = .ok (.getfield k, 3)) (hst : mm_gf (mm_ow mi) k pc L st M = some fr) (go : mm_Go p l e R s m args below meth c Q D dA b h0 n0 u0 fr) : W p l e R s m args below meth c H locs (M.2.1 - n0) (M.2.2 - u0) Q (F0 m pc ls (st.map (mm_up b h0))) := by
  obtain ⟨hx, hb, hml, hrt, hlk, hown, hts, hnx, hK, hini, hX, hbl, hh0⟩ := C
  unfold mm_gf at hst
  split at hst
  · next a r =>
    split at hst
    · next ci j q c' fs hq hM =>
      split at hst
      · next hc =>
        split at hst
        · next v hv =>
          cases hst
          subst hc
          obtain ⟨h1, h2, h3, h4⟩ := mm_ft_ok hq
          obtain ⟨g1, g2, g3, g4, -⟩ := mm_cl_ok h3
          obtain ⟨q0, ha, hlt, had, hws⟩ := mm_ws_at hW hM
          rw [mm_uE_o] at hws
          show W p l e R s m args below meth c H locs (M.2.1 - n0) (M.2.2 - u0) Q (F0 m pc ls (.ref (mm_ad b h0 a) :: r.map (mm_up b h0)))
          rw [had]
          exact va_get (rest := r.map (mm_up b h0)) (v := mm_up b h0 v) hx hb hts g2 hown hK hW.2.2.2 q0 hws g1 j h2 (hts _ h1) (fun x hx => by rw [h4] at hx; exact hx) (by rw [List.getElem?_map, hv]; rfl) hd (go H locs ls hW hS hl)
        · cases hst
      · cases hst
    · cases hst
  · cases hst
theorem ms_putf (C : mm_Cx D dA b h0 S p s m args meth c mi) (hW : mm_Wd D dA b h0 M H) (hS : va_S (mm_A h0) s.heap H locs) (hl : mm_lh b h0 ls L) (hs0 : s.heap.size + 1 = h0 + n0) (hn0 : n0 ≤ M.2.1) (hu0 : u0 ≤ M.2.2) {fr : mm_F} (hRc : fr.2.2.2.2.1 ≤ R.cells + n0) (hRs : fr.2.2.2.2.2 ≤ R.slots + u0) {k : Nat} (hd : decode (mm_by mi) pc = .ok (.putfield k, 3)) (hst : mm_pf (mm_ow mi) k (mm_in mi) pc L st M = some fr) (go : mm_Go p l e R s m args below meth c Q D dA b h0 n0 u0 fr) : W p l e R s m args below meth c H locs (M.2.1 - n0) (M.2.2 - u0) Q (F0 m pc ls (st.map (mm_up b h0))) := by
  obtain ⟨hx, hb, hml, hrt, hlk, hown, hts, hnx, hK, hini, hX, hbl, hh0⟩ := C
  unfold mm_pf at hst
  split at hst
  · next v a r =>
    split at hst
    · next ci j q c' fs hq hM =>
      split at hst
      · next hc =>
        cases hst
        obtain ⟨⟨hc1, hj⟩, hfit, hfin⟩ := hc
        subst hc1
        obtain ⟨h1, h2, h3, h4⟩ := mm_ft_ok hq
        obtain ⟨g1, g2, g3, g4, -⟩ := mm_cl_ok h3
        obtain ⟨q0, ha, hlt, had, hws⟩ := mm_ws_at hW hM
        obtain ⟨f1, f2⟩ := mm_fit_ok b h0 hfit
        rw [mm_uE_o] at hws
        show W p l e R s m args below meth c H locs (M.2.1 - n0) (M.2.2 - u0) Q (F0 m pc ls (mm_up b h0 v :: .ref (mm_ad b h0 a) :: r.map (mm_up b h0)))
        rw [had]
        have kk : ∀ (H1 : Heap) (locs1 : List Loc), va_P D vwCl ((mm_ws dA b h0 M).set q0 (h0 + q0, .inr (c', (fs.map (mm_up b h0)).set j (mm_up b h0 v)))) H1 → va_D (mm_A h0) ((mm_ws dA b h0 M).set q0 (h0 + q0, .inr (c', (fs.map (mm_up b h0)).set j (mm_up b h0 v)))) → va_S (mm_A h0) H H1 locs1 → W p l e R s m args below meth c H1 locs1 (M.2.1 - n0) (M.2.2 - u0) Q (F0 m (pc + 3) ls (r.map (mm_up b h0))) := by
          intro H1 locs1 hP1 hD1 hS1
          refine mm_afterput hW hS hl hs0 hn0 hM ha (c1 := .inr (c', fs.set j v)) ?_ hS1 go
          rw [mm_uE_o, List.map_set]
          exact hP1
        by_cases hf : (mm_T c' j).2.2.2 = true
        · obtain ⟨i1, i2⟩ := hfin hf
          exact va_putF (A := mm_A h0) (H0 := H) (rest := r.map (mm_up b h0)) hx hb hts g2 (mm_fy c') g4 g3 hown hK hW.2.2.2 (mm_ws_D dA b h0 M) (mm_Sself hS) q0 hws g1 j h2 (hts _ h1) (fun x hx => by rw [h4] at hx; exact hx) hf (hini i1) (by rw [h4, i2]) (g4 j h2) f1 f2 (by rw [List.length_map]; exact hj) hd kk
        · exact va_put (A := mm_A h0) (H0 := H) (rest := r.map (mm_up b h0)) hx hb hts g2 (mm_fy c') g4 g3 hown hK hW.2.2.2 (mm_ws_D dA b h0 M) (mm_Sself hS) q0 hws g1 j h2 (hts _ h1) (fun x hx => by rw [h4] at hx; exact hx) (by simpa using hf) (g4 j h2) f1 f2 (by rw [List.length_map]; exact hj) hd kk
      · cases hst
    · cases hst
  · cases hst
theorem ms_new (C : mm_Cx D dA b h0 S p s m args meth c mi) (hW : mm_Wd D dA b h0 M H) (hS : va_S (mm_A h0) s.heap H locs) (hl : mm_lh b h0 ls L) (hs0 : s.heap.size + 1 = h0 + n0) (hn0 : n0 ≤ M.2.1) (hu0 : u0 ≤ M.2.2) {fr : mm_F} (hRc : fr.2.2.2.2.1 ≤ R.cells + n0) (hRs : fr.2.2.2.2.2 ≤ R.slots + u0) {k : Nat} (hd : decode (mm_by mi) pc = .ok (.new k, 3)) (hst : mm_nw (mm_ow mi) k pc L st M = some fr) (go : mm_Go p l e R s m args below meth c Q D dA b h0 n0 u0 fr) : W p l e R s m args below meth c H locs (M.2.1 - n0) (M.2.2 - u0) Q (F0 m pc ls (st.map (mm_up b h0))) := by
  obtain ⟨hx, hb, hml, hrt, hlk, hown, hts, hnx, hK, hini, hX, hbl, hh0⟩ := C
  unfold mm_nw at hst
  split at hst
  · next ci q hq =>
    cases hst
    obtain ⟨h1, h3⟩ := mm_nt_ok hq
    obtain ⟨g1, g2, g3, g4, g5, g6, g7, g8⟩ := mm_cl_ok h3
    have r1 : M.2.1 + 1 ≤ R.cells + n0 := hRc
    have r2 : M.2.2 + mm_N ci ≤ R.slots + u0 := hRs
    refine va_new (A := mm_A h0) (H0 := H) (ci := ci) (fs := mm_df ci) (rest := st.map (mm_up b h0)) hx hb hts g2 (mm_fy ci) g4 hown (hts _ h1) (hts _ g7) (hts _ g8) hK hW.2.2.2 (mm_ws_D dA b h0 M) (mm_Sself hS) (fun q hq => Nat.le_trans hh0 (Nat.le_trans hS.1 hq)) g1 g5 (by omega) (by omega) hd (fun q H1 hP1 hD1 hS1 => ?_)
    refine mm_afternew hW hS hl hs0 hn0 hu0 ?_ hP1 hD1 hS1 go
    rw [mm_uE_o]
    congr 2
    exact (mm_df_up b h0 ci h3).symm
  · cases hst
theorem ms_newi (C : mm_Cx D dA b h0 S p s m args meth c mi) (hW : mm_Wd D dA b h0 M H) (hS : va_S (mm_A h0) s.heap H locs) (hl : mm_lh b h0 ls L) (hs0 : s.heap.size + 1 = h0 + n0) (hn0 : n0 ≤ M.2.1) (hu0 : u0 ≤ M.2.2) {fr : mm_F} (hRc : fr.2.2.2.2.1 ≤ R.cells + n0) (hRs : fr.2.2.2.2.2 ≤ R.slots + u0) (hd : decode (mm_by mi) pc = .ok (.newarray .int, 2)) (hst : mm_na 0 pc L st M = some fr) (go : mm_Go p l e R s m args below meth c Q D dA b h0 n0 u0 fr) : W p l e R s m args below meth c H locs (M.2.1 - n0) (M.2.2 - u0) Q (F0 m pc ls (st.map (mm_up b h0))) := by
  obtain ⟨hx, hb, hml, hrt, hlk, hown, hts, hnx, hK, hini, hX, hbl, hh0⟩ := C
  unfold mm_na at hst
  split at hst
  · next n r =>
    split at hst
    · cases hst
    · next hc =>
      cases hst
      have r1 : M.2.1 + 1 ≤ R.cells + n0 := hRc
      have r2 : M.2.2 + n.toNatClampNeg ≤ R.slots + u0 := hRs
      have h65 : n.toNatClampNeg ≤ 65536 := Nat.not_lt.mp fun q => hc (Or.inr q)
      refine va_newa (atype := .int) (A := mm_A h0) (H0 := H) (a0 := (n.toNatClampNeg, .inl (fun _ => 0))) (ty := .int) (rest := r.map (mm_up b h0)) hx hb (hts _ mm_ac0) rfl hK hW.2.2.2 (mm_ws_D dA b h0 M) (mm_Sself hS) (fun q hq => Nat.le_trans hh0 (Nat.le_trans hS.1 hq)) (fun _ => rfl) (fun q => hc (Or.inl q)) rfl (Nat.le_trans (Nat.mul_le_mul_right _ h65) (by decide)) (by omega) (by omega) hd (fun q cA H1 hK1 hP1 hD1 hS1 => ?_)
      have hA1 := (hK1.2 4 (cA, .int) rfl).2
      have hA2 := (hK.2 0 (dA 0, .int) rfl).2
      have hcA : cA = dA 0 := Option.some.inj (hA1.symm.trans hA2)
      refine mm_afternew hW hS hl hs0 hn0 hu0 ?_ hP1 hD1 hS1 go
      rw [hcA]
      rfl
  · cases hst
theorem ms_newz (C : mm_Cx D dA b h0 S p s m args meth c mi) (hW : mm_Wd D dA b h0 M H) (hS : va_S (mm_A h0) s.heap H locs) (hl : mm_lh b h0 ls L) (hs0 : s.heap.size + 1 = h0 + n0) (hn0 : n0 ≤ M.2.1) (hu0 : u0 ≤ M.2.2) {fr : mm_F} (hRc : fr.2.2.2.2.1 ≤ R.cells + n0) (hRs : fr.2.2.2.2.2 ≤ R.slots + u0) (hd : decode (mm_by mi) pc = .ok (.newarray .boolean, 2)) (hst : mm_na 1 pc L st M = some fr) (go : mm_Go p l e R s m args below meth c Q D dA b h0 n0 u0 fr) : W p l e R s m args below meth c H locs (M.2.1 - n0) (M.2.2 - u0) Q (F0 m pc ls (st.map (mm_up b h0))) := by
  obtain ⟨hx, hb, hml, hrt, hlk, hown, hts, hnx, hK, hini, hX, hbl, hh0⟩ := C
  unfold mm_na at hst
  split at hst
  · next n r =>
    split at hst
    · cases hst
    · next hc =>
      cases hst
      have r1 : M.2.1 + 1 ≤ R.cells + n0 := hRc
      have r2 : M.2.2 + n.toNatClampNeg ≤ R.slots + u0 := hRs
      have h65 : n.toNatClampNeg ≤ 65536 := Nat.not_lt.mp fun q => hc (Or.inr q)
      refine va_newa (atype := .boolean) (A := mm_A h0) (H0 := H) (a0 := (n.toNatClampNeg, .inl (fun _ => 0))) (ty := .boolean) (rest := r.map (mm_up b h0)) hx hb (hts _ mm_ac1) rfl hK hW.2.2.2 (mm_ws_D dA b h0 M) (mm_Sself hS) (fun q hq => Nat.le_trans hh0 (Nat.le_trans hS.1 hq)) (fun _ => rfl) (fun q => hc (Or.inl q)) rfl (Nat.le_trans (Nat.mul_le_mul_right _ h65) (by decide)) (by omega) (by omega) hd (fun q cA H1 hK1 hP1 hD1 hS1 => ?_)
      have hA1 := (hK1.2 4 (cA, .boolean) rfl).2
      have hA2 := (hK.2 1 (dA 1, .boolean) rfl).2
      have hcA : cA = dA 1 := Option.some.inj (hA1.symm.trans hA2)
      refine mm_afternew hW hS hl hs0 hn0 hu0 ?_ hP1 hD1 hS1 go
      rw [hcA]
      rfl
  · cases hst
theorem ms_anew (C : mm_Cx D dA b h0 S p s m args meth c mi) (hW : mm_Wd D dA b h0 M H) (hS : va_S (mm_A h0) s.heap H locs) (hl : mm_lh b h0 ls L) (hs0 : s.heap.size + 1 = h0 + n0) (hn0 : n0 ≤ M.2.1) (hu0 : u0 ≤ M.2.2) {fr : mm_F} (hRc : fr.2.2.2.2.1 ≤ R.cells + n0) (hRs : fr.2.2.2.2.2 ≤ R.slots + u0) {k : Nat} (hd : decode (mm_by mi) pc = .ok (.anewarray k, 3)) (hst : mm_an (mm_ow mi) k pc L st M = some fr) (go : mm_Go p l e R s m args below meth c Q D dA b h0 n0 u0 fr) : W p l e R s m args below meth c H locs (M.2.1 - n0) (M.2.2 - u0) Q (F0 m pc ls (st.map (mm_up b h0))) := by
  obtain ⟨hx, hb, hml, hrt, hlk, hown, hts, hnx, hK, hini, hX, hbl, hh0⟩ := C
  unfold mm_an at hst
  split at hst
  · next n r =>
    split at hst
    · next t q1 q2 hq =>
      split at hst
      · cases hst
      · next hc =>
        cases hst
        obtain ⟨ci, hci, h1, h2⟩ := mm_at_ok hq
        obtain ⟨ht, hty, hc13⟩ := mm_tc_ty hci
        have r1 : M.2.1 + 1 ≤ R.cells + n0 := hRc
        have r2 : M.2.2 + n.toNatClampNeg ≤ R.slots + u0 := hRs
        have h65 : n.toNatClampNeg ≤ 65536 := Nat.not_lt.mp fun q => hc (Or.inr q)
        refine va_newq (A := mm_A h0) (H0 := H) (rest := r.map (mm_up b h0)) hx hb hown (hts _ h1) (hnx.2 _ h2) hK hW.2.2.2 (mm_ws_D dA b h0 M) (mm_Sself hS) (fun q hq => Nat.le_trans hh0 (Nat.le_trans hS.1 hq)) (fun q => hc (Or.inl q)) rfl (Nat.le_trans (Nat.mul_le_mul_right _ h65) (by decide)) (by omega) (by omega) hd (fun q cA H1 hK1 hP1 hD1 hS1 => ?_)
        have htt := mm_tys_at dA ht
        rw [hty] at htt
        obtain ⟨-, -, -, -, -, hA1⟩ := (hK1.2 4 (cA, .object (mm_cn ci)) rfl).2
        obtain ⟨-, -, -, -, -, hA2⟩ := (hK.2 t (dA t, .object (mm_cn ci)) htt).2
        have hcA : cA = dA t := Option.some.inj (hA1.symm.trans hA2)
        refine mm_afternew hW hS hl hs0 hn0 hu0 ?_ hP1 hD1 hS1 go
        rw [hcA]
        rfl
    · cases hst
  · cases hst
set_option maxHeartbeats 4000000 in
theorem mm_step (C : mm_Cx D dA b h0 S p s m args meth c mi) (hW : mm_Wd D dA b h0 M H) (hS : va_S (mm_A h0) s.heap H locs) (hl : mm_lh b h0 ls L) (hs0 : s.heap.size + 1 = h0 + n0) (hn0 : n0 ≤ M.2.1) (hu0 : u0 ≤ M.2.2) {fr : mm_F} (hRc : fr.2.2.2.2.1 ≤ R.cells + n0) (hRs : fr.2.2.2.2.2 ≤ R.slots + u0) {i : Instr} {len : Nat} (hd : decode (mm_by mi) pc = .ok (i, len)) (hln : mm_ln i len = true) (hst : mm_st (mm_ow mi) (mm_in mi) S i pc L st M = some fr) (go : mm_Go p l e R s m args below meth c Q D dA b h0 n0 u0 fr) : W p l e R s m args below meth c H locs (M.2.1 - n0) (M.2.2 - u0) Q (F0 m pc ls (st.map (mm_up b h0))) := by
  cases i with
  | iadd =>
    have hn := eq_of_beq (show (len == 1) = true from hln); subst hn; exact ms_iadd C hW hS hl hs0 hn0 hu0 hRc hRs hd hst go
  | isub =>
    have hn := eq_of_beq (show (len == 1) = true from hln); subst hn; exact ms_isub C hW hS hl hs0 hn0 hu0 hRc hRs hd hst go
  | imul =>
    have hn := eq_of_beq (show (len == 1) = true from hln); subst hn; exact ms_imul C hW hS hl hs0 hn0 hu0 hRc hRs hd hst go
  | iand =>
    have hn := eq_of_beq (show (len == 1) = true from hln); subst hn; exact ms_iand C hW hS hl hs0 hn0 hu0 hRc hRs hd hst go
  | ior =>
    have hn := eq_of_beq (show (len == 1) = true from hln); subst hn; exact ms_ior C hW hS hl hs0 hn0 hu0 hRc hRs hd hst go
  | ixor =>
    have hn := eq_of_beq (show (len == 1) = true from hln); subst hn; exact ms_ixor C hW hS hl hs0 hn0 hu0 hRc hRs hd hst go
  | ishl =>
    have hn := eq_of_beq (show (len == 1) = true from hln); subst hn; exact ms_ishl C hW hS hl hs0 hn0 hu0 hRc hRs hd hst go
  | ishr =>
    have hn := eq_of_beq (show (len == 1) = true from hln); subst hn; exact ms_ishr C hW hS hl hs0 hn0 hu0 hRc hRs hd hst go
  | iushr =>
    have hn := eq_of_beq (show (len == 1) = true from hln); subst hn; exact ms_iushr C hW hS hl hs0 hn0 hu0 hRc hRs hd hst go
  | idiv =>
    have hn := eq_of_beq (show (len == 1) = true from hln); subst hn; exact ms_idiv C hW hS hl hs0 hn0 hu0 hRc hRs hd hst go
  | irem =>
    have hn := eq_of_beq (show (len == 1) = true from hln); subst hn; exact ms_irem C hW hS hl hs0 hn0 hu0 hRc hRs hd hst go
  | ineg =>
    have hn := eq_of_beq (show (len == 1) = true from hln); subst hn; exact ms_ineg C hW hS hl hs0 hn0 hu0 hRc hRs hd hst go
  | dup =>
    have hn := eq_of_beq (show (len == 1) = true from hln); subst hn; exact ms_dup C hW hS hl hs0 hn0 hu0 hRc hRs hd hst go
  | dup2 =>
    have hn := eq_of_beq (show (len == 1) = true from hln); subst hn; exact ms_dup2 C hW hS hl hs0 hn0 hu0 hRc hRs hd hst go
  | iconst n =>
    have hn := eq_of_beq (show (len == 1) = true from hln); subst hn; exact ms_iconst C hW hS hl hs0 hn0 hu0 hRc hRs hd hst go
  | bipush n =>
    have hn := eq_of_beq (show (len == 2) = true from hln); subst hn; exact ms_bipush C hW hS hl hs0 hn0 hu0 hRc hRs hd hst go
  | sipush n =>
    have hn := eq_of_beq (show (len == 3) = true from hln); subst hn; exact ms_sipush C hW hS hl hs0 hn0 hu0 hRc hRs hd hst go
  | ldc k =>
    have hn := eq_of_beq (show (len == 2) = true from hln); subst hn; exact ms_ldc C hW hS hl hs0 hn0 hu0 hRc hRs hd hst go
  | ldc_w k =>
    have hn := eq_of_beq (show (len == 3) = true from hln); subst hn; exact ms_ldc_w C hW hS hl hs0 hn0 hu0 hRc hRs hd hst go
  | iload_n k =>
    have hn := eq_of_beq (show (len == 1) = true from hln); subst hn; exact ms_iload_n C hW hS hl hs0 hn0 hu0 hRc hRs hd hst go
  | iload k =>
    have hn := eq_of_beq (show (len == 2) = true from hln); subst hn; exact ms_iload C hW hS hl hs0 hn0 hu0 hRc hRs hd hst go
  | aload_n k =>
    have hn := eq_of_beq (show (len == 1) = true from hln); subst hn; exact ms_aload_n C hW hS hl hs0 hn0 hu0 hRc hRs hd hst go
  | aload k =>
    have hn := eq_of_beq (show (len == 2) = true from hln); subst hn; exact ms_aload C hW hS hl hs0 hn0 hu0 hRc hRs hd hst go
  | istore_n k =>
    have hn := eq_of_beq (show (len == 1) = true from hln); subst hn; exact ms_istore_n C hW hS hl hs0 hn0 hu0 hRc hRs hd hst go
  | istore k =>
    have hn := eq_of_beq (show (len == 2) = true from hln); subst hn; exact ms_istore C hW hS hl hs0 hn0 hu0 hRc hRs hd hst go
  | astore_n k =>
    have hn := eq_of_beq (show (len == 1) = true from hln); subst hn; exact ms_astore_n C hW hS hl hs0 hn0 hu0 hRc hRs hd hst go
  | astore k =>
    have hn := eq_of_beq (show (len == 2) = true from hln); subst hn; exact ms_astore C hW hS hl hs0 hn0 hu0 hRc hRs hd hst go
  | iinc k n =>
    have hn := eq_of_beq (show (len == 3) = true from hln); subst hn; exact ms_iinc C hW hS hl hs0 hn0 hu0 hRc hRs hd hst go
  | goto off =>
    have hn := eq_of_beq (show (len == 3) = true from hln); subst hn; exact ms_goto C hW hS hl hs0 hn0 hu0 hRc hRs hd hst go
  | arraylength =>
    have hn := eq_of_beq (show (len == 1) = true from hln); subst hn; exact ms_alen C hW hS hl hs0 hn0 hu0 hRc hRs hd hst go
  | iaload =>
    have hn := eq_of_beq (show (len == 1) = true from hln); subst hn; exact ms_iaload C hW hS hl hs0 hn0 hu0 hRc hRs hd hst go
  | baload =>
    have hn := eq_of_beq (show (len == 1) = true from hln); subst hn; exact ms_baload C hW hS hl hs0 hn0 hu0 hRc hRs hd hst go
  | aaload =>
    have hn := eq_of_beq (show (len == 1) = true from hln); subst hn; exact ms_aaload C hW hS hl hs0 hn0 hu0 hRc hRs hd hst go
  | iastore =>
    have hn := eq_of_beq (show (len == 1) = true from hln); subst hn; exact ms_iastore C hW hS hl hs0 hn0 hu0 hRc hRs hd hst go
  | bastore =>
    have hn := eq_of_beq (show (len == 1) = true from hln); subst hn; exact ms_bastore C hW hS hl hs0 hn0 hu0 hRc hRs hd hst go
  | aastore =>
    have hn := eq_of_beq (show (len == 1) = true from hln); subst hn; exact ms_aastore C hW hS hl hs0 hn0 hu0 hRc hRs hd hst go
  | getfield k =>
    have hn := eq_of_beq (show (len == 3) = true from hln); subst hn; exact ms_getf C hW hS hl hs0 hn0 hu0 hRc hRs hd hst go
  | putfield k =>
    have hn := eq_of_beq (show (len == 3) = true from hln); subst hn; exact ms_putf C hW hS hl hs0 hn0 hu0 hRc hRs hd hst go
  | new k =>
    have hn := eq_of_beq (show (len == 3) = true from hln); subst hn; exact ms_new C hW hS hl hs0 hn0 hu0 hRc hRs hd hst go
  | anewarray k =>
    have hn := eq_of_beq (show (len == 3) = true from hln); subst hn; exact ms_anew C hW hS hl hs0 hn0 hu0 hRc hRs hd hst go
  | tableswitch d lo hi offs =>
    exact ms_ts C hW hS hl hs0 hn0 hu0 hRc hRs hd hst go
  | lookupswitch d ps =>
    exact ms_lw C hW hS hl hs0 hn0 hu0 hRc hRs hd hst go
  | newarray ty =>
    have hn := eq_of_beq (show (len == 2) = true from hln); subst hn
    cases ty with
    | int => exact ms_newi C hW hS hl hs0 hn0 hu0 hRc hRs hd hst go
    | boolean => exact ms_newz C hW hS hl hs0 hn0 hu0 hRc hRs hd hst go
    | _ => exact absurd (show (none : Option mm_F) = some fr from hst) (fun q => by cases q)
  | if_icmp cd off =>
    have hn := eq_of_beq (show (len == 3) = true from hln); subst hn
    unfold mm_st at hst
    dsimp only at hst
    split at hst
    · cases cd with
      | eq => exact ms_icmp_eq C hW hS hl hs0 hn0 hu0 hRc hRs hd hst go
      | ne => exact ms_icmp_ne C hW hS hl hs0 hn0 hu0 hRc hRs hd hst go
      | lt => exact ms_icmp_lt C hW hS hl hs0 hn0 hu0 hRc hRs hd hst go
      | ge => exact ms_icmp_ge C hW hS hl hs0 hn0 hu0 hRc hRs hd hst go
      | gt => exact ms_icmp_gt C hW hS hl hs0 hn0 hu0 hRc hRs hd hst go
      | le => exact ms_icmp_le C hW hS hl hs0 hn0 hu0 hRc hRs hd hst go
    · cases hst
  | ifCond cd off =>
    have hn := eq_of_beq (show (len == 3) = true from hln); subst hn
    unfold mm_st at hst
    dsimp only at hst
    split at hst
    · cases cd with
      | eq => exact ms_if_eq C hW hS hl hs0 hn0 hu0 hRc hRs hd hst go
      | ne => exact ms_if_ne C hW hS hl hs0 hn0 hu0 hRc hRs hd hst go
      | lt => exact ms_if_lt C hW hS hl hs0 hn0 hu0 hRc hRs hd hst go
      | ge => exact ms_if_ge C hW hS hl hs0 hn0 hu0 hRc hRs hd hst go
      | gt => exact ms_if_gt C hW hS hl hs0 hn0 hu0 hRc hRs hd hst go
      | le => exact ms_if_le C hW hS hl hs0 hn0 hu0 hRc hRs hd hst go
    · cases hst
  | _ => exact absurd (show (none : Option mm_F) = some fr from hst) (fun q => by cases q)
end MMT
end
section
/-! ===== the small machine's run is the machine's run ===== -/
def mm_o2 (L : mm_L) (M : mm_M) (fr : mm_F) : Prop := M.2.1 ≤ fr.2.2.2.2.1 ∧ M.2.2 ≤ fr.2.2.2.2.2 ∧ fr.2.1.length = L.length
theorem mo_ldi {k len pc : Nat} {L : mm_L} {st : List Value} {M : mm_M} {fr : mm_F} (h : mm_ldi k len pc L st M = some fr) : mm_o2 L M fr := by
  unfold mm_ldi at h
  repeat' split at h
  all_goals first | (cases h; done) | (cases h; exact ⟨by simp [mm_put, mm_add], by simp [mm_put, mm_add], by simp⟩)
theorem mo_lda {k len pc : Nat} {L : mm_L} {st : List Value} {M : mm_M} {fr : mm_F} (h : mm_lda k len pc L st M = some fr) : mm_o2 L M fr := by
  unfold mm_lda at h
  repeat' split at h
  all_goals first | (cases h; done) | (cases h; exact ⟨by simp [mm_put, mm_add], by simp [mm_put, mm_add], by simp⟩)
theorem mo_sti {k len pc : Nat} {L : mm_L} {st : List Value} {M : mm_M} {fr : mm_F} (h : mm_sti k len pc L st M = some fr) : mm_o2 L M fr := by
  unfold mm_sti at h
  repeat' split at h
  all_goals first | (cases h; done) | (cases h; exact ⟨by simp [mm_put, mm_add], by simp [mm_put, mm_add], by simp⟩)
theorem mo_sta {k len pc : Nat} {L : mm_L} {st : List Value} {M : mm_M} {fr : mm_F} (h : mm_sta k len pc L st M = some fr) : mm_o2 L M fr := by
  unfold mm_sta at h
  repeat' split at h
  all_goals first | (cases h; done) | (cases h; exact ⟨by simp [mm_put, mm_add], by simp [mm_put, mm_add], by simp⟩)
theorem mo_inc {k : Nat} {n : Int} {pc : Nat} {L : mm_L} {st : List Value} {M : mm_M} {fr : mm_F} (h : mm_inc k n pc L st M = some fr) : mm_o2 L M fr := by
  unfold mm_inc at h
  repeat' split at h
  all_goals first | (cases h; done) | (cases h; exact ⟨by simp [mm_put, mm_add], by simp [mm_put, mm_add], by simp⟩)
theorem mo_b2 {f : Int32 → Int32 → Int32} {pc : Nat} {L : mm_L} {st : List Value} {M : mm_M} {fr : mm_F} (h : mm_b2 f pc L st M = some fr) : mm_o2 L M fr := by
  unfold mm_b2 at h
  repeat' split at h
  all_goals first | (cases h; done) | (cases h; exact ⟨by simp [mm_put, mm_add], by simp [mm_put, mm_add], by simp⟩)
theorem mo_b3 {f : Int32 → Int32 → Int32} {pc : Nat} {L : mm_L} {st : List Value} {M : mm_M} {fr : mm_F} (h : mm_b3 f pc L st M = some fr) : mm_o2 L M fr := by
  unfold mm_b3 at h
  repeat' split at h
  all_goals first | (cases h; done) | (cases h; exact ⟨by simp [mm_put, mm_add], by simp [mm_put, mm_add], by simp⟩)
theorem mo_br {bb : Bool} {off : Int} {pc : Nat} {L : mm_L} {st : List Value} {M : mm_M} {fr : mm_F} (h : mm_br bb off pc L st M = some fr) : mm_o2 L M fr := by
  unfold mm_br at h
  repeat' split at h
  all_goals first | (cases h; done) | (cases h; exact ⟨by simp [mm_put, mm_add], by simp [mm_put, mm_add], by simp⟩)
theorem mo_ia {t : Nat} {S : mm_S} {pc : Nat} {L : mm_L} {st : List Value} {M : mm_M} {fr : mm_F} (h : mm_ia t S pc L st M = some fr) : mm_o2 L M fr := by
  unfold mm_ia at h
  repeat' split at h
  all_goals first | (cases h; done) | (cases h; exact ⟨by simp [mm_put, mm_add], by simp [mm_put, mm_add], by simp⟩)
theorem mo_aa {pc : Nat} {L : mm_L} {st : List Value} {M : mm_M} {fr : mm_F} (h : mm_aa pc L st M = some fr) : mm_o2 L M fr := by
  unfold mm_aa at h
  repeat' split at h
  all_goals first | (cases h; done) | (cases h; exact ⟨by simp [mm_put, mm_add], by simp [mm_put, mm_add], by simp⟩)
theorem mo_is {t pc : Nat} {L : mm_L} {st : List Value} {M : mm_M} {fr : mm_F} (h : mm_is t pc L st M = some fr) : mm_o2 L M fr := by
  unfold mm_is at h
  repeat' split at h
  all_goals first | (cases h; done) | (cases h; exact ⟨by simp [mm_put, mm_add], by simp [mm_put, mm_add], by simp⟩)
theorem mo_as {pc : Nat} {L : mm_L} {st : List Value} {M : mm_M} {fr : mm_F} (h : mm_as pc L st M = some fr) : mm_o2 L M fr := by
  unfold mm_as at h
  repeat' split at h
  all_goals first | (cases h; done) | (cases h; exact ⟨by simp [mm_put, mm_add], by simp [mm_put, mm_add], by simp⟩)
theorem mo_al {S : mm_S} {pc : Nat} {L : mm_L} {st : List Value} {M : mm_M} {fr : mm_F} (h : mm_al S pc L st M = some fr) : mm_o2 L M fr := by
  unfold mm_al at h
  repeat' split at h
  all_goals first | (cases h; done) | (cases h; exact ⟨by simp [mm_put, mm_add], by simp [mm_put, mm_add], by simp⟩)
theorem mo_gf {o k pc : Nat} {L : mm_L} {st : List Value} {M : mm_M} {fr : mm_F} (h : mm_gf o k pc L st M = some fr) : mm_o2 L M fr := by
  unfold mm_gf at h
  repeat' split at h
  all_goals first | (cases h; done) | (cases h; exact ⟨by simp [mm_put, mm_add], by simp [mm_put, mm_add], by simp⟩)
theorem mo_pf {o k : Nat} {ini : Bool} {pc : Nat} {L : mm_L} {st : List Value} {M : mm_M} {fr : mm_F} (h : mm_pf o k ini pc L st M = some fr) : mm_o2 L M fr := by
  unfold mm_pf at h
  repeat' split at h
  all_goals first | (cases h; done) | (cases h; exact ⟨by simp [mm_put, mm_add], by simp [mm_put, mm_add], by simp⟩)
theorem mo_nw {o k pc : Nat} {L : mm_L} {st : List Value} {M : mm_M} {fr : mm_F} (h : mm_nw o k pc L st M = some fr) : mm_o2 L M fr := by
  unfold mm_nw at h
  repeat' split at h
  all_goals first | (cases h; done) | (cases h; exact ⟨by simp [mm_put, mm_add], by simp [mm_put, mm_add], by simp⟩)
theorem mo_na {t pc : Nat} {L : mm_L} {st : List Value} {M : mm_M} {fr : mm_F} (h : mm_na t pc L st M = some fr) : mm_o2 L M fr := by
  unfold mm_na at h
  repeat' split at h
  all_goals first | (cases h; done) | (cases h; exact ⟨by simp [mm_put, mm_add], by simp [mm_put, mm_add], by simp⟩)
theorem mo_an {o k pc : Nat} {L : mm_L} {st : List Value} {M : mm_M} {fr : mm_F} (h : mm_an o k pc L st M = some fr) : mm_o2 L M fr := by
  unfold mm_an at h
  repeat' split at h
  all_goals first | (cases h; done) | (cases h; exact ⟨by simp [mm_put, mm_add], by simp [mm_put, mm_add], by simp⟩)
theorem mo_ts {d lo hi : Int} {offs : Array Int} {pc : Nat} {L : mm_L} {st : List Value} {M : mm_M} {fr : mm_F} (h : mm_ts d lo hi offs pc L st M = some fr) : mm_o2 L M fr := by
  unfold mm_ts at h
  repeat' split at h
  all_goals first | (cases h; done) | (cases h; exact ⟨by simp [mm_put, mm_add], by simp [mm_put, mm_add], by simp⟩)
theorem mo_lw {d : Int} {ps : Array (Int × Int)} {pc : Nat} {L : mm_L} {st : List Value} {M : mm_M} {fr : mm_F} (h : mm_lw d ps pc L st M = some fr) : mm_o2 L M fr := by
  unfold mm_lw at h
  repeat' split at h
  all_goals first | (cases h; done) | (cases h; exact ⟨by simp [mm_put, mm_add], by simp [mm_put, mm_add], by simp⟩)
theorem mm_st_mono {o : Nat} {ini : Bool} {S : mm_S} {i : Instr} {pc : Nat} {L : mm_L} {st : List Value} {M : mm_M} {fr : mm_F} (h : mm_st o ini S i pc L st M = some fr) : mm_o2 L M fr := by
  unfold mm_st at h
  split at h
  all_goals first
    | exact mo_ldi h
    | exact mo_lda h
    | exact mo_sti h
    | exact mo_sta h
    | exact mo_inc h
    | exact mo_b2 h
    | exact mo_b3 h
    | exact mo_br h
    | exact mo_ia h
    | exact mo_aa h
    | exact mo_is h
    | exact mo_as h
    | exact mo_al h
    | exact mo_gf h
    | exact mo_pf h
    | exact mo_nw h
    | exact mo_na h
    | exact mo_an h
    | exact mo_ts h
    | exact mo_lw h
    | (cases h; done)
    | (cases h; exact ⟨Nat.le_refl _, Nat.le_refl _, rfl⟩)
    | (split at h <;> first | (cases h; done) | (cases h; exact ⟨Nat.le_refl _, Nat.le_refl _, rfl⟩) | exact mo_br h | (split at h <;> first | (cases h; done) | (cases h; exact ⟨Nat.le_refl _, Nat.le_refl _, rfl⟩)))
theorem mm_mono (S : mm_S) : ∀ (n d mi pc : Nat) (L : mm_L) (st : List Value) (M : mm_M) (v : Option Value) (M' : mm_M), mm_ex S n d mi pc L st M = some (v, M') → M.2.1 ≤ M'.2.1 ∧ M.2.2 ≤ M'.2.2 := by
  intro n
  induction n with
  | zero => intro d mi pc L st M v M' h; cases h
  | succ n ih =>
    intro d mi pc L st M v M' h
    unfold mm_ex at h
    split at h
    · cases h
    · split at h
      · split at h
        · cases h
        · split at h
          · cases h
          · next v1 M1 hc =>
            have h1 := ih _ _ _ _ _ _ _ _ hc
            have h2 := ih _ _ _ _ _ _ _ _ h
            exact ⟨Nat.le_trans h1.1 h2.1, Nat.le_trans h1.2 h2.2⟩
      · split at h
        · cases h
          exact ⟨Nat.le_refl _, Nat.le_refl _⟩
        · split at h
          · exact ih _ _ _ _ _ _ _ _ h
          · split at h
            · cases h
            · next hst =>
              have h1 := mm_st_mono hst
              have h2 := ih _ _ _ _ _ _ _ _ h
              exact ⟨Nat.le_trans h1.1 h2.1, Nat.le_trans h1.2.1 h2.2⟩
def mm_Qc (D : va_G) (dA : Nat → ClassId) (b h0 : Nat) (v : Option Value) (M' : mm_M) : Array Value → State → Outcome → State → Prop := fun _ st oc t => (oc = .returned (v.map (mm_up b h0)) ∧ mm_Wd D dA b h0 M' t.heap) ∧ va_F (mm_A h0) st t
def mm_Pc (D : va_G) (dA : Nat → ClassId) (b h0 : Nat) (S : mm_S) (as : List Value) (M : mm_M) : Array Value → State → Prop := va_Pc (as.map (mm_up b h0)) (fun U => mm_Wd D dA b h0 M U.heap ∧ va_K D vwCl (mm_tys dA) U ∧ mm_Nx U ∧ va_X b S.1 S.2 U U.heap ∧ h0 ≤ U.heap.size)
theorem mm_Pc_blind {D : va_G} {dA : Nat → ClassId} {b h0 : Nat} {S : mm_S} {as : List Value} {M : mm_M} : FrameBlind (mm_Pc D dA b h0 S as M) := fun a U g mk q => by
  obtain ⟨q0, q1, q2, q3, q4, q5⟩ := q
  exact ⟨q0, q1, va_K.moved (u := U) (U := U.calling g mk a) (Vm.Alike.refl U.vm) q2, ⟨fun a' i x h hw => va_Nw.same (u := U) (U := U.calling g mk a) rfl rfl (q3.1 a' i x h hw), fun C hw => va_AO.moved (u := U) (U := U.calling g mk a) (Vm.Alike.refl U.vm) (q3.2 C hw)⟩, va_X.moved (u := U) (U := U.calling g mk a) (Vm.Alike.refl U.vm) q4, q5⟩
section MMC
variable {p : Program} {l : Launch} {e : Env} {R : Room} {s : State} {m : MethodId} {args : Array Value} {below : List Frame} {meth : Method} {c : Code} {H : Heap} {locs : List Loc} {Q : State → Prop} {D : va_G} {dA : Nat → ClassId} {b h0 : Nat} {S : mm_S} {mi pc n0 u0 : Nat} {ls : Array Slot} {L : mm_L} {st : List Value} {M : mm_M}
theorem mm_cont {cells slots mc ms : Nat} {a : Array Value} {rest st0 : List Value} {v : Option Value} {M1 : mm_M} (hr : va_Run p l e R s m args below meth c H locs cells slots mc ms (F0 m pc ls st0) rest (mm_Qc D dA b h0 v M1 a) (mm_A h0)) (hS : va_S (mm_A h0) s.heap H locs)
    (kk : ∀ (H1 : Heap) (locs1 : List Loc), mm_Wd D dA b h0 M1 H1 → va_S (mm_A h0) s.heap H1 locs1 → W p l e R s m args below meth c H1 locs1 (cells + mc) (slots + ms) Q (F0 m (pc + 3) ls ((v.map (mm_up b h0)).toList ++ rest))) : W p l e R s m args below meth c H locs cells slots Q (F0 m pc ls st0) := by
  intro T hT X
  obtain ⟨v', st₀, t, T', L, h0', X', hL, e1, e2, ⟨⟨hv, hb⟩, hz, hk⟩, st⟩ := hr T hT X
  cases hv
  rw [h0'] at hz hk
  obtain ⟨t2, a1, b1⟩ := kk T'.heap (locs ++ L) (by rw [e1]; exact hb) ⟨Nat.le_trans hS.1 (by rw [e1]; exact hz), fun q h1 h2 => by rw [e1, hk q (Nat.lt_of_lt_of_le h1 hS.1) h2]; exact hS.2.1 q h1 h2, fun q hq => by
      rcases List.mem_append.mp hq with h | h
      · exact hS.2.2 q h
      · exact hL q h⟩ T' rfl X'
  exact ⟨t2, st t2 a1, b1⟩
theorem mm_ret {cells slots len : Nat} {i : Instr} {v : Option Value} (C : mm_Cx D dA b h0 S p s m args meth c mi) (hd : decode (mm_by mi) pc = .ok (i, len)) (hln : mm_ln i len = true) (hrv : mm_rv i (mm_rt mi) st = some v) (hW : mm_Wd D dA b h0 M H) (hS : va_S (mm_A h0) s.heap H locs) : W p l e R s m args below meth c H locs cells slots (MQ below (mm_Qc D dA b h0 v M) args s cells slots (mm_A h0)) (F0 m pc ls (st.map (mm_up b h0))) := by
  obtain ⟨hx, hb, hml, hrt, hlk, hown, hts, hnx, hK, hini, hX, hbl, hh0⟩ := C
  unfold mm_rv at hrv
  split at hrv
  · next x e1 =>
    cases hrv
    have hn := eq_of_beq (show (len == 1) = true from hln)
    subst hn
    exact W.iret (hlocks := hlk) hx hb (hrt.trans e1) (fun t ht hw => ⟨⟨rfl, by rw [ht]; exact hW⟩, hS.F ht⟩) hS.2.2 hd
  · next x e1 =>
    split at hrv
    · next hx01 =>
      cases hrv
      have hn := eq_of_beq (show (len == 1) = true from hln)
      subst hn
      exact W.zret (hlocks := hlk) hx hb (hrt.trans e1) (by rcases hx01 with rfl | rfl <;> rfl) (fun t ht hw => ⟨⟨rfl, by rw [ht]; exact hW⟩, hS.F ht⟩) hS.2.2 hd
    · cases hrv
  · next e1 =>
    cases hrv
    have hn := eq_of_beq (show (len == 1) = true from hln)
    subst hn
    exact W.vret (hlocks := hlk) hx hb (hrt.trans e1) (fun t ht hw => ⟨⟨rfl, by rw [ht]; exact hW⟩, hS.F ht⟩) hS.2.2 hd
  · next cn a e1 =>
    cases hrv
    have hn := eq_of_beq (show (len == 1) = true from hln)
    subst hn
    exact W.aret (hlocks := hlk) (v := .ref (mm_ad b h0 a)) hx hb (hrt.trans e1) (Or.inl ⟨_, rfl⟩) (Or.inr ⟨_, rfl⟩) (fun t ht hw => ⟨⟨rfl, by rw [ht]; exact hW⟩, hS.F ht⟩) hS.2.2 hd
  · cases hrv
theorem mm_jt_ok {o k t q : Nat} (h : mm_l2 mm_jT o k = some (t, q)) : (t = 0 → (.methodLink (mm_cn o) k Lib.Math.max.name : Cond) ∈ mm_tb) ∧ (t = 1 → (.methodLink (mm_cn o) k Lib.Math.min.name : Cond) ∈ mm_tb) ∧ (t = 2 → (.methodLink (mm_cn o) k Lib.Math.abs.name : Cond) ∈ mm_tb) := by
  have h1 := List.all_eq_true.mp mm_jok_all _ (mm_l2_mem h)
  refine ⟨fun e => ?_, fun e => ?_, fun e => ?_⟩
  · subst e
    exact mm_at_mem h1 rfl
  · subst e
    exact mm_at_mem h1 rfl
  · subst e
    exact mm_at_mem h1 rfl
theorem mm_sumup (r : List Value) : ((r.map (mm_up b h0)).map fun v => v.category).sum = (r.map fun v => v.category).sum := by
  rw [List.map_map]
  congr 1
  apply List.map_congr_left
  intro v _
  exact mm_up_cat b h0 v
/-- a call that the kit knows -/
theorem mm_nat {d len : Nat} {i : Instr} {r : List Value} (C : mm_Cx D dA b h0 S p s m args meth c mi) (hW : mm_Wd D dA b h0 M H) (hS : va_S (mm_A h0) s.heap H locs) (hl : mm_lh b h0 ls L) (hL : L.length = mm_mx mi) (hRc : M.2.1 ≤ R.cells + n0) (hRs : M.2.2 ≤ R.slots + u0) (hRf : d ≤ R.frames) (hRl : 60 * d ≤ R.locals) (hd : decode (mm_by mi) pc = .ok (i, len)) (hln : mm_ln i len = true) (hoi : mm_oi (mm_ow mi) d i st = some r)
    (go : W p l e R s m args below meth c H locs (M.2.1 - n0) (M.2.2 - u0) Q (F0 m (pc + 3) ls (r.map (mm_up b h0)))) : W p l e R s m args below meth c H locs (M.2.1 - n0) (M.2.2 - u0) Q (F0 m pc ls (st.map (mm_up b h0))) := by
  obtain ⟨hx, hb, hml, hrt, hlk, hown, hts, hnx, hK, hini, hX, hbl, hh0⟩ := C
  have hsz : ls.size = c.maxLocals := by rw [hml, ← hL]; exact hl.1
  unfold mm_oi at hoi
  split at hoi
  · next k a r' =>
    split at hoi
    · next hc =>
      cases hoi
      obtain ⟨h1, h2, h3⟩ := hc
      have hn := eq_of_beq (show (len == 3) = true from hln)
      subst hn
      obtain ⟨q, hq⟩ := Option.isSome_iff_exists.mp h1
      have hlink : (.methodLink (mm_cn (mm_ow mi)) k Lib.objectInit : Cond) ∈ mm_tb := mm_at_mem (List.all_eq_true.mp mm_ook_all _ (mm_l2_mem hq)) rfl
      refine W.objInit (a := mm_ad b h0 a) (rest := r.map (mm_up b h0)) hx hb hown (hts _ hlink) (hts _ mm_oi1) (hts _ mm_oi2) rfl hsz rfl hd (by omega) ?_ go
      have h4 := lv_room (m := m) (pc := pc) (ls := ls) (rest := (Value.ref a :: r).map (mm_up b h0)) (st := r.map (mm_up b h0)) (by rw [mm_sumup]; exact h3)
      omega
    · cases hoi
  · next k y r' =>
    split at hoi
    · next hc =>
      obtain ⟨h2, h3⟩ := hc
      have hn := eq_of_beq (show (len == 3) = true from hln)
      subst hn
      split at hoi
      · next q x r2 hq =>
        cases hoi
        have h4 : ((r2.map (mm_up b h0)).map fun v => v.category).sum + 13 ≤ R.locals := by
          rw [mm_sumup]
          have : (Value.int x).category = 1 := rfl
          simp only [List.map_cons, List.sum_cons] at h3
          omega
        exact va_mmax (rest := r2.map (mm_up b h0)) hx hb hsz.symm hown (hts _ ((mm_jt_ok hq).1 rfl)) (hts _ mm_js0) (hts _ mm_ji) (hts _ mm_jc0) (by omega) h4 (by omega) (by omega) hd go
      · next q x r2 hq =>
        cases hoi
        have h4 : ((r2.map (mm_up b h0)).map fun v => v.category).sum + 13 ≤ R.locals := by
          rw [mm_sumup]
          simp only [List.map_cons, List.sum_cons] at h3
          omega
        exact va_mmin (rest := r2.map (mm_up b h0)) hx hb hsz.symm hown (hts _ ((mm_jt_ok hq).2.1 rfl)) (hts _ mm_js1) (hts _ mm_ji) (hts _ mm_jc1) (by omega) h4 (by omega) (by omega) hd go
      · next r2 _ _ q hq =>
        cases hoi
        have h4 : ((r2.map (mm_up b h0)).map fun v => v.category).sum + 13 ≤ R.locals := by
          rw [mm_sumup]
          omega
        exact va_mabs (rest := r2.map (mm_up b h0)) hx hb hsz.symm hown (hts _ ((mm_jt_ok hq).2.2 rfl)) (hts _ mm_js2) (hts _ mm_ji) (hts _ mm_jc2) (by omega) h4 (by omega) (by omega) hd go
      · cases hoi
    · cases hoi
  · cases hoi
/-- what the tables say of a call -/
theorem mm_mt_ok {o idx k kd ne q : Nat} (h : mm_l2 mm_mT o idx = some (k, kd, ne, q)) : ((ne = 0 → (.methodLink (mm_cn o) idx (mm_y k) : Cond) ∈ mm_tb) ∧ (ne ≠ 0 → (.methodLinkNest (mm_cn o) idx (mm_y k) "MaskDesk" : Cond) ∈ lw_tbl)) ∧ (1 ≤ k ∧ k < 205 ∧ mm_nn kd k ≤ mm_mx k ∧ plainName (mm_y k).cls = true) ∧ (kd = 1 → (.static (mm_y k) : Cond) ∈ mm_tb) ∧ (kd ≠ 1 → (.instanceMethod (mm_y k) : Cond) ∈ mm_tb) ∧ (kd = 0 → (.selects (mm_cn (mm_ow k)) (mm_y k) (mm_y k) : Cond) ∈ mm_tb ∧ mm_ow k < 13) ∧ (kd = 2 → (mm_y k).name = "<init>" ∧ mm_rt k = none) := by
  have h1 := List.all_eq_true.mp mm_mok_all _ (mm_l2_mem h)
  unfold mm_mok at h1
  rw [Bool.and_eq_true, Bool.and_eq_true] at h1
  obtain ⟨⟨h1, h2⟩, h3⟩ := h1
  refine ⟨⟨fun e => ?_, fun e => ?_⟩, of_decide_eq_true h2, fun e => ?_, fun e => ?_, fun e => ?_, fun e => ?_⟩
  · rw [if_pos e] at h1
    exact mm_at_mem h1 rfl
  · rw [if_neg e] at h1
    exact mm_at_in h1
  · rw [if_pos e] at h3
    exact mm_at_mem h3 rfl
  · rw [if_neg e, Bool.and_eq_true] at h3
    exact mm_at_mem h3.1 rfl
  · subst e
    rw [if_neg (by decide : ¬ (0 : Nat) = 1), if_pos rfl, Bool.and_eq_true, Bool.and_eq_true] at h3
    exact ⟨mm_at_mem h3.2.1 rfl, of_decide_eq_true h3.2.2⟩
  · subst e
    rw [if_neg (by decide : ¬ (2 : Nat) = 1), if_neg (by decide : ¬ (2 : Nat) = 0), Bool.and_eq_true] at h3
    exact (of_decide_eq_true h3.2).2
theorem mm_kt_ok {k : Nat} (h : k < 205) : (.initialized (mm_cn (mm_ow k)) : Cond) ∈ mm_tb ∧ (mm_y k).cls = mm_cn (mm_ow k) ∧ (mm_y k).cls ≠ "java/lang/invoke/MethodHandle" ∧ (mm_y k).cls ≠ "java/lang/invoke/VarHandle" ∧ (parseMethodDescriptor (mm_y k).desc).map (fun d => d.parameters.length) = some (mm_np k) ∧ mm_mx k ≤ 30 ∧ (mm_in k = true → (mm_y k).name = "<init>") := by
  have h1 := List.all_eq_true.mp mm_kok_all k (List.mem_range.mpr h)
  unfold mm_kok at h1
  rw [Bool.and_eq_true] at h1
  exact ⟨mm_at_mem h1.1 rfl, of_decide_eq_true h1.2⟩
/-- a call by the callee's contract -/
theorem mm_call {d k len : Nat} {i : Instr} {as r : List Value} {v : Option Value} {M1 : mm_M} (C : mm_Cx D dA b h0 S p s m args meth c mi) (hW : mm_Wd D dA b h0 M H) (hS : va_S (mm_A h0) s.heap H locs) (hl : mm_lh b h0 ls L) (hL : L.length = mm_mx mi) (hn0 : n0 ≤ M.2.1) (hu0 : u0 ≤ M.2.2) (hm1 : M.2.1 ≤ M1.2.1) (hm2 : M.2.2 ≤ M1.2.2) (hRc : M1.2.1 ≤ R.cells + n0) (hRs : M1.2.2 ≤ R.slots + u0) (hRf : d + 1 ≤ R.frames) (hRl : 60 * (d + 1) ≤ R.locals) (hd : decode (mm_by mi) pc = .ok (i, len)) (hln : mm_ln i len = true) (hcl : mm_cl (mm_ow mi) i st M = some (k, as, r))
    (hmet : (1 ≤ k ∧ k < 205) → plainName (mm_y k).cls = true → (∀ v ∈ as, v.category = 1) → as.length ≤ mm_mx k → Met l (mm_y k) (Cond.code (mm_y k) (mm_by k) (mm_mx k) (mm_rt k) :: mm_tb) { frames := d, cells := M1.2.1 - M.2.1, slots := M1.2.2 - M.2.2, locals := 60 * d } (mm_Pc D dA b h0 S as M) (mm_Qc D dA b h0 v M1) (M1.2.1 - M.2.1) (M1.2.2 - M.2.2) (mm_A h0))
    (go : ∀ (H1 : Heap) (locs1 : List Loc), mm_Wd D dA b h0 M1 H1 → va_S (mm_A h0) s.heap H1 locs1 → W p l e R s m args below meth c H1 locs1 (M1.2.1 - n0) (M1.2.2 - u0) Q (F0 m (pc + 3) ls ((v.toList ++ r).map (mm_up b h0)))) : W p l e R s m args below meth c H locs (M.2.1 - n0) (M.2.2 - u0) Q (F0 m pc ls (st.map (mm_up b h0))) := by
  obtain ⟨hx, hb, hml, hrt, hlk, hown, hts, hnx, hK, hini, hX, hbl, hh0⟩ := C
  obtain ⟨kind, idx, hck, hi⟩ : ∃ kind idx, mm_ck (mm_ow mi) kind idx st M = some (k, as, r) ∧ ((kind = 0 ∧ i = .invokevirtual idx) ∨ (kind = 1 ∧ i = .invokestatic idx) ∨ (kind = 2 ∧ i = .invokespecial idx)) := by
    unfold mm_cl at hcl
    split at hcl
    · exact ⟨_, _, hcl, Or.inl ⟨rfl, rfl⟩⟩
    · exact ⟨_, _, hcl, Or.inr (Or.inl ⟨rfl, rfl⟩)⟩
    · exact ⟨_, _, hcl, Or.inr (Or.inr ⟨rfl, rfl⟩)⟩
    · cases hcl
  have hlen3 : len = 3 := by
    rcases hi with ⟨-, rfl⟩ | ⟨-, rfl⟩ | ⟨-, rfl⟩ <;> exact eq_of_beq (show (len == 3) = true from hln)
  subst hlen3
  unfold mm_ck at hck
  split at hck
  · next k' kd ne q hq =>
    split at hck
    · next hc =>
      obtain ⟨⟨hkd, hnn⟩, hsum, hcat, hrc⟩ := hc
      subst hkd
      obtain ⟨hlinks, ⟨k1, k2, k3, k4⟩, hst1, hin1, hse1, hsp1⟩ := mm_mt_ok hq
      have hkk : k' = k := by cases hck; rfl
      subst hkk
      have has : as = (st.take (mm_nn kd k')).reverse := by cases hck; rfl
      have hr' : r = st.drop (mm_nn kd k') := by cases hck; rfl
      have hstk : st = as.reverse ++ r := by rw [has, hr', List.reverse_reverse, List.take_append_drop]
      have haslen : as.length = mm_nn kd k' := by rw [has, List.length_reverse, List.length_take]; omega
      have hcat' : ∀ v ∈ as, v.category = 1 := by
        intro v hv
        rw [has] at hv
        exact eq_of_beq (List.all_eq_true.mp hcat v (List.mem_reverse.mp hv))
      obtain ⟨t1, t2, t3, t4, t5, t6, t7⟩ := mm_kt_ok k2
      have hm := hmet ⟨k1, k2⟩ k4 hcat' (by rw [haslen]; exact k3)
      have hcode : (.code (mm_y k') (mm_by k') (mm_mx k') (mm_rt k') : Cond) ∈ mm_tb := cq_205 k' k2 k1
      have hgood : GoodIn mm_tb (Cond.code (mm_y k') (mm_by k') (mm_mx k') (mm_rt k') :: mm_tb) := fun w hw => (List.mem_cons.mp hw).elim (fun e => by rw [e]; exact mm_good _ hcode) (fun h => mm_good w h)
      have hroom : (({ frames := d, cells := M1.2.1 - M.2.1, slots := M1.2.2 - M.2.2, locals := 60 * d } : Room).frames + 1 ≤ R.frames ∧ 8 + (mm_mx k' + 11) + ({ frames := d, cells := M1.2.1 - M.2.1, slots := M1.2.2 - M.2.2, locals := 60 * d } : Room).locals ≤ R.locals) := ⟨hRf, by show 8 + (mm_mx k' + 11) + 60 * d ≤ R.locals; omega⟩
      have hf : M.2.1 - n0 + (M1.2.1 - M.2.1) ≤ R.cells ∧ M.2.2 - u0 + (M1.2.2 - M.2.2) ≤ R.slots := ⟨by omega, by omega⟩
      have hsz : ls.size = mm_mx mi := by rw [← hL]; exact hl.1
      have hrsum : ((r.map (mm_up b h0)).map fun v => v.category).sum ≤ 8 := by rw [mm_sumup, hr']; exact hsum
      have hPc : ∀ U : State, U.heap = H → s.WarmedH U.vm → mm_Pc D dA b h0 S as M (as.map (mm_up b h0)).toArray U := by
        intro U hU hWm
        refine ⟨rfl, by rw [hU]; exact hW, va_K.moved hWm.alike hK, mm_Nx_moved hWm hnx, ?_, by rw [hU]; exact Nat.le_trans hh0 hS.1⟩
        rw [hU]
        exact (hX.kept (H1 := H) (hS.2.1 b (Nat.lt_of_lt_of_le hbl hh0) (Nat.not_le.mpr hbl))).moved hWm.alike
      have go2 : ∀ (H1 : Heap) (locs1 : List Loc), mm_Wd D dA b h0 M1 H1 → va_S (mm_A h0) s.heap H1 locs1 → W p l e R s m args below meth c H1 locs1 (M.2.1 - n0 + (M1.2.1 - M.2.1)) (M.2.2 - u0 + (M1.2.2 - M.2.2)) Q (F0 m (pc + 3) ls ((v.map (mm_up b h0)).toList ++ r.map (mm_up b h0))) := by
        intro H1 locs1 hW1 hS1
        have g := go H1 locs1 hW1 hS1
        rw [show M.2.1 - n0 + (M1.2.1 - M.2.1) = M1.2.1 - n0 by omega, show M.2.2 - u0 + (M1.2.2 - M.2.2) = M1.2.2 - u0 by omega]
        rw [List.map_append] at g
        have e1 : (v.map (mm_up b h0)).toList = v.toList.map (mm_up b h0) := by cases v <;> rfl
        rw [e1]
        exact g
      rcases hi with ⟨rfl, rfl⟩ | ⟨rfl, rfl⟩ | ⟨rfl, rfl⟩
      · -- invokevirtual
        unfold mm_rc at hrc
        rw [if_neg (by decide : ¬ (0 : Nat) = 1), ← has] at hrc
        split at hrc
        · next a as' =>
          split at hrc
          · next ci fs hM =>
            have hci : ci = mm_ow k' := eq_of_beq (by simpa using hrc)
            subst hci
            obtain ⟨s1, s2⟩ := hse1 rfl
            obtain ⟨q0, ha, hlt, had, hws⟩ := mm_ws_at hW hM
            rw [mm_uE_o] at hws
            have hrecv := va_recv hK hW.2.2.2 (mm_cl_ok s2).1 hws
            rw [← had] at hrecv
            have hlen2 : (as'.map (mm_up b h0)).length = mm_np k' := by
              have h5 : (Value.ref a :: as').length = mm_np k' + 1 := haslen
              rw [List.length_map]
              simpa using h5
            have hstk2 : st.map (mm_up b h0) = (as'.map (mm_up b h0)).reverse ++ .ref (mm_ad b h0 a) :: r.map (mm_up b h0) := by
              rw [hstk]
              simp [mm_up]
            rw [hstk2]
            by_cases hne : ne = 0
            · refine mm_cont (va_runV (C := mm_cn (mm_ow k')) (b := mm_ad b h0 a) (As := as'.map (mm_up b h0)) (rest := r.map (mm_up b h0)) ⟨hx, hb, hml, hown, hts⟩ hm (cwV (mm_np k') hts (fun w hw => ?_) rfl rfl rfl ⟨t2, t3, t4, t5⟩ hroom) ⟨mm_Pc_blind, hrecv, hPc⟩ rfl hlen2 hsz rfl (lv_room hrsum) hd hf) hS go2
              unfold wsV at hw
              rcases List.mem_append.mp hw with hw | hw
              · simp only [List.mem_cons, List.not_mem_nil, or_false] at hw
                rcases hw with rfl | rfl | rfl | rfl
                · exact mm_good _ (hlinks.1 hne)
                · exact mm_good _ (hin1 (by decide))
                · exact mm_good _ s1
                · exact mm_good _ t1
              · exact hgood w hw
            · exact mm_cont (va_runVN (C := mm_cn (mm_ow k')) (b := mm_ad b h0 a) (As := as'.map (mm_up b h0)) (rest := r.map (mm_up b h0)) ⟨hx, hb, hml, hown, hts⟩ hm ⟨va_cnB (mm_np k') hts hgood rfl rfl rfl (hnx.1 _ _ _ _ (hlinks.2 hne)) (by rw [t2]; exact hts _ t1) ⟨t3, t4, t5⟩ hroom, hts _ (hin1 (by decide)), hts _ s1⟩ ⟨mm_Pc_blind, hrecv, hPc⟩ rfl hlen2 hsz rfl (lv_room hrsum) hd hf) hS go2
          · simp at hrc
        · cases hrc
      · -- invokestatic
        have hlen2 : (as.map (mm_up b h0)).length = mm_np k' := by
          rw [List.length_map, haslen]
          rfl
        have hstk2 : st.map (mm_up b h0) = (as.map (mm_up b h0)).reverse ++ r.map (mm_up b h0) := by
          rw [hstk]
          simp
        rw [hstk2]
        by_cases hne : ne = 0
        · refine mm_cont (va_runS (As := as.map (mm_up b h0)) (rest := r.map (mm_up b h0)) ⟨hx, hb, hml, hown, hts⟩ hm (va_cwS (mm_np k') hts (fun w hw => ?_) rfl rfl rfl ⟨t3, t4, t5⟩ hroom) ⟨mm_Pc_blind, hPc⟩ rfl hlen2 hsz rfl (lv_room hrsum) hd hf) hS go2
          unfold va_wsS at hw
          rcases List.mem_append.mp hw with hw | hw
          · simp only [List.mem_cons, List.not_mem_nil, or_false] at hw
            rcases hw with rfl | rfl | rfl
            · exact mm_good _ (hlinks.1 hne)
            · exact mm_good _ (hst1 rfl)
            · rw [t2]
              exact mm_good _ t1
          · exact hgood w hw
        · exact mm_cont (va_runSN (As := as.map (mm_up b h0)) (rest := r.map (mm_up b h0)) ⟨hx, hb, hml, hown, hts⟩ hm ⟨va_cnB (mm_np k') hts hgood rfl rfl rfl (hnx.1 _ _ _ _ (hlinks.2 hne)) (by rw [t2]; exact hts _ t1) ⟨t3, t4, t5⟩ hroom, hts _ (hst1 rfl), trivial⟩ ⟨mm_Pc_blind, hPc⟩ rfl hlen2 hsz rfl (lv_room hrsum) hd hf) hS go2
      · -- invokespecial
        unfold mm_rc at hrc
        rw [if_neg (by decide : ¬ (2 : Nat) = 1), ← has] at hrc
        obtain ⟨p1, p2⟩ := hsp1 rfl
        split at hrc
        · next a as' =>
          have hlen2 : (as'.map (mm_up b h0)).length = mm_np k' := by
            have h5 : (Value.ref a :: as').length = mm_np k' + 1 := haslen
            rw [List.length_map]
            simpa using h5
          have hstk2 : st.map (mm_up b h0) = (as'.map (mm_up b h0)).reverse ++ .ref (mm_ad b h0 a) :: r.map (mm_up b h0) := by
            rw [hstk]
            simp [mm_up]
          rw [hstk2]
          have hm' := hm
          rw [p2] at hm' hgood
          by_cases hne : ne = 0
          · exact mm_cont (va_runI (b := mm_ad b h0 a) (As := as'.map (mm_up b h0)) (rest := r.map (mm_up b h0)) ⟨hx, hb, hml, hown, hts⟩ hm' (cwI (mm_np k') hts hgood rfl rfl rfl (by rw [t2]; exact hts _ t1) (hts _ (hlinks.1 hne)) (hts _ (hin1 (by decide))) p1 ⟨t3, t4, t5⟩ hroom) ⟨mm_Pc_blind, hPc⟩ rfl hlen2 hsz rfl (lv_room hrsum) hd hf) hS go2
          · exact mm_cont (va_runIN (b := mm_ad b h0 a) (As := as'.map (mm_up b h0)) (rest := r.map (mm_up b h0)) ⟨hx, hb, hml, hown, hts⟩ hm' ⟨va_cnB (mm_np k') hts hgood rfl rfl rfl (hnx.1 _ _ _ _ (hlinks.2 hne)) (by rw [t2]; exact hts _ t1) ⟨t3, t4, t5⟩ hroom, p1, hts _ (hin1 (by decide))⟩ ⟨mm_Pc_blind, hPc⟩ rfl hlen2 hsz rfl (lv_room hrsum) hd hf) hS go2
        · cases hrc
    · cases hck
  · cases hck
end MMC
/-- what the run of n steps says -/
def mm_SimP (l : Launch) (D : va_G) (dA : Nat → ClassId) (b h0 : Nat) (S : mm_S) (n : Nat) : Prop :=
  ∀ (d mi pc : Nat) (L : mm_L) (st : List Value) (M : mm_M) (v : Option Value) (M' : mm_M), mm_ex S n d mi pc L st M = some (v, M') → ∀ (p : Program) (e : Env) (R : Room) (s : State) (m : MethodId) (args : Array Value) (below : List Frame) (meth : Method) (c : Code) (Q : State → Prop) (H : Heap) (locs : List Loc) (ls : Array Slot) (n0 u0 : Nat), mm_Cx D dA b h0 S p s m args meth c mi → mm_Wd D dA b h0 M H → va_S (mm_A h0) s.heap H locs → mm_lh b h0 ls L → L.length = mm_mx mi → s.heap.size + 1 = h0 + n0 → n0 ≤ M.2.1 → u0 ≤ M.2.2 → M'.2.1 ≤ R.cells + n0 → M'.2.2 ≤ R.slots + u0 → d ≤ R.frames → 60 * d ≤ R.locals →
    (∀ (pc' : Nat) (ls' : Array Slot) (st' : List Value) (i' : Instr) (len' : Nat) (H' : Heap) (locs' : List Loc), decode (mm_by mi) pc' = .ok (i', len') → mm_ln i' len' = true → mm_rv i' (mm_rt mi) st' = some v → mm_Wd D dA b h0 M' H' → va_S (mm_A h0) s.heap H' locs' → W p l e R s m args below meth c H' locs' (M'.2.1 - n0) (M'.2.2 - u0) Q (F0 m pc' ls' (st'.map (mm_up b h0)))) →
    W p l e R s m args below meth c H locs (M.2.1 - n0) (M.2.2 - u0) Q (F0 m pc ls (st.map (mm_up b h0)))
theorem mm_met {l : Launch} {D : va_G} {dA : Nat → ClassId} {b h0 : Nat} {S : mm_S} {n d k : Nat} {as : List Value} {M M1 : mm_M} {v : Option Value} (hbh : b < h0) (ih : mm_SimP l D dA b h0 S n) (hcall : mm_ex S n d k 0 (mm_en k as) [] M = some (v, M1)) (hk : 1 ≤ k ∧ k < 205) (hpl : plainName (mm_y k).cls = true) (hcat : ∀ v ∈ as, v.category = 1) (hlen : as.length ≤ mm_mx k) : Met l (mm_y k) (Cond.code (mm_y k) (mm_by k) (mm_mx k) (mm_rt k) :: mm_tb) { frames := d, cells := M1.2.1 - M.2.1, slots := M1.2.2 - M.2.2, locals := 60 * d } (mm_Pc D dA b h0 S as M) (mm_Qc D dA b h0 v M1) (M1.2.1 - M.2.1) (M1.2.2 - M.2.2) (mm_A h0) := by
  refine Met.ofW (cc := mm_by k) (maxL := mm_mx k) (ret := mm_rt k) hpl rfl ?_
  intro p e s m args below meth c s₁ B hml hv
  obtain ⟨rfl, hW, hK, hNx, hX, hh0⟩ := hv
  obtain ⟨t1, t2, t3, t4, t5, t6, t7⟩ := mm_kt_ok hk.2
  have hts := atoms_spec (ws := Cond.code (mm_y k) (mm_by k) (mm_mx k) (mm_rt k) :: mm_tb) B.pre
  have hown : s.vm.findClass (mm_y k).cls = some m.cls := findClass_of_methodNamed B.named
  have hmono := mm_mono S _ _ _ _ _ _ _ _ _ hcall
  have C : mm_Cx D dA b h0 S p s m (as.map (mm_up b h0)).toArray meth c k := ⟨B.exec, B.bytes, hml, B.returns, B.notSynchronized, by rw [← t2]; exact hown, fun w hw => hts w (List.mem_cons_of_mem _ hw), hNx, hK, fun hi => by rw [(name_of_methodNamed B.named B.method).1]; exact t7 hi, hX, hbh, hh0⟩
  rw [entry_eq m (as.map (mm_up b h0)) (fun v hv => by
    obtain ⟨u, hu, rfl⟩ := List.mem_map.mp hv
    rw [mm_up_cat]
    exact hcat u hu) (mm_mx k)]
  have hlenen : (mm_en k as).length = mm_mx k := by
    unfold mm_en
    simp
    omega
  have g := ih d k 0 (mm_en k as) [] M v M1 hcall p e { frames := d, cells := M1.2.1 - M.2.1, slots := M1.2.2 - M.2.2, locals := 60 * d } s m (as.map (mm_up b h0)).toArray below meth c (MQ below (mm_Qc D dA b h0 v M1) (as.map (mm_up b h0)).toArray s (M1.2.1 - M.2.1) (M1.2.2 - M.2.2) (mm_A h0)) s.heap [] _ M.2.1 M.2.2 C hW va_S.rf (mm_lh_entry hcat hlen) hlenen hW.1.2 (Nat.le_refl _) (Nat.le_refl _) (by show M1.2.1 ≤ M1.2.1 - M.2.1 + M.2.1; omega) (by show M1.2.2 ≤ M1.2.2 - M.2.2 + M.2.2; omega) (Nat.le_refl _) (Nat.le_refl _) (fun pc' ls' st' i' len' H' locs' hd hln hrv hW' hS' => mm_ret C hd hln hrv hW' hS')
  rw [Nat.sub_self, Nat.sub_self] at g
  exact g
theorem mm_sim (l : Launch) (D : va_G) (dA : Nat → ClassId) (b h0 : Nat) (S : mm_S) (hbh : b < h0) : ∀ n, mm_SimP l D dA b h0 S n := by
  intro n
  induction n with
  | zero => intro d mi pc L st M v M' h; cases h
  | succ n ih =>
    intro d mi pc L st M v M' h p e R s m args below meth c Q H locs ls n0 u0 C hW hS hl hL hs0 hn0 hu0 hRc hRs hRf hRl hend
    unfold mm_ex at h
    split at h
    · cases h
    · next i hi =>
      obtain ⟨len, hd, hln⟩ := mm_dec hi
      split at h
      · next k as r hcl =>
        split at h
        · cases h
        · next d' =>
          split at h
          · cases h
          · next v1 M1 hcall =>
            have m1 := mm_mono S _ _ _ _ _ _ _ _ _ hcall
            have m2 := mm_mono S _ _ _ _ _ _ _ _ _ h
            refine mm_call C hW hS hl hL hn0 hu0 m1.1 m1.2 (Nat.le_trans m2.1 hRc) (Nat.le_trans m2.2 hRs) hRf hRl hd hln hcl (fun a1 a2 a3 a4 => mm_met hbh ih hcall a1 a2 a3 a4) (fun H1 locs1 hW1 hS1 => ?_)
            exact ih _ _ _ _ _ _ _ _ h p e R s m args below meth c Q H1 locs1 ls n0 u0 C hW1 hS1 hl hL hs0 (Nat.le_trans hn0 m1.1) (Nat.le_trans hu0 m1.2) hRc hRs hRf hRl hend
      · split at h
        · next v1 hrv =>
          cases h
          exact hend pc ls st i len H locs hd hln hrv hW hS
        · split at h
          · next r hoi =>
            have m2 := mm_mono S _ _ _ _ _ _ _ _ _ h
            exact mm_nat C hW hS hl hL (Nat.le_trans m2.1 hRc) (Nat.le_trans m2.2 hRs) hRf hRl hd hln hoi (ih _ _ _ _ _ _ _ _ h p e R s m args below meth c Q H locs ls n0 u0 C hW hS hl hL hs0 hn0 hu0 hRc hRs hRf hRl hend)
          · split at h
            · cases h
            · next pc' L' st' M2 hst =>
              have m1 := mm_st_mono hst
              have m2 := mm_mono S _ _ _ _ _ _ _ _ _ h
              exact mm_step C hW hS hl hs0 hn0 hu0 (Nat.le_trans m2.1 hRc) (Nat.le_trans m2.2 hRs) hd hln hst (fun H1 locs1 ls1 hW1 hS1 hl1 => ih _ _ _ _ _ _ _ _ h p e R s m args below meth c Q H1 locs1 ls1 n0 u0 C hW1 hS1 hl1 (m1.2.2.trans hL) hs0 (Nat.le_trans hn0 m1.1) (Nat.le_trans hu0 m1.2.1) hRc hRs hRf hRl hend)
end
section
-- ===== end of PART A; then your names; then what follows =====
/-! THE CLAIM OUT OF ONE WALK OF THE LAW'S BODY. Your part is whole_start (and what it stands on); all else here is the same for every law, but numbers. -/
def R_law : String := "MaskDeskLaw"
def lw_P (b : Addr) (xs : List Int32) (args : Array Value) (s : State) : Prop := args = #[.ref b] ∧ s.IntsAt b xs ∧ xs.length ≤ 3072 ∧ (Jvm.Cond.and given_1 narrow_1).before args s = true
def lw_Q (_ : Array Value) (s : State) (o : Outcome) (t : State) : Prop := o = .returned (some (.int 1)) ∧ Framed s o t [] 600000 7302249
def lw_Z (below : List Frame) (a : Array Value) (s : State) : State → Prop := fun t => ∃ o, t.status = .running ∧ Ended t below o ∧ lw_Q a s o t
/-- the law's own end, with 1 on the stack, nothing written that was there before, its room as the claim has it -/
theorem lw_ret {p : Program} {l : Launch} {e : Env} {s : State} {m : MethodId} {below : List Frame} {meth : Method} {c : Code} {b : Nat} (hx : p.tables.exec = Jvm.exec) (hb : c.code = code) (hr : meth.sig.returnType = ret) (hlocks : meth.locks = false) {pc : Nat} {H : Heap} {ls : Array Slot} (hdg : decode code pc = .ok (.ireturn, 1)) : W p l e room_1 s m #[Value.ref b] below meth c H [] 600000 7302249 (lw_Z below #[Value.ref b] s) (F0 m pc ls [.int 1]) := by
  intro T hT X
  obtain ⟨fs, hret, hrun, hended, hW, hframe⟩ := X.leave (v := some (.int 1)) (hlocks := hlocks) (fun h => by rw [hr] at h; cases h)
  have hmeth' : T.vm.method? m = some meth := X.method'
  refine ⟨T.setFrames fs, ?_, .returned (some (.int 1)), hrun, hended, rfl, ⟨_, rfl⟩, hW, hframe⟩
  jvm_step X.here [X.here.top, hx, hb, hdg, hmeth', hr, ret, narrow_b1]
  (try refine ⟨rfl, ?_⟩); (try refine ⟨rfl, ?_⟩)
  first | (intro acts; rw [hret _ acts rfl rfl rfl]) | rw [hret _ _ rfl rfl rfl]
  exact Steps.refl _
/-- what holds at the law's entry: the machine, the code, the tables' words (any of lw_tbl by 'hts w (by decide +kernel)'), the script of L ints xs at the cell b, what the Statement gives of the start (any of its parts by flat_of_before) -/
def lw_At (p : Program) (s : State) (m : MethodId) (meth : Method) (c : Code) (b L : Nat) (xs : Nat → Int32) : Prop :=
  p.tables.exec = Jvm.exec ∧ c.code = code ∧ meth.sig.returnType = ret ∧ c.maxLocals = 4 ∧ s.vm.findClass R_law = some m.cls ∧ (∀ w ∈ lw_tbl, w.before #[Value.ref b] s = true) ∧ va_X b L xs s s.heap ∧ b < s.heap.size ∧ meth.locks = false ∧ (Jvm.Cond.and given_1 narrow_1).before #[Value.ref b] s = true

/-! ===== THE CLAIM OUT OF THE SMALL MACHINE: what is left is mm_Law, a word of numbers and cells alone ===== -/
def mm_M0 : mm_M := (fun _ => none, 1, 0)
/-- on every script the law's own run in the small machine ends with 1, within the claim's room -/
def mm_Law : Prop := ∀ (L : Nat) (xs : Nat → Int32), L ≤ 3072 → ∃ (n d : Nat) (M' : mm_M), mm_ex (L, xs) n d 0 0 (mm_en 0 [.ref 0]) [] mm_M0 = some (some (.int 1), M') ∧ d ≤ 1000 ∧ M'.2.1 ≤ 600001 ∧ M'.2.2 ≤ 7302249
theorem mm_ovC : (Cond.arrayOver (.object "MaskDesk$Cells") : Cond) ∈ lw_tbl := mm_at_in (p := 88) (by decide +kernel)
theorem mm_ovP : (Cond.arrayOver (.object "MaskDesk$Part") : Cond) ∈ lw_tbl := mm_at_in (p := 122) (by decide +kernel)
theorem mm_known {s : State} {args : Array Value} (hts : ∀ w ∈ lw_tbl, w.before args s = true) : ∃ (D : va_G) (dA : Nat → ClassId), va_K D vwCl (mm_tys dA) s := by
  have hts' : ∀ w ∈ mm_tb, w.before args s = true := fun w hw => hts w (List.mem_filter.mp hw).1
  have key : ∀ k : Nat, ∃ x : ClassId × (Nat → Nat), ∀ q : vw_C, vwCl[k]? = some q → u_Kn s q.1 q.2.1 q.2.2 x.1 x.2 := by
    intro k
    by_cases hk : k < 13
    · obtain ⟨g1, g2, g3, g4, g5, g6, g7, g8⟩ := mm_cl_ok hk
      obtain ⟨cC, iS, hKn⟩ := u_known (C := mm_cn k) (T := mm_T k) (N := mm_N k) (n := mm_N k) hts' g2 (hts' _ g7)
      exact ⟨(cC, iS), fun q hq => by rw [g1] at hq; cases hq; exact hKn⟩
    · exact ⟨(0, fun _ => 0), fun q hq => absurd (List.getElem?_eq_some_iff.mp hq).1 hk⟩
  obtain ⟨f, hf⟩ := Classical.axiomOfChoice key
  obtain ⟨c0, k0, p0, a1, a2, a3⟩ := Cond.arrayClass_spec (hts' _ mm_ac0)
  obtain ⟨c1, k1, p1, b1, b2, b3⟩ := Cond.arrayClass_spec (hts' _ mm_ac1)
  obtain ⟨p2, c2, k2, d1, -, d2, d3, d4⟩ := Cond.arrayOver_spec (hts _ mm_ovC)
  obtain ⟨p3, c3, k3, e1, -, e2, e3, e4⟩ := Cond.arrayOver_spec (hts _ mm_ovP)
  refine ⟨(fun k => (f k).1, fun k => (f k).2), fun t => match t with | 0 => c0 | 1 => c1 | 2 => c2 | _ => c3, fun k q hq => hf k q hq, fun k q hq => ?_⟩
  match k, hq with
  | 0, hq => cases hq; exact ⟨fun n z => ⟨fun k h => (by cases h), k0, a2, p0, a3⟩, a1⟩
  | 1, hq => cases hq; exact ⟨fun n z => ⟨fun k h => (by cases h), k1, b2, p1, b3⟩, b1⟩
  | 2, hq => cases hq; exact ⟨fun n z => ⟨fun k h => (by cases h), k2, d2, p2, d3⟩, k2, p2, d2, d3, d1, d4⟩
  | 3, hq => cases hq; exact ⟨fun n z => ⟨fun k h => (by cases h), k3, e2, p3, e3⟩, k3, p3, e2, e3, e1, e4⟩
set_option maxHeartbeats 4000000 in
theorem whole_open (hlaw : mm_Law) {p : Program} {e : Env} {s : State} {m : MethodId} {below : List Frame} {meth : Method} {c : Code} (l : Launch) {b L : Nat} {xs : Nat → Int32} (hL : L ≤ 3072) (C0 : lw_At p s m meth c b L xs) : W p l e room_1 s m #[Value.ref b] below meth c s.heap [] 0 0 (lw_Z below #[Value.ref b] s) (entryFrame m ([Value.ref b] : List Value).toArray 4) := by
  obtain ⟨hx, hb, hr, hml, hown, hts, hX, hbl, hlocks, hgv⟩ := id C0
  obtain ⟨n, d, M', hex, hd, hm1, hm2⟩ := hlaw L xs hL
  obtain ⟨D, dA, hK⟩ := mm_known hts
  have C : mm_Cx D dA b s.heap.size (L, xs) p s m #[Value.ref b] meth c 0 := ⟨hx, hb, hml, hr, hlocks, hown, fun w hw => hts w (List.mem_filter.mp hw).1, ⟨fun a i x h hw => va_Nw.of rfl (hts _ hw), fun C hw => va_AO.of (hts _ hw)⟩, hK, fun h => absurd h (by decide), hX, hbl, Nat.le_refl _⟩
  have hW : mm_Wd D dA b s.heap.size mm_M0 s.heap := ⟨⟨Nat.le_refl 1, rfl⟩, fun k c h => (by cases h), fun k h1 h2 => (by have h3 : k < 1 := h2; omega), fun k q h => (by cases h)⟩
  rw [entry_eq m [Value.ref b] (fun v hv => by rw [List.mem_singleton.mp hv]; rfl) 4]
  have hl : mm_lh b s.heap.size (([Value.ref b].map Slot.val ++ List.replicate (4 - [Value.ref b].length) Slot.unset).toArray) (mm_en 0 [.ref 0]) := mm_lh_entry (b := b) (h0 := s.heap.size) (as := [.ref 0]) (n := 4) (fun v hv => by rw [List.mem_singleton.mp hv]; rfl) (by decide)
  have mono := mm_mono _ _ _ _ _ _ _ _ _ _ hex
  have g := mm_sim l D dA b s.heap.size (L, xs) hbl n d 0 0 (mm_en 0 [.ref 0]) [] mm_M0 (some (.int 1)) M' hex p e room_1 s m #[Value.ref b] below meth c (lw_Z below #[Value.ref b] s) s.heap [] _ 1 0 C hW va_S.rf hl rfl rfl (Nat.le_refl 1) (Nat.le_refl 0) hm1 hm2 (Nat.le_trans hd (by decide)) (Nat.le_trans (Nat.mul_le_mul_left 60 hd) (by decide)) (fun pc' ls' st' i' len' H' locs' hd' hln' hrv' hW' hS' => ?_)
  · exact g
  · have hst : st' = [.int 1] ∧ i' = .ireturn := by
      unfold mm_rv at hrv'
      split at hrv'
      · cases hrv'; exact ⟨rfl, rfl⟩
      · split at hrv'
        · cases hrv'; exact ⟨rfl, rfl⟩
        · cases hrv'
      · cases hrv'
      · cases hrv'
      · cases hrv'
    obtain ⟨rfl, rfl⟩ := hst
    have hn := eq_of_beq (show (len' == 1) = true from hln')
    subst hn
    refine va_forget (fun q hq => hS'.2.2 q hq) ?_
    refine W.widen (k := 600000) (n := 7302249) (by omega) (by omega) ?_
    exact lw_ret hx hb hr hlocks hd'
end
section
/-! ===== RULES: mm_R S d mi pc L st M P: the run from here ends, and its answer and cells have P ===== -/
theorem mm_oi_up {o d d' : Nat} {i : Instr} {st r : List Value} (h : mm_oi o d i st = some r) (hd : d ≤ d') : mm_oi o d' i st = some r := by
  unfold mm_oi at h ⊢
  split at h
  · split at h
    · next hc =>
      (try dsimp only)
      rw [if_pos ⟨hc.1, by omega, hc.2.2⟩]
      exact h
    · cases h
  · split at h
    · next hc =>
      (try dsimp only)
      rw [if_pos ⟨by omega, hc.2⟩]
      exact h
    · cases h
  · cases h
theorem mm_up2 (S : mm_S) : ∀ (n d mi pc : Nat) (L : mm_L) (st : List Value) (M : mm_M) (r : Option Value × mm_M), mm_ex S n d mi pc L st M = some r → ∀ n' d', n ≤ n' → d ≤ d' → mm_ex S n' d' mi pc L st M = some r := by
  intro n
  induction n with
  | zero => intro d mi pc L st M r h; cases h
  | succ n ih =>
    intro d mi pc L st M r h n' d' hn hd
    obtain ⟨n2, rfl⟩ : ∃ k, n' = k + 1 := ⟨n' - 1, by omega⟩
    unfold mm_ex at h ⊢
    split at h
    · cases h
    · next i hi =>
      (try rw [hi])
      (try dsimp only)
      split at h
      · next k as r' hcl =>
        (try rw [hcl])
        (try dsimp only)
        split at h
        · cases h
        · next d1 =>
          obtain ⟨d2, rfl⟩ : ∃ k, d' = k + 1 := ⟨d' - 1, by omega⟩
          (try dsimp only)
          split at h
          · cases h
          · next v1 M1 hcall =>
            rw [ih _ _ _ _ _ _ _ hcall n2 d2 (by omega) (by omega)]
            exact ih _ _ _ _ _ _ _ h n2 (d2 + 1) (by omega) (by omega)
      · next hcl =>
        (try rw [hcl])
        (try dsimp only)
        split at h
        · next v1 hrv =>
          (try rw [hrv])
          exact h
        · next hrv =>
          (try rw [hrv])
          (try dsimp only)
          split at h
          · next r' hoi =>
            rw [mm_oi_up hoi hd]
            exact ih _ _ _ _ _ _ _ h n2 d' (by omega) hd
          · next hoi =>
            cases hoi2 : mm_oi (mm_ow mi) d' i st with
            | none =>
              (try dsimp only)
              split at h
              · cases h
              · next hst =>
                (try rw [hst])
                exact ih _ _ _ _ _ _ _ h n2 d' (by omega) hd
            | some r2 =>
              exfalso
              have hnone : mm_st (mm_ow mi) (mm_in mi) S i pc L st M = none := by
                unfold mm_oi at hoi2
                split at hoi2
                · rfl
                · rfl
                · cases hoi2
              rw [hnone] at h
              cases h
theorem mm_ia_at {t : Nat} {S : mm_S} {pc a n : Nat} {f : Nat → Int32} {i : Int32} {L : mm_L} {st : List Value} {M : mm_M} (ha : M.1 a = some (.inl (t, n, .inl f))) (h0 : a ≠ 0) (hin : vp_in i n) : mm_ia t S pc L (.int i :: .ref a :: st) M = some (pc + 1, L, .int (f i.toNatClampNeg) :: st, M) := by
  obtain ⟨z, rfl⟩ : ∃ z, a = z + 1 := ⟨a - 1, by omega⟩
  unfold mm_ia
  dsimp only
  rw [ha]
  dsimp only
  rw [if_pos ⟨rfl, hin⟩]
def mm_R (S : mm_S) (d mi pc : Nat) (L : mm_L) (st : List Value) (M : mm_M) (P : Option Value → mm_M → Prop) : Prop := ∃ (n : Nat) (v : Option Value) (M' : mm_M), mm_ex S n d mi pc L st M = some (v, M') ∧ P v M'
section RR
variable {S : mm_S} {d mi pc q : Nat} {L : mm_L} {st r : List Value} {M : mm_M} {P : Option Value → mm_M → Prop}
theorem R_mono {P' : Option Value → mm_M → Prop} (h : mm_R S d mi pc L st M P) (hp : ∀ v M', P v M' → P' v M') : mm_R S d mi pc L st M P' := by
  obtain ⟨n, v, M', h1, h2⟩ := h
  exact ⟨n, v, M', h1, hp v M' h2⟩
theorem R_deep {d' : Nat} (h : mm_R S d mi pc L st M P) (hd : d ≤ d') : mm_R S d' mi pc L st M P := by
  obtain ⟨n, v, M', h1, h2⟩ := h
  exact ⟨n, v, M', mm_up2 S _ _ _ _ _ _ _ _ h1 n d' (Nat.le_refl _) hd, h2⟩
theorem R_at {L' : mm_L} {st' : List Value} (hL : L = L') (hst : st = st') (h : mm_R S d mi pc L' st' M P) : mm_R S d mi pc L st M P := by
  subst hL; subst hst; exact h
theorem R_st {i : Instr} {pc' : Nat} {L' : mm_L} {st' : List Value} {M' : mm_M} (hc : mm_cd mi pc = some i) (h1 : mm_cl (mm_ow mi) i st M = none) (h2 : mm_rv i (mm_rt mi) st = none) (h3 : mm_oi (mm_ow mi) d i st = none) (hst : mm_st (mm_ow mi) (mm_in mi) S i pc L st M = some (pc', L', st', M')) (k : mm_R S d mi pc' L' st' M' P) : mm_R S d mi pc L st M P := by
  obtain ⟨n, v, M2, h, hp⟩ := k
  refine ⟨n + 1, v, M2, ?_, hp⟩
  unfold mm_ex
  rw [hc]
  dsimp only
  rw [h1]
  dsimp only
  rw [h2]
  dsimp only
  rw [h3]
  dsimp only
  rw [hst]
  exact h
theorem R_ret {i : Instr} {v : Option Value} (hc : mm_cd mi pc = some i) (h1 : mm_cl (mm_ow mi) i st M = none) (h2 : mm_rv i (mm_rt mi) st = some v) (hp : P v M) : mm_R S d mi pc L st M P := by
  refine ⟨1, v, M, ?_, hp⟩
  unfold mm_ex
  rw [hc]
  dsimp only
  rw [h1]
  dsimp only
  rw [h2]
theorem R_nat {i : Instr} {st' : List Value} (hc : mm_cd mi pc = some i) (h1 : mm_cl (mm_ow mi) i st M = none) (h2 : mm_rv i (mm_rt mi) st = none) (h3 : mm_oi (mm_ow mi) d i st = some st') (hq : pc + 3 = q) (k : mm_R S d mi q L st' M P) : mm_R S d mi pc L st M P := by
  subst hq
  obtain ⟨n, v, M2, h, hp⟩ := k
  refine ⟨n + 1, v, M2, ?_, hp⟩
  unfold mm_ex
  rw [hc]
  dsimp only
  rw [h1]
  dsimp only
  rw [h2]
  dsimp only
  rw [h3]
  exact h
theorem R_call {i : Instr} {k : Nat} {as : List Value} (hc : mm_cd mi pc = some i) (h1 : mm_cl (mm_ow mi) i st M = some (k, as, r)) (hq : pc + 3 = q) (kk : mm_R S d k 0 (mm_en k as) [] M (fun v M' => mm_R S (d + 1) mi q L (v.toList ++ r) M' P)) : mm_R S (d + 1) mi pc L st M P := by
  subst hq
  obtain ⟨n1, v1, M1, h, n2, v2, M2, h', hp⟩ := kk
  refine ⟨n1 + n2 + 1, v2, M2, ?_, hp⟩
  unfold mm_ex
  rw [hc]
  dsimp only
  rw [h1]
  dsimp only
  rw [mm_up2 S _ _ _ _ _ _ _ _ h (n1 + n2) d (by omega) (Nat.le_refl _)]
  exact mm_up2 S _ _ _ _ _ _ _ _ h' (n1 + n2) (d + 1) (by omega) (Nat.le_refl _)
theorem R_iconst {n : Int} {v : Int32} (hc : mm_cd mi pc = some (.iconst n)) (hq : pc + 1 = q) (hv : Int32.ofInt n = v) (k : mm_R S d mi q L (.int v :: st) M P) : mm_R S d mi pc L (st) M P := by
  subst hq
  exact R_st hc rfl rfl rfl (by subst hv; rfl) k
theorem R_bipush {n : Int} {v : Int32} (hc : mm_cd mi pc = some (.bipush n)) (hq : pc + 2 = q) (hv : (Int8.ofInt n).toInt32 = v) (k : mm_R S d mi q L (.int v :: st) M P) : mm_R S d mi pc L (st) M P := by
  subst hq
  exact R_st hc rfl rfl rfl (by subst hv; rfl) k
theorem R_sipush {n : Int} {v : Int32} (hc : mm_cd mi pc = some (.sipush n)) (hq : pc + 3 = q) (hv : (Int16.ofInt n).toInt32 = v) (k : mm_R S d mi q L (.int v :: st) M P) : mm_R S d mi pc L (st) M P := by
  subst hq
  exact R_st hc rfl rfl rfl (by subst hv; rfl) k
theorem R_ldc {c z : Nat} {v : Int32} (hc : mm_cd mi pc = some (.ldc c)) (hq : pc + 2 = q) (hv : mm_l2 mm_cT (mm_ow mi) c = some (v, z)) (k : mm_R S d mi q L (.int v :: st) M P) : mm_R S d mi pc L (st) M P := by
  subst hq
  exact R_st hc rfl rfl rfl (by unfold mm_st; dsimp only; rw [hv]) k
theorem R_ldc_w {c z : Nat} {v : Int32} (hc : mm_cd mi pc = some (.ldc_w c)) (hq : pc + 3 = q) (hv : mm_l2 mm_cT (mm_ow mi) c = some (v, z)) (k : mm_R S d mi q L (.int v :: st) M P) : mm_R S d mi pc L (st) M P := by
  subst hq
  exact R_st hc rfl rfl rfl (by unfold mm_st; dsimp only; rw [hv]) k
theorem R_iload_n {c : Fin 4} {x : Int32} (hc : mm_cd mi pc = some (.iload_n c)) (hq : pc + 1 = q) (hL : L[c.val]? = some (some (.int x))) (k : mm_R S d mi q L (.int x :: st) M P) : mm_R S d mi pc L (st) M P := by
  subst hq
  exact R_st hc rfl rfl rfl (by unfold mm_st; dsimp only; unfold mm_ldi; rw [hL]) k
theorem R_iload {c : Nat} {x : Int32} (hc : mm_cd mi pc = some (.iload c)) (hq : pc + 2 = q) (hL : L[c]? = some (some (.int x))) (k : mm_R S d mi q L (.int x :: st) M P) : mm_R S d mi pc L (st) M P := by
  subst hq
  exact R_st hc rfl rfl rfl (by unfold mm_st; dsimp only; unfold mm_ldi; rw [hL]) k
theorem R_aload_n {c : Fin 4} {x : Nat} (hc : mm_cd mi pc = some (.aload_n c)) (hq : pc + 1 = q) (hL : L[c.val]? = some (some (.ref x))) (k : mm_R S d mi q L (.ref x :: st) M P) : mm_R S d mi pc L (st) M P := by
  subst hq
  exact R_st hc rfl rfl rfl (by unfold mm_st; dsimp only; unfold mm_lda; rw [hL]) k
theorem R_aload {c : Nat} {x : Nat} (hc : mm_cd mi pc = some (.aload c)) (hq : pc + 2 = q) (hL : L[c]? = some (some (.ref x))) (k : mm_R S d mi q L (.ref x :: st) M P) : mm_R S d mi pc L (st) M P := by
  subst hq
  exact R_st hc rfl rfl rfl (by unfold mm_st; dsimp only; unfold mm_lda; rw [hL]) k
theorem R_istore_n {c : Fin 4} {x : Int32} {L2 : mm_L} (hc : mm_cd mi pc = some (.istore_n c)) (hq : pc + 1 = q) (hk : c.val < L.length) (hL : L.set c.val (some (.int x)) = L2) (k : mm_R S d mi q L2 (st) M P) : mm_R S d mi pc L (.int x :: st) M P := by
  subst hq
  exact R_st hc rfl rfl rfl (by subst hL; unfold mm_st; dsimp only; unfold mm_sti; dsimp only; rw [if_pos hk]) k
theorem R_istore {c : Nat} {x : Int32} {L2 : mm_L} (hc : mm_cd mi pc = some (.istore c)) (hq : pc + 2 = q) (hk : c < L.length) (hL : L.set c (some (.int x)) = L2) (k : mm_R S d mi q L2 (st) M P) : mm_R S d mi pc L (.int x :: st) M P := by
  subst hq
  exact R_st hc rfl rfl rfl (by subst hL; unfold mm_st; dsimp only; unfold mm_sti; dsimp only; rw [if_pos hk]) k
theorem R_astore_n {c : Fin 4} {x : Nat} {L2 : mm_L} (hc : mm_cd mi pc = some (.astore_n c)) (hq : pc + 1 = q) (hk : c.val < L.length) (hL : L.set c.val (some (.ref x)) = L2) (k : mm_R S d mi q L2 (st) M P) : mm_R S d mi pc L (.ref x :: st) M P := by
  subst hq
  exact R_st hc rfl rfl rfl (by subst hL; unfold mm_st; dsimp only; unfold mm_sta; dsimp only; rw [if_pos hk]) k
theorem R_astore {c : Nat} {x : Nat} {L2 : mm_L} (hc : mm_cd mi pc = some (.astore c)) (hq : pc + 2 = q) (hk : c < L.length) (hL : L.set c (some (.ref x)) = L2) (k : mm_R S d mi q L2 (st) M P) : mm_R S d mi pc L (.ref x :: st) M P := by
  subst hq
  exact R_st hc rfl rfl rfl (by subst hL; unfold mm_st; dsimp only; unfold mm_sta; dsimp only; rw [if_pos hk]) k
theorem R_iinc {c : Nat} {n : Int} {x y : Int32} {L2 : mm_L} (hc : mm_cd mi pc = some (.iinc c n)) (hq : pc + 3 = q) (hx : L[c]? = some (some (.int x))) (hy : x + Int32.ofInt n = y) (hL : L.set c (some (.int y)) = L2) (k : mm_R S d mi q L2 (st) M P) : mm_R S d mi pc L (st) M P := by
  subst hq
  exact R_st hc rfl rfl rfl (by subst hy; subst hL; unfold mm_st; dsimp only; unfold mm_inc; rw [hx]) k
theorem R_iadd {x y : Int32} (hc : mm_cd mi pc = some (.iadd)) (hq : pc + 1 = q)  (k : mm_R S d mi q L (.int (x + y) :: st) M P) : mm_R S d mi pc L (.int y :: .int x :: st) M P := by
  subst hq
  exact R_st hc rfl rfl rfl rfl k
theorem R_isub {x y : Int32} (hc : mm_cd mi pc = some (.isub)) (hq : pc + 1 = q)  (k : mm_R S d mi q L (.int (x - y) :: st) M P) : mm_R S d mi pc L (.int y :: .int x :: st) M P := by
  subst hq
  exact R_st hc rfl rfl rfl rfl k
theorem R_imul {x y : Int32} (hc : mm_cd mi pc = some (.imul)) (hq : pc + 1 = q)  (k : mm_R S d mi q L (.int (x * y) :: st) M P) : mm_R S d mi pc L (.int y :: .int x :: st) M P := by
  subst hq
  exact R_st hc rfl rfl rfl rfl k
theorem R_iand {x y : Int32} (hc : mm_cd mi pc = some (.iand)) (hq : pc + 1 = q)  (k : mm_R S d mi q L (.int (x &&& y) :: st) M P) : mm_R S d mi pc L (.int y :: .int x :: st) M P := by
  subst hq
  exact R_st hc rfl rfl rfl rfl k
theorem R_ior {x y : Int32} (hc : mm_cd mi pc = some (.ior)) (hq : pc + 1 = q)  (k : mm_R S d mi q L (.int (x ||| y) :: st) M P) : mm_R S d mi pc L (.int y :: .int x :: st) M P := by
  subst hq
  exact R_st hc rfl rfl rfl rfl k
theorem R_ixor {x y : Int32} (hc : mm_cd mi pc = some (.ixor)) (hq : pc + 1 = q)  (k : mm_R S d mi q L (.int (x ^^^ y) :: st) M P) : mm_R S d mi pc L (.int y :: .int x :: st) M P := by
  subst hq
  exact R_st hc rfl rfl rfl rfl k
theorem R_ishl {x y : Int32} (hc : mm_cd mi pc = some (.ishl)) (hq : pc + 1 = q)  (k : mm_R S d mi q L (.int (x <<< (y &&& 31)) :: st) M P) : mm_R S d mi pc L (.int y :: .int x :: st) M P := by
  subst hq
  exact R_st hc rfl rfl rfl rfl k
theorem R_ishr {x y : Int32} (hc : mm_cd mi pc = some (.ishr)) (hq : pc + 1 = q)  (k : mm_R S d mi q L (.int (x >>> (y &&& 31)) :: st) M P) : mm_R S d mi pc L (.int y :: .int x :: st) M P := by
  subst hq
  exact R_st hc rfl rfl rfl rfl k
theorem R_iushr {x y : Int32} (hc : mm_cd mi pc = some (.iushr)) (hq : pc + 1 = q)  (k : mm_R S d mi q L (.int ((x.toUInt32 >>> (y.toUInt32 &&& Int32.toUInt32 31)).toInt32) :: st) M P) : mm_R S d mi pc L (.int y :: .int x :: st) M P := by
  subst hq
  exact R_st hc rfl rfl rfl rfl k
theorem R_idiv {x y : Int32} (hc : mm_cd mi pc = some (.idiv)) (hq : pc + 1 = q) (hy : ¬ y = 0) (k : mm_R S d mi q L (.int (x / y) :: st) M P) : mm_R S d mi pc L (.int y :: .int x :: st) M P := by
  subst hq
  exact R_st hc rfl rfl rfl (by unfold mm_st; dsimp only; unfold mm_b3; dsimp only; rw [if_neg hy]) k
theorem R_irem {x y : Int32} (hc : mm_cd mi pc = some (.irem)) (hq : pc + 1 = q) (hy : ¬ y = 0) (k : mm_R S d mi q L (.int (x - x / y * y) :: st) M P) : mm_R S d mi pc L (.int y :: .int x :: st) M P := by
  subst hq
  exact R_st hc rfl rfl rfl (by unfold mm_st; dsimp only; unfold mm_b3; dsimp only; rw [if_neg hy]) k
theorem R_ineg {x : Int32} (hc : mm_cd mi pc = some (.ineg)) (hq : pc + 1 = q)  (k : mm_R S d mi q L (.int (-x) :: st) M P) : mm_R S d mi pc L (.int x :: st) M P := by
  subst hq
  exact R_st hc rfl rfl rfl rfl k
theorem R_dupi {x : Int32} (hc : mm_cd mi pc = some (.dup)) (hq : pc + 1 = q)  (k : mm_R S d mi q L (.int x :: .int x :: st) M P) : mm_R S d mi pc L (.int x :: st) M P := by
  subst hq
  exact R_st hc rfl rfl rfl rfl k
theorem R_dupa {x : Nat} (hc : mm_cd mi pc = some (.dup)) (hq : pc + 1 = q)  (k : mm_R S d mi q L (.ref x :: .ref x :: st) M P) : mm_R S d mi pc L (.ref x :: st) M P := by
  subst hq
  exact R_st hc rfl rfl rfl rfl k
theorem R_dup2 {x : Nat} {i : Int32} (hc : mm_cd mi pc = some (.dup2)) (hq : pc + 1 = q)  (k : mm_R S d mi q L (.int i :: .ref x :: .int i :: .ref x :: st) M P) : mm_R S d mi pc L (.int i :: .ref x :: st) M P := by
  subst hq
  exact R_st hc rfl rfl rfl rfl k
theorem R_icmp_eq {x y : Int32} {off : Int} {t : Nat} (hc : mm_cd mi pc = some (.if_icmp .eq off)) (hq : pc + 3 = q) (ht : mm_tg pc off = some t) (kt : x = y → mm_R S d mi t L st M P) (kf : ¬ x = y → mm_R S d mi q L st M P) : mm_R S d mi pc L (.int y :: .int x :: st) M P := by
  subst hq
  by_cases h : x = y
  · refine R_st hc rfl rfl rfl (pc' := t) ?_ (kt h)
    have hb : mm_cc .eq x y = true := decide_eq_true h
    unfold mm_st
    dsimp only
    unfold mm_br
    rw [ht, hb]
    rfl
  · refine R_st hc rfl rfl rfl (pc' := pc + 3) ?_ (kf h)
    have hb : mm_cc .eq x y = false := decide_eq_false h
    unfold mm_st
    dsimp only
    unfold mm_br
    rw [ht, hb]
    rfl
theorem R_if_eq {x : Int32} {off : Int} {t : Nat} (hc : mm_cd mi pc = some (.ifCond .eq off)) (hq : pc + 3 = q) (ht : mm_tg pc off = some t) (kt : x = 0 → mm_R S d mi t L st M P) (kf : ¬ x = 0 → mm_R S d mi q L st M P) : mm_R S d mi pc L (.int x :: st) M P := by
  subst hq
  by_cases h : x = 0
  · refine R_st hc rfl rfl rfl (pc' := t) ?_ (kt h)
    have hb : mm_cc .eq x 0 = true := decide_eq_true h
    unfold mm_st
    dsimp only
    unfold mm_br
    rw [ht, hb]
    rfl
  · refine R_st hc rfl rfl rfl (pc' := pc + 3) ?_ (kf h)
    have hb : mm_cc .eq x 0 = false := decide_eq_false h
    unfold mm_st
    dsimp only
    unfold mm_br
    rw [ht, hb]
    rfl
theorem R_icmp_ne {x y : Int32} {off : Int} {t : Nat} (hc : mm_cd mi pc = some (.if_icmp .ne off)) (hq : pc + 3 = q) (ht : mm_tg pc off = some t) (kt : ¬ x = y → mm_R S d mi t L st M P) (kf : x = y → mm_R S d mi q L st M P) : mm_R S d mi pc L (.int y :: .int x :: st) M P := by
  subst hq
  by_cases h : x = y
  · refine R_st hc rfl rfl rfl (pc' := pc + 3) ?_ (kf h)
    have hb : mm_cc .ne x y = false := decide_eq_false (fun z => z h)
    unfold mm_st
    dsimp only
    unfold mm_br
    rw [ht, hb]
    rfl
  · refine R_st hc rfl rfl rfl (pc' := t) ?_ (kt h)
    have hb : mm_cc .ne x y = true := decide_eq_true h
    unfold mm_st
    dsimp only
    unfold mm_br
    rw [ht, hb]
    rfl
theorem R_if_ne {x : Int32} {off : Int} {t : Nat} (hc : mm_cd mi pc = some (.ifCond .ne off)) (hq : pc + 3 = q) (ht : mm_tg pc off = some t) (kt : ¬ x = 0 → mm_R S d mi t L st M P) (kf : x = 0 → mm_R S d mi q L st M P) : mm_R S d mi pc L (.int x :: st) M P := by
  subst hq
  by_cases h : x = 0
  · refine R_st hc rfl rfl rfl (pc' := pc + 3) ?_ (kf h)
    have hb : mm_cc .ne x 0 = false := decide_eq_false (fun z => z h)
    unfold mm_st
    dsimp only
    unfold mm_br
    rw [ht, hb]
    rfl
  · refine R_st hc rfl rfl rfl (pc' := t) ?_ (kt h)
    have hb : mm_cc .ne x 0 = true := decide_eq_true h
    unfold mm_st
    dsimp only
    unfold mm_br
    rw [ht, hb]
    rfl
theorem R_icmp_lt {x y : Int32} {off : Int} {t : Nat} (hc : mm_cd mi pc = some (.if_icmp .lt off)) (hq : pc + 3 = q) (ht : mm_tg pc off = some t) (kt : x < y → mm_R S d mi t L st M P) (kf : ¬ x < y → mm_R S d mi q L st M P) : mm_R S d mi pc L (.int y :: .int x :: st) M P := by
  subst hq
  by_cases h : x < y
  · refine R_st hc rfl rfl rfl (pc' := t) ?_ (kt h)
    have hb : mm_cc .lt x y = true := decide_eq_true h
    unfold mm_st
    dsimp only
    unfold mm_br
    rw [ht, hb]
    rfl
  · refine R_st hc rfl rfl rfl (pc' := pc + 3) ?_ (kf h)
    have hb : mm_cc .lt x y = false := decide_eq_false h
    unfold mm_st
    dsimp only
    unfold mm_br
    rw [ht, hb]
    rfl
theorem R_if_lt {x : Int32} {off : Int} {t : Nat} (hc : mm_cd mi pc = some (.ifCond .lt off)) (hq : pc + 3 = q) (ht : mm_tg pc off = some t) (kt : x < 0 → mm_R S d mi t L st M P) (kf : ¬ x < 0 → mm_R S d mi q L st M P) : mm_R S d mi pc L (.int x :: st) M P := by
  subst hq
  by_cases h : x < 0
  · refine R_st hc rfl rfl rfl (pc' := t) ?_ (kt h)
    have hb : mm_cc .lt x 0 = true := decide_eq_true h
    unfold mm_st
    dsimp only
    unfold mm_br
    rw [ht, hb]
    rfl
  · refine R_st hc rfl rfl rfl (pc' := pc + 3) ?_ (kf h)
    have hb : mm_cc .lt x 0 = false := decide_eq_false h
    unfold mm_st
    dsimp only
    unfold mm_br
    rw [ht, hb]
    rfl
theorem R_icmp_ge {x y : Int32} {off : Int} {t : Nat} (hc : mm_cd mi pc = some (.if_icmp .ge off)) (hq : pc + 3 = q) (ht : mm_tg pc off = some t) (kt : y ≤ x → mm_R S d mi t L st M P) (kf : ¬ y ≤ x → mm_R S d mi q L st M P) : mm_R S d mi pc L (.int y :: .int x :: st) M P := by
  subst hq
  by_cases h : y ≤ x
  · refine R_st hc rfl rfl rfl (pc' := t) ?_ (kt h)
    have hb : mm_cc .ge x y = true := decide_eq_true h
    unfold mm_st
    dsimp only
    unfold mm_br
    rw [ht, hb]
    rfl
  · refine R_st hc rfl rfl rfl (pc' := pc + 3) ?_ (kf h)
    have hb : mm_cc .ge x y = false := decide_eq_false h
    unfold mm_st
    dsimp only
    unfold mm_br
    rw [ht, hb]
    rfl
theorem R_if_ge {x : Int32} {off : Int} {t : Nat} (hc : mm_cd mi pc = some (.ifCond .ge off)) (hq : pc + 3 = q) (ht : mm_tg pc off = some t) (kt : 0 ≤ x → mm_R S d mi t L st M P) (kf : ¬ 0 ≤ x → mm_R S d mi q L st M P) : mm_R S d mi pc L (.int x :: st) M P := by
  subst hq
  by_cases h : 0 ≤ x
  · refine R_st hc rfl rfl rfl (pc' := t) ?_ (kt h)
    have hb : mm_cc .ge x 0 = true := decide_eq_true h
    unfold mm_st
    dsimp only
    unfold mm_br
    rw [ht, hb]
    rfl
  · refine R_st hc rfl rfl rfl (pc' := pc + 3) ?_ (kf h)
    have hb : mm_cc .ge x 0 = false := decide_eq_false h
    unfold mm_st
    dsimp only
    unfold mm_br
    rw [ht, hb]
    rfl
theorem R_icmp_gt {x y : Int32} {off : Int} {t : Nat} (hc : mm_cd mi pc = some (.if_icmp .gt off)) (hq : pc + 3 = q) (ht : mm_tg pc off = some t) (kt : y < x → mm_R S d mi t L st M P) (kf : ¬ y < x → mm_R S d mi q L st M P) : mm_R S d mi pc L (.int y :: .int x :: st) M P := by
  subst hq
  by_cases h : y < x
  · refine R_st hc rfl rfl rfl (pc' := t) ?_ (kt h)
    have hb : mm_cc .gt x y = true := decide_eq_true h
    unfold mm_st
    dsimp only
    unfold mm_br
    rw [ht, hb]
    rfl
  · refine R_st hc rfl rfl rfl (pc' := pc + 3) ?_ (kf h)
    have hb : mm_cc .gt x y = false := decide_eq_false h
    unfold mm_st
    dsimp only
    unfold mm_br
    rw [ht, hb]
    rfl
theorem R_if_gt {x : Int32} {off : Int} {t : Nat} (hc : mm_cd mi pc = some (.ifCond .gt off)) (hq : pc + 3 = q) (ht : mm_tg pc off = some t) (kt : 0 < x → mm_R S d mi t L st M P) (kf : ¬ 0 < x → mm_R S d mi q L st M P) : mm_R S d mi pc L (.int x :: st) M P := by
  subst hq
  by_cases h : 0 < x
  · refine R_st hc rfl rfl rfl (pc' := t) ?_ (kt h)
    have hb : mm_cc .gt x 0 = true := decide_eq_true h
    unfold mm_st
    dsimp only
    unfold mm_br
    rw [ht, hb]
    rfl
  · refine R_st hc rfl rfl rfl (pc' := pc + 3) ?_ (kf h)
    have hb : mm_cc .gt x 0 = false := decide_eq_false h
    unfold mm_st
    dsimp only
    unfold mm_br
    rw [ht, hb]
    rfl
theorem R_icmp_le {x y : Int32} {off : Int} {t : Nat} (hc : mm_cd mi pc = some (.if_icmp .le off)) (hq : pc + 3 = q) (ht : mm_tg pc off = some t) (kt : x ≤ y → mm_R S d mi t L st M P) (kf : ¬ x ≤ y → mm_R S d mi q L st M P) : mm_R S d mi pc L (.int y :: .int x :: st) M P := by
  subst hq
  by_cases h : x ≤ y
  · refine R_st hc rfl rfl rfl (pc' := t) ?_ (kt h)
    have hb : mm_cc .le x y = true := decide_eq_true h
    unfold mm_st
    dsimp only
    unfold mm_br
    rw [ht, hb]
    rfl
  · refine R_st hc rfl rfl rfl (pc' := pc + 3) ?_ (kf h)
    have hb : mm_cc .le x y = false := decide_eq_false h
    unfold mm_st
    dsimp only
    unfold mm_br
    rw [ht, hb]
    rfl
theorem R_if_le {x : Int32} {off : Int} {t : Nat} (hc : mm_cd mi pc = some (.ifCond .le off)) (hq : pc + 3 = q) (ht : mm_tg pc off = some t) (kt : x ≤ 0 → mm_R S d mi t L st M P) (kf : ¬ x ≤ 0 → mm_R S d mi q L st M P) : mm_R S d mi pc L (.int x :: st) M P := by
  subst hq
  by_cases h : x ≤ 0
  · refine R_st hc rfl rfl rfl (pc' := t) ?_ (kt h)
    have hb : mm_cc .le x 0 = true := decide_eq_true h
    unfold mm_st
    dsimp only
    unfold mm_br
    rw [ht, hb]
    rfl
  · refine R_st hc rfl rfl rfl (pc' := pc + 3) ?_ (kf h)
    have hb : mm_cc .le x 0 = false := decide_eq_false h
    unfold mm_st
    dsimp only
    unfold mm_br
    rw [ht, hb]
    rfl
theorem R_goto {off : Int} {t : Nat} (hc : mm_cd mi pc = some (.goto off)) (ht : mm_tg pc off = some t) (k : mm_R S d mi t L st M P) : mm_R S d mi pc L st M P := by
  refine R_st hc rfl rfl rfl ?_ k
  unfold mm_st
  dsimp only
  unfold mm_br
  rw [ht]
  rfl
theorem R_tsw {dd lo hi : Int} {offs : Array Int} {x : Int32} {t : Nat} (hc : mm_cd mi pc = some (.tableswitch dd lo hi offs)) (ht : mm_ts dd lo hi offs pc L (.int x :: st) M = some (t, L, st, M)) (k : mm_R S d mi t L st M P) : mm_R S d mi pc L (.int x :: st) M P := R_st hc rfl rfl rfl ht k
theorem R_lsw {dd : Int} {ps : Array (Int × Int)} {x : Int32} {t : Nat} (hc : mm_cd mi pc = some (.lookupswitch dd ps)) (ht : mm_lw dd ps pc L (.int x :: st) M = some (t, L, st, M)) (k : mm_R S d mi t L st M P) : mm_R S d mi pc L (.int x :: st) M P := R_st hc rfl rfl rfl ht k
theorem R_slen  (hc : mm_cd mi pc = some (.arraylength)) (hq : pc + 1 = q)  (k : mm_R S d mi q L (.int (Int32.ofNat S.1) :: st) M P) : mm_R S d mi pc L (.ref 0 :: st) M P := by
  subst hq
  exact R_st hc rfl rfl rfl rfl k
theorem R_alen {a t n : Nat} {z : (Nat → Int32) ⊕ (Nat → Int64) ⊕ (Nat → UInt32) ⊕ (Nat → UInt64) ⊕ (Nat → Option Nat)} (hc : mm_cd mi pc = some (.arraylength)) (hq : pc + 1 = q) (ha : M.1 (a + 1) = some (.inl (t, n, z))) (h4 : t < 4) (k : mm_R S d mi q L (.int (Int32.ofNat n) :: st) M P) : mm_R S d mi pc L (.ref (a + 1) :: st) M P := by
  subst hq
  exact R_st hc rfl rfl rfl (by unfold mm_st; dsimp only; unfold mm_al; dsimp only; rw [ha]; dsimp only; rw [if_pos h4]) k
theorem R_sld {i : Int32} (hc : mm_cd mi pc = some (.iaload)) (hq : pc + 1 = q) (hin : vp_in i S.1) (k : mm_R S d mi q L (.int (S.2 i.toNatClampNeg) :: st) M P) : mm_R S d mi pc L (.int i :: .ref 0 :: st) M P := by
  subst hq
  exact R_st hc rfl rfl rfl (by unfold mm_st; dsimp only; unfold mm_ia; dsimp only; rw [if_pos ⟨rfl, hin⟩]) k
theorem R_iaload {a n : Nat} {f : Nat → Int32} {i : Int32} (hc : mm_cd mi pc = some (.iaload)) (hq : pc + 1 = q) (ha : M.1 a = some (.inl (0, n, .inl f))) (h0 : a ≠ 0) (hin : vp_in i n) (k : mm_R S d mi q L (.int (f i.toNatClampNeg) :: st) M P) : mm_R S d mi pc L (.int i :: .ref a :: st) M P := by
  subst hq
  exact R_st hc rfl rfl rfl (mm_ia_at ha h0 hin) k
theorem R_baload {a n : Nat} {f : Nat → Int32} {i : Int32} (hc : mm_cd mi pc = some (.baload)) (hq : pc + 1 = q) (ha : M.1 a = some (.inl (1, n, .inl f))) (h0 : a ≠ 0) (hin : vp_in i n) (k : mm_R S d mi q L (.int (f i.toNatClampNeg) :: st) M P) : mm_R S d mi pc L (.int i :: .ref a :: st) M P := by
  subst hq
  exact R_st hc rfl rfl rfl (mm_ia_at ha h0 hin) k
theorem R_aaload {a n t g : Nat} {f : Nat → Option Nat} {i : Int32} (hc : mm_cd mi pc = some (.aaload)) (hq : pc + 1 = q) (ha : M.1 a = some (.inl (t, n, .inr (.inr (.inr (.inr f)))))) (ht : (mm_tc t).isSome = true) (hin : vp_in i n) (hg : f i.toNatClampNeg = some g) (k : mm_R S d mi q L (.ref g :: st) M P) : mm_R S d mi pc L (.int i :: .ref a :: st) M P := by
  subst hq
  exact R_st hc rfl rfl rfl (by unfold mm_st; dsimp only; unfold mm_aa; dsimp only; rw [ha]; dsimp only; rw [if_pos ⟨ht, hin⟩, hg]) k
theorem R_iastore {a n : Nat} {f : Nat → Int32} {i x : Int32} (hc : mm_cd mi pc = some (.iastore)) (hq : pc + 1 = q) (ha : M.1 a = some (.inl (0, n, .inl f))) (hin : vp_in i n) (k : mm_R S d mi q L (st) (mm_put M a (.inl (0, n, .inl (upd f i.toNatClampNeg x)))) P) : mm_R S d mi pc L (.int x :: .int i :: .ref a :: st) M P := by
  subst hq
  exact R_st hc rfl rfl rfl (by unfold mm_st; dsimp only; unfold mm_is; dsimp only; rw [ha]; dsimp only; rw [if_pos ⟨⟨rfl, fun z => absurd z (by decide)⟩, hin⟩]) k
theorem R_bastore {a n : Nat} {f : Nat → Int32} {i x : Int32} (hc : mm_cd mi pc = some (.bastore)) (hq : pc + 1 = q) (ha : M.1 a = some (.inl (1, n, .inl f))) (hin : vp_in i n) (hx : x = 0 ∨ x = 1) (k : mm_R S d mi q L (st) (mm_put M a (.inl (1, n, .inl (upd f i.toNatClampNeg x)))) P) : mm_R S d mi pc L (.int x :: .int i :: .ref a :: st) M P := by
  subst hq
  exact R_st hc rfl rfl rfl (by unfold mm_st; dsimp only; unfold mm_is; dsimp only; rw [ha]; dsimp only; rw [if_pos ⟨⟨rfl, fun _ => hx⟩, hin⟩]) k
theorem R_aastore {a n t v ci : Nat} {vs : List Value} {f : Nat → Option Nat} {i : Int32} (hc : mm_cd mi pc = some (.aastore)) (hq : pc + 1 = q) (ha : M.1 a = some (.inl (t, n, .inr (.inr (.inr (.inr f)))))) (hv : M.1 v = some (.inr (ci, vs))) (ht : mm_tc t = some ci) (hin : vp_in i n) (k : mm_R S d mi q L (st) (mm_put M a (.inl (t, n, .inr (.inr (.inr (.inr (va_up f i.toNatClampNeg (some v)))))))) P) : mm_R S d mi pc L (.ref v :: .int i :: .ref a :: st) M P := by
  subst hq
  exact R_st hc rfl rfl rfl (by unfold mm_st; dsimp only; unfold mm_as; dsimp only; rw [ha, hv]; dsimp only; rw [if_pos ⟨ht, hin⟩]) k
theorem R_getf {c a ci j z : Nat} {fs : List Value} {v : Value} (hc : mm_cd mi pc = some (.getfield c)) (hq : pc + 3 = q) (hf : mm_l2 mm_fT (mm_ow mi) c = some (ci, j, z)) (ha : M.1 a = some (.inr (ci, fs))) (hv : fs[j]? = some v) (k : mm_R S d mi q L (v :: st) M P) : mm_R S d mi pc L (.ref a :: st) M P := by
  subst hq
  exact R_st hc rfl rfl rfl (by unfold mm_st; dsimp only; unfold mm_gf; dsimp only; rw [hf, ha]; dsimp only; rw [if_pos rfl, hv]) k
theorem R_putf {c a ci j z : Nat} {fs fs2 : List Value} {v : Value} (hc : mm_cd mi pc = some (.putfield c)) (hq : pc + 3 = q) (hf : mm_l2 mm_fT (mm_ow mi) c = some (ci, j, z)) (ha : M.1 a = some (.inr (ci, fs))) (hj : j < fs.length) (ht : mm_fit (mm_fy ci j) v = true) (hn : (mm_T ci j).2.2.2 = true → mm_in mi = true ∧ mm_ow mi = ci) (h2 : fs.set j v = fs2) (k : mm_R S d mi q L (st) (mm_put M a (.inr (ci, fs2))) P) : mm_R S d mi pc L (v :: .ref a :: st) M P := by
  subst hq
  exact R_st hc rfl rfl rfl (by subst h2; unfold mm_st; dsimp only; unfold mm_pf; dsimp only; rw [hf, ha]; dsimp only; rw [if_pos ⟨⟨rfl, hj⟩, ht, hn⟩]) k
theorem R_new {c ci z : Nat} (hc : mm_cd mi pc = some (.new c)) (hq : pc + 3 = q) (hf : mm_l2 mm_nT (mm_ow mi) c = some (ci, z)) (k : mm_R S d mi q L (.ref M.2.1 :: st) (mm_add M (.inr (ci, mm_df ci)) (mm_N ci)) P) : mm_R S d mi pc L (st) M P := by
  subst hq
  exact R_st hc rfl rfl rfl (by unfold mm_st; dsimp only; unfold mm_nw; rw [hf]) k
theorem R_newi {n : Int32} (hc : mm_cd mi pc = some (.newarray .int)) (hq : pc + 2 = q) (hn : ¬ (n < 0 ∨ 65536 < n.toNatClampNeg)) (k : mm_R S d mi q L (.ref M.2.1 :: st) (mm_add M (.inl (0, n.toNatClampNeg, .inl (fun _ => 0))) n.toNatClampNeg) P) : mm_R S d mi pc L (.int n :: st) M P := by
  subst hq
  exact R_st hc rfl rfl rfl (by show mm_na 0 pc L (.int n :: st) M = _; unfold mm_na; dsimp only; rw [if_neg hn]) k
theorem R_newz {n : Int32} (hc : mm_cd mi pc = some (.newarray .boolean)) (hq : pc + 2 = q) (hn : ¬ (n < 0 ∨ 65536 < n.toNatClampNeg)) (k : mm_R S d mi q L (.ref M.2.1 :: st) (mm_add M (.inl (1, n.toNatClampNeg, .inl (fun _ => 0))) n.toNatClampNeg) P) : mm_R S d mi pc L (.int n :: st) M P := by
  subst hq
  exact R_st hc rfl rfl rfl (by show mm_na 1 pc L (.int n :: st) M = _; unfold mm_na; dsimp only; rw [if_neg hn]) k
theorem R_anew {c t z1 z2 : Nat} {n : Int32} (hc : mm_cd mi pc = some (.anewarray c)) (hq : pc + 3 = q) (hf : mm_l2 mm_aT (mm_ow mi) c = some (t, z1, z2)) (hn : ¬ (n < 0 ∨ 65536 < n.toNatClampNeg)) (k : mm_R S d mi q L (.ref M.2.1 :: st) (mm_add M (.inl (t, n.toNatClampNeg, .inr (.inr (.inr (.inr (fun _ => none)))))) n.toNatClampNeg) P) : mm_R S d mi pc L (.int n :: st) M P := by
  subst hq
  exact R_st hc rfl rfl rfl (by unfold mm_st; dsimp only; unfold mm_an; dsimp only; rw [hf]; dsimp only; rw [if_neg hn]) k
theorem R_ireturn {x : Int32} (hc : mm_cd mi pc = some .ireturn) (hr : mm_rt mi = some .int) (hp : P (some (.int x)) M) : mm_R S d mi pc L [.int x] M P := R_ret hc rfl (by rw [hr]; rfl) hp
theorem R_zreturn {x : Int32} (hc : mm_cd mi pc = some .ireturn) (hr : mm_rt mi = some .boolean) (hx : x = 0 ∨ x = 1) (hp : P (some (.int x)) M) : mm_R S d mi pc L [.int x] M P := R_ret hc rfl (by rw [hr]; unfold mm_rv; dsimp only; rw [if_pos hx]) hp
theorem R_return (hc : mm_cd mi pc = some .return_) (hr : mm_rt mi = none) (hp : P none M) : mm_R S d mi pc L [] M P := R_ret hc rfl (by rw [hr]; rfl) hp
theorem R_areturn {a : Nat} {cn : String} (hc : mm_cd mi pc = some .areturn) (hr : mm_rt mi = some (.object cn)) (hp : P (some (.ref a)) M) : mm_R S d mi pc L [.ref a] M P := R_ret hc rfl (by rw [hr]; rfl) hp
theorem R_objinit {c a z : Nat} (hc : mm_cd mi pc = some (.invokespecial c)) (hq : pc + 3 = q) (h1 : mm_l2 mm_mT (mm_ow mi) c = none) (ho : mm_l2 mm_oT (mm_ow mi) c = some z) (hd : 1 ≤ d) (hs : (st.map fun v => v.category).sum ≤ 8) (k : mm_R S d mi q L st M P) : mm_R S d mi pc L (.ref a :: st) M P := R_nat hc (by unfold mm_cl; dsimp only; unfold mm_ck; rw [h1]) rfl (by unfold mm_oi; dsimp only; rw [if_pos ⟨by rw [ho]; rfl, hd, hs⟩]) hq k
theorem R_mmax {c z : Nat} {x y : Int32} (hc : mm_cd mi pc = some (.invokestatic c)) (hq : pc + 3 = q) (h1 : mm_l2 mm_mT (mm_ow mi) c = none) (ho : mm_l2 mm_jT (mm_ow mi) c = some (0, z)) (hd : 1 ≤ d) (hs : ((Value.int x :: st).map fun v => v.category).sum ≤ 8) (k : mm_R S d mi q L (.int (if x < y then y else x) :: st) M P) : mm_R S d mi pc L (.int y :: .int x :: st) M P := R_nat hc (by unfold mm_cl; dsimp only; unfold mm_ck; rw [h1]) rfl (by unfold mm_oi; dsimp only; rw [if_pos ⟨hd, hs⟩, ho]; first | rfl | simp) hq k
theorem R_mmin {c z : Nat} {x y : Int32} (hc : mm_cd mi pc = some (.invokestatic c)) (hq : pc + 3 = q) (h1 : mm_l2 mm_mT (mm_ow mi) c = none) (ho : mm_l2 mm_jT (mm_ow mi) c = some (1, z)) (hd : 1 ≤ d) (hs : ((Value.int x :: st).map fun v => v.category).sum ≤ 8) (k : mm_R S d mi q L (.int (if y < x then y else x) :: st) M P) : mm_R S d mi pc L (.int y :: .int x :: st) M P := R_nat hc (by unfold mm_cl; dsimp only; unfold mm_ck; rw [h1]) rfl (by unfold mm_oi; dsimp only; rw [if_pos ⟨hd, hs⟩, ho]; first | rfl | simp) hq k
theorem R_mabs {c z : Nat} {y : Int32} (hc : mm_cd mi pc = some (.invokestatic c)) (hq : pc + 3 = q) (h1 : mm_l2 mm_mT (mm_ow mi) c = none) (ho : mm_l2 mm_jT (mm_ow mi) c = some (2, z)) (hd : 1 ≤ d) (hs : (st.map fun v => v.category).sum ≤ 8) (k : mm_R S d mi q L (.int (if 0 ≤ y then y else 0 - y) :: st) M P) : mm_R S d mi pc L (.int y :: st) M P := R_nat hc (by unfold mm_cl; dsimp only; unfold mm_ck; rw [h1]) rfl (by unfold mm_oi; dsimp only; rw [if_pos ⟨hd, hs⟩, ho]; first | rfl | simp) hq k
theorem R_callv0 {c k ne z a : Nat} {fs : List Value}  (hc : mm_cd mi pc = some (.invokevirtual c)) (hq : pc + 3 = q) (ht : mm_l2 mm_mT (mm_ow mi) c = some (k, 0, ne, z)) (hn : mm_np k = 0) (ha : M.1 a = some (.inr (mm_ow k, fs))) (hs : (st.map fun v => v.category).sum ≤ 8) (hv : (true) = true) (kk : mm_R S d k 0 (mm_en k (.ref a :: [])) [] M (fun v M' => mm_R S (d + 1) mi q L (v.toList ++ st) M' P)) : mm_R S (d + 1) mi pc L (.ref a :: st) M P := by
  refine R_call (r := st) hc ?_ hq kk
  unfold mm_cl
  dsimp only
  unfold mm_ck
  rw [ht]
  have e : mm_nn 0 k = 1 := by unfold mm_nn; rw [hn]; rfl
  dsimp only
  rw [e]
  refine if_pos ⟨⟨rfl, by simp⟩, hs, ?_, ?_⟩
  · simp [Value.category] at hv ⊢
    skip
  · show mm_rc 0 k (.ref a :: []) M = true
    unfold mm_rc
    rw [if_neg (by decide)]
    dsimp only
    rw [ha]
    simp
theorem R_callv1 {c k ne z a : Nat} {fs : List Value} {v1 : Value} (hc : mm_cd mi pc = some (.invokevirtual c)) (hq : pc + 3 = q) (ht : mm_l2 mm_mT (mm_ow mi) c = some (k, 0, ne, z)) (hn : mm_np k = 1) (ha : M.1 a = some (.inr (mm_ow k, fs))) (hs : (st.map fun v => v.category).sum ≤ 8) (hv : ((v1.category == 1)) = true) (kk : mm_R S d k 0 (mm_en k (.ref a :: [v1])) [] M (fun v M' => mm_R S (d + 1) mi q L (v.toList ++ st) M' P)) : mm_R S (d + 1) mi pc L (v1 :: .ref a :: st) M P := by
  refine R_call (r := st) hc ?_ hq kk
  unfold mm_cl
  dsimp only
  unfold mm_ck
  rw [ht]
  have e : mm_nn 0 k = 2 := by unfold mm_nn; rw [hn]; rfl
  dsimp only
  rw [e]
  refine if_pos ⟨⟨rfl, by simp⟩, hs, ?_, ?_⟩
  · simp [Value.category] at hv ⊢
    simp [hv]
  · show mm_rc 0 k (.ref a :: [v1]) M = true
    unfold mm_rc
    rw [if_neg (by decide)]
    dsimp only
    rw [ha]
    simp
theorem R_callv2 {c k ne z a : Nat} {fs : List Value} {v1 v2 : Value} (hc : mm_cd mi pc = some (.invokevirtual c)) (hq : pc + 3 = q) (ht : mm_l2 mm_mT (mm_ow mi) c = some (k, 0, ne, z)) (hn : mm_np k = 2) (ha : M.1 a = some (.inr (mm_ow k, fs))) (hs : (st.map fun v => v.category).sum ≤ 8) (hv : ((v1.category == 1) && (v2.category == 1)) = true) (kk : mm_R S d k 0 (mm_en k (.ref a :: [v1, v2])) [] M (fun v M' => mm_R S (d + 1) mi q L (v.toList ++ st) M' P)) : mm_R S (d + 1) mi pc L (v2 :: v1 :: .ref a :: st) M P := by
  refine R_call (r := st) hc ?_ hq kk
  unfold mm_cl
  dsimp only
  unfold mm_ck
  rw [ht]
  have e : mm_nn 0 k = 3 := by unfold mm_nn; rw [hn]; rfl
  dsimp only
  rw [e]
  refine if_pos ⟨⟨rfl, by simp⟩, hs, ?_, ?_⟩
  · simp [Value.category] at hv ⊢
    simp [hv]
  · show mm_rc 0 k (.ref a :: [v1, v2]) M = true
    unfold mm_rc
    rw [if_neg (by decide)]
    dsimp only
    rw [ha]
    simp
theorem R_callv3 {c k ne z a : Nat} {fs : List Value} {v1 v2 v3 : Value} (hc : mm_cd mi pc = some (.invokevirtual c)) (hq : pc + 3 = q) (ht : mm_l2 mm_mT (mm_ow mi) c = some (k, 0, ne, z)) (hn : mm_np k = 3) (ha : M.1 a = some (.inr (mm_ow k, fs))) (hs : (st.map fun v => v.category).sum ≤ 8) (hv : ((v1.category == 1) && (v2.category == 1) && (v3.category == 1)) = true) (kk : mm_R S d k 0 (mm_en k (.ref a :: [v1, v2, v3])) [] M (fun v M' => mm_R S (d + 1) mi q L (v.toList ++ st) M' P)) : mm_R S (d + 1) mi pc L (v3 :: v2 :: v1 :: .ref a :: st) M P := by
  refine R_call (r := st) hc ?_ hq kk
  unfold mm_cl
  dsimp only
  unfold mm_ck
  rw [ht]
  have e : mm_nn 0 k = 4 := by unfold mm_nn; rw [hn]; rfl
  dsimp only
  rw [e]
  refine if_pos ⟨⟨rfl, by simp⟩, hs, ?_, ?_⟩
  · simp [Value.category] at hv ⊢
    simp [hv]
  · show mm_rc 0 k (.ref a :: [v1, v2, v3]) M = true
    unfold mm_rc
    rw [if_neg (by decide)]
    dsimp only
    rw [ha]
    simp
theorem R_callv4 {c k ne z a : Nat} {fs : List Value} {v1 v2 v3 v4 : Value} (hc : mm_cd mi pc = some (.invokevirtual c)) (hq : pc + 3 = q) (ht : mm_l2 mm_mT (mm_ow mi) c = some (k, 0, ne, z)) (hn : mm_np k = 4) (ha : M.1 a = some (.inr (mm_ow k, fs))) (hs : (st.map fun v => v.category).sum ≤ 8) (hv : ((v1.category == 1) && (v2.category == 1) && (v3.category == 1) && (v4.category == 1)) = true) (kk : mm_R S d k 0 (mm_en k (.ref a :: [v1, v2, v3, v4])) [] M (fun v M' => mm_R S (d + 1) mi q L (v.toList ++ st) M' P)) : mm_R S (d + 1) mi pc L (v4 :: v3 :: v2 :: v1 :: .ref a :: st) M P := by
  refine R_call (r := st) hc ?_ hq kk
  unfold mm_cl
  dsimp only
  unfold mm_ck
  rw [ht]
  have e : mm_nn 0 k = 5 := by unfold mm_nn; rw [hn]; rfl
  dsimp only
  rw [e]
  refine if_pos ⟨⟨rfl, by simp⟩, hs, ?_, ?_⟩
  · simp [Value.category] at hv ⊢
    simp [hv]
  · show mm_rc 0 k (.ref a :: [v1, v2, v3, v4]) M = true
    unfold mm_rc
    rw [if_neg (by decide)]
    dsimp only
    rw [ha]
    simp
theorem R_callv5 {c k ne z a : Nat} {fs : List Value} {v1 v2 v3 v4 v5 : Value} (hc : mm_cd mi pc = some (.invokevirtual c)) (hq : pc + 3 = q) (ht : mm_l2 mm_mT (mm_ow mi) c = some (k, 0, ne, z)) (hn : mm_np k = 5) (ha : M.1 a = some (.inr (mm_ow k, fs))) (hs : (st.map fun v => v.category).sum ≤ 8) (hv : ((v1.category == 1) && (v2.category == 1) && (v3.category == 1) && (v4.category == 1) && (v5.category == 1)) = true) (kk : mm_R S d k 0 (mm_en k (.ref a :: [v1, v2, v3, v4, v5])) [] M (fun v M' => mm_R S (d + 1) mi q L (v.toList ++ st) M' P)) : mm_R S (d + 1) mi pc L (v5 :: v4 :: v3 :: v2 :: v1 :: .ref a :: st) M P := by
  refine R_call (r := st) hc ?_ hq kk
  unfold mm_cl
  dsimp only
  unfold mm_ck
  rw [ht]
  have e : mm_nn 0 k = 6 := by unfold mm_nn; rw [hn]; rfl
  dsimp only
  rw [e]
  refine if_pos ⟨⟨rfl, by simp⟩, hs, ?_, ?_⟩
  · simp [Value.category] at hv ⊢
    simp [hv]
  · show mm_rc 0 k (.ref a :: [v1, v2, v3, v4, v5]) M = true
    unfold mm_rc
    rw [if_neg (by decide)]
    dsimp only
    rw [ha]
    simp
theorem R_callv6 {c k ne z a : Nat} {fs : List Value} {v1 v2 v3 v4 v5 v6 : Value} (hc : mm_cd mi pc = some (.invokevirtual c)) (hq : pc + 3 = q) (ht : mm_l2 mm_mT (mm_ow mi) c = some (k, 0, ne, z)) (hn : mm_np k = 6) (ha : M.1 a = some (.inr (mm_ow k, fs))) (hs : (st.map fun v => v.category).sum ≤ 8) (hv : ((v1.category == 1) && (v2.category == 1) && (v3.category == 1) && (v4.category == 1) && (v5.category == 1) && (v6.category == 1)) = true) (kk : mm_R S d k 0 (mm_en k (.ref a :: [v1, v2, v3, v4, v5, v6])) [] M (fun v M' => mm_R S (d + 1) mi q L (v.toList ++ st) M' P)) : mm_R S (d + 1) mi pc L (v6 :: v5 :: v4 :: v3 :: v2 :: v1 :: .ref a :: st) M P := by
  refine R_call (r := st) hc ?_ hq kk
  unfold mm_cl
  dsimp only
  unfold mm_ck
  rw [ht]
  have e : mm_nn 0 k = 7 := by unfold mm_nn; rw [hn]; rfl
  dsimp only
  rw [e]
  refine if_pos ⟨⟨rfl, by simp⟩, hs, ?_, ?_⟩
  · simp [Value.category] at hv ⊢
    simp [hv]
  · show mm_rc 0 k (.ref a :: [v1, v2, v3, v4, v5, v6]) M = true
    unfold mm_rc
    rw [if_neg (by decide)]
    dsimp only
    rw [ha]
    simp
theorem R_callv7 {c k ne z a : Nat} {fs : List Value} {v1 v2 v3 v4 v5 v6 v7 : Value} (hc : mm_cd mi pc = some (.invokevirtual c)) (hq : pc + 3 = q) (ht : mm_l2 mm_mT (mm_ow mi) c = some (k, 0, ne, z)) (hn : mm_np k = 7) (ha : M.1 a = some (.inr (mm_ow k, fs))) (hs : (st.map fun v => v.category).sum ≤ 8) (hv : ((v1.category == 1) && (v2.category == 1) && (v3.category == 1) && (v4.category == 1) && (v5.category == 1) && (v6.category == 1) && (v7.category == 1)) = true) (kk : mm_R S d k 0 (mm_en k (.ref a :: [v1, v2, v3, v4, v5, v6, v7])) [] M (fun v M' => mm_R S (d + 1) mi q L (v.toList ++ st) M' P)) : mm_R S (d + 1) mi pc L (v7 :: v6 :: v5 :: v4 :: v3 :: v2 :: v1 :: .ref a :: st) M P := by
  refine R_call (r := st) hc ?_ hq kk
  unfold mm_cl
  dsimp only
  unfold mm_ck
  rw [ht]
  have e : mm_nn 0 k = 8 := by unfold mm_nn; rw [hn]; rfl
  dsimp only
  rw [e]
  refine if_pos ⟨⟨rfl, by simp⟩, hs, ?_, ?_⟩
  · simp [Value.category] at hv ⊢
    simp [hv]
  · show mm_rc 0 k (.ref a :: [v1, v2, v3, v4, v5, v6, v7]) M = true
    unfold mm_rc
    rw [if_neg (by decide)]
    dsimp only
    rw [ha]
    simp
theorem R_callv8 {c k ne z a : Nat} {fs : List Value} {v1 v2 v3 v4 v5 v6 v7 v8 : Value} (hc : mm_cd mi pc = some (.invokevirtual c)) (hq : pc + 3 = q) (ht : mm_l2 mm_mT (mm_ow mi) c = some (k, 0, ne, z)) (hn : mm_np k = 8) (ha : M.1 a = some (.inr (mm_ow k, fs))) (hs : (st.map fun v => v.category).sum ≤ 8) (hv : ((v1.category == 1) && (v2.category == 1) && (v3.category == 1) && (v4.category == 1) && (v5.category == 1) && (v6.category == 1) && (v7.category == 1) && (v8.category == 1)) = true) (kk : mm_R S d k 0 (mm_en k (.ref a :: [v1, v2, v3, v4, v5, v6, v7, v8])) [] M (fun v M' => mm_R S (d + 1) mi q L (v.toList ++ st) M' P)) : mm_R S (d + 1) mi pc L (v8 :: v7 :: v6 :: v5 :: v4 :: v3 :: v2 :: v1 :: .ref a :: st) M P := by
  refine R_call (r := st) hc ?_ hq kk
  unfold mm_cl
  dsimp only
  unfold mm_ck
  rw [ht]
  have e : mm_nn 0 k = 9 := by unfold mm_nn; rw [hn]; rfl
  dsimp only
  rw [e]
  refine if_pos ⟨⟨rfl, by simp⟩, hs, ?_, ?_⟩
  · simp [Value.category] at hv ⊢
    simp [hv]
  · show mm_rc 0 k (.ref a :: [v1, v2, v3, v4, v5, v6, v7, v8]) M = true
    unfold mm_rc
    rw [if_neg (by decide)]
    dsimp only
    rw [ha]
    simp
theorem R_calls0 {c k ne z : Nat}  (hc : mm_cd mi pc = some (.invokestatic c)) (hq : pc + 3 = q) (ht : mm_l2 mm_mT (mm_ow mi) c = some (k, 1, ne, z)) (hn : mm_np k = 0) (hs : (st.map fun v => v.category).sum ≤ 8) (hv : (true) = true) (kk : mm_R S d k 0 (mm_en k ([])) [] M (fun v M' => mm_R S (d + 1) mi q L (v.toList ++ st) M' P)) : mm_R S (d + 1) mi pc L (st) M P := by
  refine R_call (r := st) hc ?_ hq kk
  unfold mm_cl
  dsimp only
  unfold mm_ck
  rw [ht]
  have e : mm_nn 1 k = 0 := by unfold mm_nn; rw [hn]; rfl
  dsimp only
  rw [e]
  refine if_pos ⟨⟨rfl, by simp⟩, hs, ?_, rfl⟩
  simp at hv ⊢
  skip
theorem R_calls1 {c k ne z : Nat} {v1 : Value} (hc : mm_cd mi pc = some (.invokestatic c)) (hq : pc + 3 = q) (ht : mm_l2 mm_mT (mm_ow mi) c = some (k, 1, ne, z)) (hn : mm_np k = 1) (hs : (st.map fun v => v.category).sum ≤ 8) (hv : ((v1.category == 1)) = true) (kk : mm_R S d k 0 (mm_en k ([v1])) [] M (fun v M' => mm_R S (d + 1) mi q L (v.toList ++ st) M' P)) : mm_R S (d + 1) mi pc L (v1 :: st) M P := by
  refine R_call (r := st) hc ?_ hq kk
  unfold mm_cl
  dsimp only
  unfold mm_ck
  rw [ht]
  have e : mm_nn 1 k = 1 := by unfold mm_nn; rw [hn]; rfl
  dsimp only
  rw [e]
  refine if_pos ⟨⟨rfl, by simp⟩, hs, ?_, rfl⟩
  simp at hv ⊢
  simp [hv]
theorem R_calls2 {c k ne z : Nat} {v1 v2 : Value} (hc : mm_cd mi pc = some (.invokestatic c)) (hq : pc + 3 = q) (ht : mm_l2 mm_mT (mm_ow mi) c = some (k, 1, ne, z)) (hn : mm_np k = 2) (hs : (st.map fun v => v.category).sum ≤ 8) (hv : ((v1.category == 1) && (v2.category == 1)) = true) (kk : mm_R S d k 0 (mm_en k ([v1, v2])) [] M (fun v M' => mm_R S (d + 1) mi q L (v.toList ++ st) M' P)) : mm_R S (d + 1) mi pc L (v2 :: v1 :: st) M P := by
  refine R_call (r := st) hc ?_ hq kk
  unfold mm_cl
  dsimp only
  unfold mm_ck
  rw [ht]
  have e : mm_nn 1 k = 2 := by unfold mm_nn; rw [hn]; rfl
  dsimp only
  rw [e]
  refine if_pos ⟨⟨rfl, by simp⟩, hs, ?_, rfl⟩
  simp at hv ⊢
  simp [hv]
theorem R_calls3 {c k ne z : Nat} {v1 v2 v3 : Value} (hc : mm_cd mi pc = some (.invokestatic c)) (hq : pc + 3 = q) (ht : mm_l2 mm_mT (mm_ow mi) c = some (k, 1, ne, z)) (hn : mm_np k = 3) (hs : (st.map fun v => v.category).sum ≤ 8) (hv : ((v1.category == 1) && (v2.category == 1) && (v3.category == 1)) = true) (kk : mm_R S d k 0 (mm_en k ([v1, v2, v3])) [] M (fun v M' => mm_R S (d + 1) mi q L (v.toList ++ st) M' P)) : mm_R S (d + 1) mi pc L (v3 :: v2 :: v1 :: st) M P := by
  refine R_call (r := st) hc ?_ hq kk
  unfold mm_cl
  dsimp only
  unfold mm_ck
  rw [ht]
  have e : mm_nn 1 k = 3 := by unfold mm_nn; rw [hn]; rfl
  dsimp only
  rw [e]
  refine if_pos ⟨⟨rfl, by simp⟩, hs, ?_, rfl⟩
  simp at hv ⊢
  simp [hv]
theorem R_calls4 {c k ne z : Nat} {v1 v2 v3 v4 : Value} (hc : mm_cd mi pc = some (.invokestatic c)) (hq : pc + 3 = q) (ht : mm_l2 mm_mT (mm_ow mi) c = some (k, 1, ne, z)) (hn : mm_np k = 4) (hs : (st.map fun v => v.category).sum ≤ 8) (hv : ((v1.category == 1) && (v2.category == 1) && (v3.category == 1) && (v4.category == 1)) = true) (kk : mm_R S d k 0 (mm_en k ([v1, v2, v3, v4])) [] M (fun v M' => mm_R S (d + 1) mi q L (v.toList ++ st) M' P)) : mm_R S (d + 1) mi pc L (v4 :: v3 :: v2 :: v1 :: st) M P := by
  refine R_call (r := st) hc ?_ hq kk
  unfold mm_cl
  dsimp only
  unfold mm_ck
  rw [ht]
  have e : mm_nn 1 k = 4 := by unfold mm_nn; rw [hn]; rfl
  dsimp only
  rw [e]
  refine if_pos ⟨⟨rfl, by simp⟩, hs, ?_, rfl⟩
  simp at hv ⊢
  simp [hv]
theorem R_calls5 {c k ne z : Nat} {v1 v2 v3 v4 v5 : Value} (hc : mm_cd mi pc = some (.invokestatic c)) (hq : pc + 3 = q) (ht : mm_l2 mm_mT (mm_ow mi) c = some (k, 1, ne, z)) (hn : mm_np k = 5) (hs : (st.map fun v => v.category).sum ≤ 8) (hv : ((v1.category == 1) && (v2.category == 1) && (v3.category == 1) && (v4.category == 1) && (v5.category == 1)) = true) (kk : mm_R S d k 0 (mm_en k ([v1, v2, v3, v4, v5])) [] M (fun v M' => mm_R S (d + 1) mi q L (v.toList ++ st) M' P)) : mm_R S (d + 1) mi pc L (v5 :: v4 :: v3 :: v2 :: v1 :: st) M P := by
  refine R_call (r := st) hc ?_ hq kk
  unfold mm_cl
  dsimp only
  unfold mm_ck
  rw [ht]
  have e : mm_nn 1 k = 5 := by unfold mm_nn; rw [hn]; rfl
  dsimp only
  rw [e]
  refine if_pos ⟨⟨rfl, by simp⟩, hs, ?_, rfl⟩
  simp at hv ⊢
  simp [hv]
theorem R_calls6 {c k ne z : Nat} {v1 v2 v3 v4 v5 v6 : Value} (hc : mm_cd mi pc = some (.invokestatic c)) (hq : pc + 3 = q) (ht : mm_l2 mm_mT (mm_ow mi) c = some (k, 1, ne, z)) (hn : mm_np k = 6) (hs : (st.map fun v => v.category).sum ≤ 8) (hv : ((v1.category == 1) && (v2.category == 1) && (v3.category == 1) && (v4.category == 1) && (v5.category == 1) && (v6.category == 1)) = true) (kk : mm_R S d k 0 (mm_en k ([v1, v2, v3, v4, v5, v6])) [] M (fun v M' => mm_R S (d + 1) mi q L (v.toList ++ st) M' P)) : mm_R S (d + 1) mi pc L (v6 :: v5 :: v4 :: v3 :: v2 :: v1 :: st) M P := by
  refine R_call (r := st) hc ?_ hq kk
  unfold mm_cl
  dsimp only
  unfold mm_ck
  rw [ht]
  have e : mm_nn 1 k = 6 := by unfold mm_nn; rw [hn]; rfl
  dsimp only
  rw [e]
  refine if_pos ⟨⟨rfl, by simp⟩, hs, ?_, rfl⟩
  simp at hv ⊢
  simp [hv]
theorem R_calls7 {c k ne z : Nat} {v1 v2 v3 v4 v5 v6 v7 : Value} (hc : mm_cd mi pc = some (.invokestatic c)) (hq : pc + 3 = q) (ht : mm_l2 mm_mT (mm_ow mi) c = some (k, 1, ne, z)) (hn : mm_np k = 7) (hs : (st.map fun v => v.category).sum ≤ 8) (hv : ((v1.category == 1) && (v2.category == 1) && (v3.category == 1) && (v4.category == 1) && (v5.category == 1) && (v6.category == 1) && (v7.category == 1)) = true) (kk : mm_R S d k 0 (mm_en k ([v1, v2, v3, v4, v5, v6, v7])) [] M (fun v M' => mm_R S (d + 1) mi q L (v.toList ++ st) M' P)) : mm_R S (d + 1) mi pc L (v7 :: v6 :: v5 :: v4 :: v3 :: v2 :: v1 :: st) M P := by
  refine R_call (r := st) hc ?_ hq kk
  unfold mm_cl
  dsimp only
  unfold mm_ck
  rw [ht]
  have e : mm_nn 1 k = 7 := by unfold mm_nn; rw [hn]; rfl
  dsimp only
  rw [e]
  refine if_pos ⟨⟨rfl, by simp⟩, hs, ?_, rfl⟩
  simp at hv ⊢
  simp [hv]
theorem R_calls8 {c k ne z : Nat} {v1 v2 v3 v4 v5 v6 v7 v8 : Value} (hc : mm_cd mi pc = some (.invokestatic c)) (hq : pc + 3 = q) (ht : mm_l2 mm_mT (mm_ow mi) c = some (k, 1, ne, z)) (hn : mm_np k = 8) (hs : (st.map fun v => v.category).sum ≤ 8) (hv : ((v1.category == 1) && (v2.category == 1) && (v3.category == 1) && (v4.category == 1) && (v5.category == 1) && (v6.category == 1) && (v7.category == 1) && (v8.category == 1)) = true) (kk : mm_R S d k 0 (mm_en k ([v1, v2, v3, v4, v5, v6, v7, v8])) [] M (fun v M' => mm_R S (d + 1) mi q L (v.toList ++ st) M' P)) : mm_R S (d + 1) mi pc L (v8 :: v7 :: v6 :: v5 :: v4 :: v3 :: v2 :: v1 :: st) M P := by
  refine R_call (r := st) hc ?_ hq kk
  unfold mm_cl
  dsimp only
  unfold mm_ck
  rw [ht]
  have e : mm_nn 1 k = 8 := by unfold mm_nn; rw [hn]; rfl
  dsimp only
  rw [e]
  refine if_pos ⟨⟨rfl, by simp⟩, hs, ?_, rfl⟩
  simp at hv ⊢
  simp [hv]
theorem R_calli0 {c k ne z a : Nat} (hc : mm_cd mi pc = some (.invokespecial c)) (hq : pc + 3 = q) (ht : mm_l2 mm_mT (mm_ow mi) c = some (k, 2, ne, z)) (hn : mm_np k = 0) (hs : (st.map fun v => v.category).sum ≤ 8) (kk : mm_R S d k 0 (mm_en k [.ref a]) [] M (fun v M' => mm_R S (d + 1) mi q L (v.toList ++ st) M' P)) : mm_R S (d + 1) mi pc L (.ref a :: st) M P := by
  refine R_call (r := st) hc ?_ hq kk
  unfold mm_cl
  dsimp only
  unfold mm_ck
  rw [ht]
  have e : mm_nn 2 k = 1 := by unfold mm_nn; rw [hn]; rfl
  dsimp only
  rw [e]
  refine if_pos ⟨⟨rfl, by simp⟩, hs, ?_, rfl⟩
  simp [Value.category]
end RR
end
section
/-! ===== Int32 by its bits: bt x i ===== -/
def bt (x : Int32) (i : Nat) : Bool := x.toBitVec.getLsbD i
theorem b_ext {x y : Int32} (h : ∀ i, i < 32 → bt x i = bt y i) : x = y := Int32.toBitVec_inj.mp (BitVec.eq_of_getLsbD_eq (fun i hi => h i hi))
theorem b_or (x y : Int32) (i : Nat) : bt (x ||| y) i = (bt x i || bt y i) := by unfold bt; rw [Int32.toBitVec_or, BitVec.getLsbD_or]
theorem b_and (x y : Int32) (i : Nat) : bt (x &&& y) i = (bt x i && bt y i) := by unfold bt; rw [Int32.toBitVec_and, BitVec.getLsbD_and]
theorem b_xor (x y : Int32) (i : Nat) : bt (x ^^^ y) i = (bt x i ^^ bt y i) := by unfold bt; rw [Int32.toBitVec_xor, BitVec.getLsbD_xor]
theorem b_big {x : Int32} {i : Nat} (h : 32 ≤ i) : bt x i = false := BitVec.getLsbD_of_ge _ _ h
theorem b_255 (i : Nat) : bt 255 i = decide (i < 8) := by
  rcases Nat.lt_or_ge i 32 with h | h
  · exact (by decide +kernel : ∀ i, i < 32 → bt 255 i = decide (i < 8)) i h
  · rw [b_big h, decide_eq_false (by omega)]
theorem b_65535 (i : Nat) : bt 65535 i = decide (i < 16) := by
  rcases Nat.lt_or_ge i 32 with h | h
  · exact (by decide +kernel : ∀ i, i < 32 → bt 65535 i = decide (i < 16)) i h
  · rw [b_big h, decide_eq_false (by omega)]
theorem b_m1 : ∀ i, i < 32 → bt (-1) i = true := by decide +kernel
theorem b_0 (i : Nat) : bt 0 i = false := BitVec.getLsbD_zero
theorem s_l : ∀ n, n < 32 → ((nI n &&& 31).toBitVec.smod 32).toNat = n := by decide +kernel
theorem s_u : ∀ n, n < 32 → (((nI n).toUInt32 &&& Int32.toUInt32 31).toBitVec % 32).toNat = n := by decide +kernel
theorem b_shl (n : Nat) (hn : n < 32) (x : Int32) {i : Nat} (hi : i < 32) : bt (x <<< (nI n &&& 31)) i = (decide (n ≤ i) && bt x (i - n)) := by
  unfold bt
  rw [Int32.toBitVec_shiftLeft]
  show (x.toBitVec <<< ((nI n &&& 31).toBitVec.smod 32).toNat).getLsbD i = _
  rw [s_l n hn, BitVec.getLsbD_shiftLeft]
  rcases Nat.lt_or_ge i n with h | h
  · simp [h, Nat.not_le.mpr h]
  · simp [hi, h, Nat.not_lt.mpr h]
theorem b_ushr (n : Nat) (hn : n < 32) (x : Int32) (i : Nat) : bt ((x.toUInt32 >>> ((nI n).toUInt32 &&& Int32.toUInt32 31)).toInt32) i = bt x (n + i) := by
  show (x.toUInt32 >>> ((nI n).toUInt32 &&& Int32.toUInt32 31)).toBitVec.getLsbD i = x.toUInt32.toBitVec.getLsbD (n + i)
  rw [UInt32.toBitVec_shiftRight]
  show (x.toUInt32.toBitVec >>> (((nI n).toUInt32 &&& Int32.toUInt32 31).toBitVec % 32).toNat).getLsbD i = _
  rw [s_u n hn, BitVec.getLsbD_ushiftRight]
theorem b_sshr (n : Nat) (hn : n < 32) (x : Int32) {i : Nat} (hi : i < 32) : bt (x >>> (nI n &&& 31)) i = if n + i < 32 then bt x (n + i) else bt x 31 := by
  unfold bt
  rw [Int32.toBitVec_shiftRight]
  show (x.toBitVec.sshiftRight ((nI n &&& 31).toBitVec.smod 32).toNat).getLsbD i = _
  rw [s_l n hn, BitVec.getLsbD_sshiftRight, BitVec.msb_eq_getLsbD_last]
  simp [hi]
theorem b_shl8 (x : Int32) {i : Nat} (hi : i < 32) : bt (x <<< ((8 : Int32) &&& 31)) i = (decide (8 ≤ i) && bt x (i - 8)) := b_shl 8 (by omega) x hi
theorem b_shl16 (x : Int32) {i : Nat} (hi : i < 32) : bt (x <<< ((16 : Int32) &&& 31)) i = (decide (16 ≤ i) && bt x (i - 16)) := b_shl 16 (by omega) x hi
theorem b_shl24 (x : Int32) {i : Nat} (hi : i < 32) : bt (x <<< ((24 : Int32) &&& 31)) i = (decide (24 ≤ i) && bt x (i - 24)) := b_shl 24 (by omega) x hi
theorem b_sshr8 (x : Int32) {i : Nat} (hi : i < 32) : bt (x >>> ((8 : Int32) &&& 31)) i = if 8 + i < 32 then bt x (8 + i) else bt x 31 := b_sshr 8 (by omega) x hi
/-! ===== small words for the walks ===== -/
def zb (b : Bool) : Int32 := if b then nI 1 else nI 0
theorem zb_t {p : Prop} {D : Decidable p} (h : p) : zb (@decide p D) = nI 1 := by unfold zb; rw [decide_eq_true h]; rfl
theorem zb_f {p : Prop} {D : Decidable p} (h : ¬ p) : zb (@decide p D) = nI 0 := by unfold zb; rw [decide_eq_false h]; rfl
theorem zb_01 (b : Bool) : zb b = 0 ∨ zb b = 1 := by cases b; exact Or.inl rfl; exact Or.inr rfl
theorem zb_eq0 {b : Bool} : zb b = 0 ↔ b = false := by cases b <;> decide
theorem zb_ne0 {b : Bool} : ¬ zb b = 0 ↔ b = true := by cases b <;> decide
theorem mm_pe {M : mm_M} {a : Nat} {c : mm_E} : (mm_put M a c).1 a = some c := if_pos rfl
theorem mm_pn {M : mm_M} {a b : Nat} {c : mm_E} (h : b ≠ a) : (mm_put M a c).1 b = M.1 b := if_neg h
theorem mm_p2 {M : mm_M} {a : Nat} {c : mm_E} : (mm_put M a c).2 = M.2 := rfl
theorem mm_pp {M : mm_M} {a : Nat} {c c' : mm_E} : mm_put (mm_put M a c) a c' = mm_put M a c' := by
  unfold mm_put mm_u
  congr 1
  funext k
  by_cases h : k = a
  · simp [h]
  · simp [h]
theorem mm_pself {M : mm_M} {a : Nat} {c : mm_E} (h : M.1 a = some c) : mm_put M a c = M := by
  unfold mm_put mm_u
  obtain ⟨f, n⟩ := M
  congr 1
  funext k
  by_cases e : k = a
  · rw [if_pos e, e]; exact h.symm
  · rw [if_neg e]
theorem mm_pcomm {M : mm_M} {a b : Nat} {c c' : mm_E} (h : a ≠ b) : mm_put (mm_put M a c) b c' = mm_put (mm_put M b c') a c := by
  unfold mm_put mm_u
  congr 1
  funext k
  by_cases e : k = a
  · by_cases e2 : k = b
    · exact absurd (e.symm.trans e2) h
    · simp [e, h]
  · by_cases e2 : k = b
    · have h' : ¬ b = a := fun q => h q.symm
      simp [e2, h']
    · simp [e, e2]
def ifl (n f : Nat → Int32) (j : Nat) : Nat → Int32 := fun i => if i < j then n i else f i
theorem ifl_0 {n f : Nat → Int32} : ifl n f 0 = f := by funext i; exact if_neg (Nat.not_lt_zero i)
theorem ifl_lt {n f : Nat → Int32} {i j : Nat} (h : i < j) : ifl n f j i = n i := if_pos h
theorem ifl_ge {n f : Nat → Int32} {i j : Nat} (h : j ≤ i) : ifl n f j i = f i := if_neg (Nat.not_lt.mpr h)
theorem ifl_s {n f : Nat → Int32} {j : Nat} : upd (ifl n f j) j (n j) = ifl n f (j + 1) := by
  funext i
  unfold upd ifl
  by_cases h : i = j
  · subst h; simp
  · rw [if_neg h]
    by_cases h2 : i < j
    · rw [if_pos h2, if_pos (by omega)]
    · rw [if_neg h2, if_neg (by omega)]
theorem lpN (W : Nat → Prop) (e : Nat) (hs : ∀ j, j < e → W (j + 1) → W j) (he : W e) : ∀ j, j ≤ e → W j := by
  intro j hj
  obtain ⟨k, rfl⟩ : ∃ k, e = j + k := ⟨e - j, by omega⟩
  clear hj
  induction k generalizing j with
  | zero => exact he
  | succ k ih => exact hs j (by omega) (ih (j + 1) (by rw [show j + 1 + k = j + (k + 1) by omega]; exact hs) (by rw [show j + 1 + k = j + (k + 1) by omega]; exact he))
theorem nI_i1 (a : Nat) : nI a + Int32.ofInt 1 = nI (a + 1) := nI_1 a
theorem R_atM {S : mm_S} {d mi pc : Nat} {L : mm_L} {st : List Value} {M M' : mm_M} {P : Option Value → mm_M → Prop} (hM : M' = M) (h : mm_R S d mi pc L st M' P) : mm_R S d mi pc L st M P := by
  subst hM; exact h
theorem i_add {a b : Int32} (h : -2147483648 ≤ a.toInt + b.toInt ∧ a.toInt + b.toInt < 2147483648) : (a + b).toInt = a.toInt + b.toInt := by
  rw [Int32.toInt_add]
  exact Int.bmod_eq_of_le (by omega) (by omega)
theorem i_sub {a b : Int32} (h : -2147483648 ≤ a.toInt - b.toInt ∧ a.toInt - b.toInt < 2147483648) : (a - b).toInt = a.toInt - b.toInt := by
  rw [Int32.toInt_sub]
  exact Int.bmod_eq_of_le (by omega) (by omega)
theorem i_mul {a b : Int32} (h : -2147483648 ≤ a.toInt * b.toInt ∧ a.toInt * b.toInt < 2147483648) : (a * b).toInt = a.toInt * b.toInt := by
  rw [Int32.toInt_mul]
  exact Int.bmod_eq_of_le (by omega) (by omega)
theorem i_neg {a : Int32} (h : -2147483648 < a.toInt) : (-a).toInt = -a.toInt := by
  have h2 := Int32.toInt_lt a
  rw [Int32.toInt_neg]
  exact Int.bmod_eq_of_le (by omega) (by omega)
theorem i_lo (a : Int32) : -2147483648 ≤ a.toInt := Int32.le_toInt a
theorem i_hi (a : Int32) : a.toInt < 2147483648 := Int32.toInt_lt a
theorem i_nat {a : Int32} {n : Nat} (h : a.toInt = n) : a = nI n := by
  have h2 := i_hi a
  exact Int32.toInt_inj.mp (by rw [nI_toInt (by omega)]; exact h)
theorem i_ix {a : Int32} (n : Nat) (hn : n < 2147483648) (h0 : 0 ≤ a.toInt) (h1 : a.toInt < n) : ∃ j : Nat, j < n ∧ a = nI j := ⟨a.toInt.toNat, by omega, i_nat (by omega)⟩
theorem i_le (a b : Int32) : a ≤ b ↔ a.toInt ≤ b.toInt := Int32.le_iff_toInt_le
theorem i_lt (a b : Int32) : a < b ↔ a.toInt < b.toInt := Int32.lt_iff_toInt_lt
theorem i_eq (a b : Int32) : a = b ↔ a.toInt = b.toInt := Int32.toInt_inj.symm
theorem i_0 : (0 : Int32).toInt = 0 := rfl
theorem i_n (n : Nat) (h : n < 2147483648) : (nI n).toInt = n := nI_toInt h
theorem i_1 : (nI 1).toInt = 1 := rfl
theorem i_16 : (nI 16).toInt = 16 := rfl
theorem in_nI {j n : Nat} (h : j < n) (hn : n < 2147483648) : vp_in (nI j) n := vp_in_nI h hn
theorem cl_nI {j : Nat} (h : j < 2147483648) : (nI j).toNatClampNeg = j := nI_clamp h
theorem ik_0 : (nI 0).toInt = 0 := rfl
theorem ik_1 : (nI 1).toInt = 1 := rfl
theorem ik_2 : (nI 2).toInt = 2 := rfl
theorem ik_3 : (nI 3).toInt = 3 := rfl
theorem ik_4 : (nI 4).toInt = 4 := rfl
theorem ik_5 : (nI 5).toInt = 5 := rfl
theorem ik_6 : (nI 6).toInt = 6 := rfl
theorem ik_7 : (nI 7).toInt = 7 := rfl
theorem ik_8 : (nI 8).toInt = 8 := rfl
theorem ik_9 : (nI 9).toInt = 9 := rfl
theorem ik_10 : (nI 10).toInt = 10 := rfl
theorem ik_11 : (nI 11).toInt = 11 := rfl
theorem ik_12 : (nI 12).toInt = 12 := rfl
theorem ik_13 : (nI 13).toInt = 13 := rfl
theorem ik_14 : (nI 14).toInt = 14 := rfl
theorem ik_15 : (nI 15).toInt = 15 := rfl
theorem ik_16 : (nI 16).toInt = 16 := rfl
theorem ik_17 : (nI 17).toInt = 17 := rfl
theorem ik_18 : (nI 18).toInt = 18 := rfl
theorem ik_19 : (nI 19).toInt = 19 := rfl
theorem ik_20 : (nI 20).toInt = 20 := rfl
theorem ik_21 : (nI 21).toInt = 21 := rfl
theorem ik_22 : (nI 22).toInt = 22 := rfl
theorem ik_23 : (nI 23).toInt = 23 := rfl
theorem ik_24 : (nI 24).toInt = 24 := rfl
theorem ik_25 : (nI 25).toInt = 25 := rfl
theorem ik_26 : (nI 26).toInt = 26 := rfl
theorem ik_27 : (nI 27).toInt = 27 := rfl
theorem ik_28 : (nI 28).toInt = 28 := rfl
theorem ik_29 : (nI 29).toInt = 29 := rfl
theorem ik_30 : (nI 30).toInt = 30 := rfl
theorem ik_31 : (nI 31).toInt = 31 := rfl
theorem ik_32 : (nI 32).toInt = 32 := rfl
theorem ik_33 : (nI 33).toInt = 33 := rfl
theorem ik_34 : (nI 34).toInt = 34 := rfl
theorem ik_35 : (nI 35).toInt = 35 := rfl
theorem ik_36 : (nI 36).toInt = 36 := rfl
theorem ik_127 : (nI 127).toInt = 127 := rfl
theorem ik_128 : (nI 128).toInt = 128 := rfl
theorem ik_200 : (nI 200).toInt = 200 := rfl
theorem ik_201 : (nI 201).toInt = 201 := rfl
theorem ik_255 : (nI 255).toInt = 255 := rfl
theorem ik_256 : (nI 256).toInt = 256 := rfl
theorem ik_272 : (nI 272).toInt = 272 := rfl
theorem ik_289 : (nI 289).toInt = 289 := rfl
theorem ik_400 : (nI 400).toInt = 400 := rfl
theorem ik_512 : (nI 512).toInt = 512 := rfl
end
section
section P14
variable {S : mm_S} {d : Nat} {M : mm_M}
theorem c139 {s : Int32} : mm_R S d 139 0 (mm_en 139 [.int s]) [] M (fun v M' => v = some (.int (zb (decide (0 ≤ s.toInt ∧ s.toInt < 6)))) ∧ M' = M) := by
  show mm_R S d 139 0 [some (.int s)] [] M _
  refine R_iload_n (q := 1) rfl rfl rfl ?_
  refine R_if_lt (q := 4) (t := 14) rfl rfl rfl (fun h1 => ?_) (fun h1 => ?_)
  · refine R_iconst (q := 15) (v := nI 0) rfl rfl (by decide) ?_
    refine R_zreturn rfl rfl (by first | exact Or.inl rfl | exact Or.inr rfl | assumption) ?_
    refine ⟨congrArg some (congrArg Value.int ?_), rfl⟩
    first | exact (zb_t (by (try simp only [i_lt, i_le, i_eq, i_0, ik_0, ik_1, ik_2, ik_3, ik_4, ik_5, ik_6, ik_7, ik_8, ik_9, ik_10, ik_11, ik_12, ik_13, ik_14, ik_15, ik_16, ik_17, ik_18, ik_19, ik_20, ik_21, ik_22, ik_23, ik_24, ik_25, ik_26, ik_27, ik_28, ik_29, ik_30, ik_31, ik_32, ik_33, ik_34, ik_35, ik_36, ik_127, ik_128, ik_200, ik_201, ik_255, ik_256, ik_272, ik_289, ik_400, ik_512] at *) <;> omega)).symm | exact (zb_f (by (try simp only [i_lt, i_le, i_eq, i_0, ik_0, ik_1, ik_2, ik_3, ik_4, ik_5, ik_6, ik_7, ik_8, ik_9, ik_10, ik_11, ik_12, ik_13, ik_14, ik_15, ik_16, ik_17, ik_18, ik_19, ik_20, ik_21, ik_22, ik_23, ik_24, ik_25, ik_26, ik_27, ik_28, ik_29, ik_30, ik_31, ik_32, ik_33, ik_34, ik_35, ik_36, ik_127, ik_128, ik_200, ik_201, ik_255, ik_256, ik_272, ik_289, ik_400, ik_512] at *) <;> omega)).symm
  · refine R_iload_n (q := 5) rfl rfl rfl ?_
    refine R_bipush (q := 7) (v := nI 6) rfl rfl (by decide) ?_
    refine R_icmp_ge (q := 10) (t := 14) rfl rfl rfl (fun h7 => ?_) (fun h7 => ?_)
    · refine R_iconst (q := 15) (v := nI 0) rfl rfl (by decide) ?_
      refine R_zreturn rfl rfl (by first | exact Or.inl rfl | exact Or.inr rfl | assumption) ?_
      refine ⟨congrArg some (congrArg Value.int ?_), rfl⟩
      first | exact (zb_t (by (try simp only [i_lt, i_le, i_eq, i_0, ik_0, ik_1, ik_2, ik_3, ik_4, ik_5, ik_6, ik_7, ik_8, ik_9, ik_10, ik_11, ik_12, ik_13, ik_14, ik_15, ik_16, ik_17, ik_18, ik_19, ik_20, ik_21, ik_22, ik_23, ik_24, ik_25, ik_26, ik_27, ik_28, ik_29, ik_30, ik_31, ik_32, ik_33, ik_34, ik_35, ik_36, ik_127, ik_128, ik_200, ik_201, ik_255, ik_256, ik_272, ik_289, ik_400, ik_512] at *) <;> omega)).symm | exact (zb_f (by (try simp only [i_lt, i_le, i_eq, i_0, ik_0, ik_1, ik_2, ik_3, ik_4, ik_5, ik_6, ik_7, ik_8, ik_9, ik_10, ik_11, ik_12, ik_13, ik_14, ik_15, ik_16, ik_17, ik_18, ik_19, ik_20, ik_21, ik_22, ik_23, ik_24, ik_25, ik_26, ik_27, ik_28, ik_29, ik_30, ik_31, ik_32, ik_33, ik_34, ik_35, ik_36, ik_127, ik_128, ik_200, ik_201, ik_255, ik_256, ik_272, ik_289, ik_400, ik_512] at *) <;> omega)).symm
    · refine R_iconst (q := 11) (v := nI 1) rfl rfl (by decide) ?_
      refine R_goto (t := 15) rfl rfl ?_
      refine R_zreturn rfl rfl (by first | exact Or.inl rfl | exact Or.inr rfl | assumption) ?_
      refine ⟨congrArg some (congrArg Value.int ?_), rfl⟩
      first | exact (zb_t (by (try simp only [i_lt, i_le, i_eq, i_0, ik_0, ik_1, ik_2, ik_3, ik_4, ik_5, ik_6, ik_7, ik_8, ik_9, ik_10, ik_11, ik_12, ik_13, ik_14, ik_15, ik_16, ik_17, ik_18, ik_19, ik_20, ik_21, ik_22, ik_23, ik_24, ik_25, ik_26, ik_27, ik_28, ik_29, ik_30, ik_31, ik_32, ik_33, ik_34, ik_35, ik_36, ik_127, ik_128, ik_200, ik_201, ik_255, ik_256, ik_272, ik_289, ik_400, ik_512] at *) <;> omega)).symm | exact (zb_f (by (try simp only [i_lt, i_le, i_eq, i_0, ik_0, ik_1, ik_2, ik_3, ik_4, ik_5, ik_6, ik_7, ik_8, ik_9, ik_10, ik_11, ik_12, ik_13, ik_14, ik_15, ik_16, ik_17, ik_18, ik_19, ik_20, ik_21, ik_22, ik_23, ik_24, ik_25, ik_26, ik_27, ik_28, ik_29, ik_30, ik_31, ik_32, ik_33, ik_34, ik_35, ik_36, ik_127, ik_128, ik_200, ik_201, ik_255, ik_256, ik_272, ik_289, ik_400, ik_512] at *) <;> omega)).symm
theorem c140 {s : Int32} : mm_R S d 140 0 (mm_en 140 [.int s]) [] M (fun v M' => v = some (.int (zb (decide (0 ≤ s.toInt ∧ s.toInt < 6)))) ∧ M' = M) := by
  show mm_R S d 140 0 [some (.int s)] [] M _
  refine R_iload_n (q := 1) rfl rfl rfl ?_
  refine R_if_lt (q := 4) (t := 14) rfl rfl rfl (fun h1 => ?_) (fun h1 => ?_)
  · refine R_iconst (q := 15) (v := nI 0) rfl rfl (by decide) ?_
    refine R_zreturn rfl rfl (by first | exact Or.inl rfl | exact Or.inr rfl | assumption) ?_
    refine ⟨congrArg some (congrArg Value.int ?_), rfl⟩
    first | exact (zb_t (by (try simp only [i_lt, i_le, i_eq, i_0, ik_0, ik_1, ik_2, ik_3, ik_4, ik_5, ik_6, ik_7, ik_8, ik_9, ik_10, ik_11, ik_12, ik_13, ik_14, ik_15, ik_16, ik_17, ik_18, ik_19, ik_20, ik_21, ik_22, ik_23, ik_24, ik_25, ik_26, ik_27, ik_28, ik_29, ik_30, ik_31, ik_32, ik_33, ik_34, ik_35, ik_36, ik_127, ik_128, ik_200, ik_201, ik_255, ik_256, ik_272, ik_289, ik_400, ik_512] at *) <;> omega)).symm | exact (zb_f (by (try simp only [i_lt, i_le, i_eq, i_0, ik_0, ik_1, ik_2, ik_3, ik_4, ik_5, ik_6, ik_7, ik_8, ik_9, ik_10, ik_11, ik_12, ik_13, ik_14, ik_15, ik_16, ik_17, ik_18, ik_19, ik_20, ik_21, ik_22, ik_23, ik_24, ik_25, ik_26, ik_27, ik_28, ik_29, ik_30, ik_31, ik_32, ik_33, ik_34, ik_35, ik_36, ik_127, ik_128, ik_200, ik_201, ik_255, ik_256, ik_272, ik_289, ik_400, ik_512] at *) <;> omega)).symm
  · refine R_iload_n (q := 5) rfl rfl rfl ?_
    refine R_bipush (q := 7) (v := nI 6) rfl rfl (by decide) ?_
    refine R_icmp_ge (q := 10) (t := 14) rfl rfl rfl (fun h7 => ?_) (fun h7 => ?_)
    · refine R_iconst (q := 15) (v := nI 0) rfl rfl (by decide) ?_
      refine R_zreturn rfl rfl (by first | exact Or.inl rfl | exact Or.inr rfl | assumption) ?_
      refine ⟨congrArg some (congrArg Value.int ?_), rfl⟩
      first | exact (zb_t (by (try simp only [i_lt, i_le, i_eq, i_0, ik_0, ik_1, ik_2, ik_3, ik_4, ik_5, ik_6, ik_7, ik_8, ik_9, ik_10, ik_11, ik_12, ik_13, ik_14, ik_15, ik_16, ik_17, ik_18, ik_19, ik_20, ik_21, ik_22, ik_23, ik_24, ik_25, ik_26, ik_27, ik_28, ik_29, ik_30, ik_31, ik_32, ik_33, ik_34, ik_35, ik_36, ik_127, ik_128, ik_200, ik_201, ik_255, ik_256, ik_272, ik_289, ik_400, ik_512] at *) <;> omega)).symm | exact (zb_f (by (try simp only [i_lt, i_le, i_eq, i_0, ik_0, ik_1, ik_2, ik_3, ik_4, ik_5, ik_6, ik_7, ik_8, ik_9, ik_10, ik_11, ik_12, ik_13, ik_14, ik_15, ik_16, ik_17, ik_18, ik_19, ik_20, ik_21, ik_22, ik_23, ik_24, ik_25, ik_26, ik_27, ik_28, ik_29, ik_30, ik_31, ik_32, ik_33, ik_34, ik_35, ik_36, ik_127, ik_128, ik_200, ik_201, ik_255, ik_256, ik_272, ik_289, ik_400, ik_512] at *) <;> omega)).symm
    · refine R_iconst (q := 11) (v := nI 1) rfl rfl (by decide) ?_
      refine R_goto (t := 15) rfl rfl ?_
      refine R_zreturn rfl rfl (by first | exact Or.inl rfl | exact Or.inr rfl | assumption) ?_
      refine ⟨congrArg some (congrArg Value.int ?_), rfl⟩
      first | exact (zb_t (by (try simp only [i_lt, i_le, i_eq, i_0, ik_0, ik_1, ik_2, ik_3, ik_4, ik_5, ik_6, ik_7, ik_8, ik_9, ik_10, ik_11, ik_12, ik_13, ik_14, ik_15, ik_16, ik_17, ik_18, ik_19, ik_20, ik_21, ik_22, ik_23, ik_24, ik_25, ik_26, ik_27, ik_28, ik_29, ik_30, ik_31, ik_32, ik_33, ik_34, ik_35, ik_36, ik_127, ik_128, ik_200, ik_201, ik_255, ik_256, ik_272, ik_289, ik_400, ik_512] at *) <;> omega)).symm | exact (zb_f (by (try simp only [i_lt, i_le, i_eq, i_0, ik_0, ik_1, ik_2, ik_3, ik_4, ik_5, ik_6, ik_7, ik_8, ik_9, ik_10, ik_11, ik_12, ik_13, ik_14, ik_15, ik_16, ik_17, ik_18, ik_19, ik_20, ik_21, ik_22, ik_23, ik_24, ik_25, ik_26, ik_27, ik_28, ik_29, ik_30, ik_31, ik_32, ik_33, ik_34, ik_35, ik_36, ik_127, ik_128, ik_200, ik_201, ik_255, ik_256, ik_272, ik_289, ik_400, ik_512] at *) <;> omega)).symm
theorem c141 {x y : Int32} (hy : 0 ≤ y.toInt) : mm_R S d 141 0 (mm_en 141 [.int x, .int y]) [] M (fun v M' => v = some (.int (zb (decide (-y.toInt ≤ x.toInt ∧ x.toInt ≤ y.toInt)))) ∧ M' = M) := by
  have en := i_neg (a := y) (by omega)
  show mm_R S d 141 0 [some (.int x), some (.int y)] [] M _
  refine R_iload_n (q := 1) rfl rfl rfl ?_
  refine R_iload_n (q := 2) rfl rfl rfl ?_
  refine R_ineg (q := 3) rfl rfl ?_
  refine R_icmp_lt (q := 6) (t := 15) rfl rfl rfl (fun h3 => ?_) (fun h3 => ?_)
  · refine R_iconst (q := 16) (v := nI 0) rfl rfl (by decide) ?_
    refine R_zreturn rfl rfl (by first | exact Or.inl rfl | exact Or.inr rfl | assumption) ?_
    refine ⟨congrArg some (congrArg Value.int ?_), rfl⟩
    first | exact (zb_t (by (try simp only [i_lt, i_le, i_eq, i_0, ik_0, ik_1, ik_2, ik_3, ik_4, ik_5, ik_6, ik_7, ik_8, ik_9, ik_10, ik_11, ik_12, ik_13, ik_14, ik_15, ik_16, ik_17, ik_18, ik_19, ik_20, ik_21, ik_22, ik_23, ik_24, ik_25, ik_26, ik_27, ik_28, ik_29, ik_30, ik_31, ik_32, ik_33, ik_34, ik_35, ik_36, ik_127, ik_128, ik_200, ik_201, ik_255, ik_256, ik_272, ik_289, ik_400, ik_512] at *) <;> omega)).symm | exact (zb_f (by (try simp only [i_lt, i_le, i_eq, i_0, ik_0, ik_1, ik_2, ik_3, ik_4, ik_5, ik_6, ik_7, ik_8, ik_9, ik_10, ik_11, ik_12, ik_13, ik_14, ik_15, ik_16, ik_17, ik_18, ik_19, ik_20, ik_21, ik_22, ik_23, ik_24, ik_25, ik_26, ik_27, ik_28, ik_29, ik_30, ik_31, ik_32, ik_33, ik_34, ik_35, ik_36, ik_127, ik_128, ik_200, ik_201, ik_255, ik_256, ik_272, ik_289, ik_400, ik_512] at *) <;> omega)).symm
  · refine R_iload_n (q := 7) rfl rfl rfl ?_
    refine R_iload_n (q := 8) rfl rfl rfl ?_
    refine R_icmp_gt (q := 11) (t := 15) rfl rfl rfl (fun h8 => ?_) (fun h8 => ?_)
    · refine R_iconst (q := 16) (v := nI 0) rfl rfl (by decide) ?_
      refine R_zreturn rfl rfl (by first | exact Or.inl rfl | exact Or.inr rfl | assumption) ?_
      refine ⟨congrArg some (congrArg Value.int ?_), rfl⟩
      first | exact (zb_t (by (try simp only [i_lt, i_le, i_eq, i_0, ik_0, ik_1, ik_2, ik_3, ik_4, ik_5, ik_6, ik_7, ik_8, ik_9, ik_10, ik_11, ik_12, ik_13, ik_14, ik_15, ik_16, ik_17, ik_18, ik_19, ik_20, ik_21, ik_22, ik_23, ik_24, ik_25, ik_26, ik_27, ik_28, ik_29, ik_30, ik_31, ik_32, ik_33, ik_34, ik_35, ik_36, ik_127, ik_128, ik_200, ik_201, ik_255, ik_256, ik_272, ik_289, ik_400, ik_512] at *) <;> omega)).symm | exact (zb_f (by (try simp only [i_lt, i_le, i_eq, i_0, ik_0, ik_1, ik_2, ik_3, ik_4, ik_5, ik_6, ik_7, ik_8, ik_9, ik_10, ik_11, ik_12, ik_13, ik_14, ik_15, ik_16, ik_17, ik_18, ik_19, ik_20, ik_21, ik_22, ik_23, ik_24, ik_25, ik_26, ik_27, ik_28, ik_29, ik_30, ik_31, ik_32, ik_33, ik_34, ik_35, ik_36, ik_127, ik_128, ik_200, ik_201, ik_255, ik_256, ik_272, ik_289, ik_400, ik_512] at *) <;> omega)).symm
    · refine R_iconst (q := 12) (v := nI 1) rfl rfl (by decide) ?_
      refine R_goto (t := 16) rfl rfl ?_
      refine R_zreturn rfl rfl (by first | exact Or.inl rfl | exact Or.inr rfl | assumption) ?_
      refine ⟨congrArg some (congrArg Value.int ?_), rfl⟩
      first | exact (zb_t (by (try simp only [i_lt, i_le, i_eq, i_0, ik_0, ik_1, ik_2, ik_3, ik_4, ik_5, ik_6, ik_7, ik_8, ik_9, ik_10, ik_11, ik_12, ik_13, ik_14, ik_15, ik_16, ik_17, ik_18, ik_19, ik_20, ik_21, ik_22, ik_23, ik_24, ik_25, ik_26, ik_27, ik_28, ik_29, ik_30, ik_31, ik_32, ik_33, ik_34, ik_35, ik_36, ik_127, ik_128, ik_200, ik_201, ik_255, ik_256, ik_272, ik_289, ik_400, ik_512] at *) <;> omega)).symm | exact (zb_f (by (try simp only [i_lt, i_le, i_eq, i_0, ik_0, ik_1, ik_2, ik_3, ik_4, ik_5, ik_6, ik_7, ik_8, ik_9, ik_10, ik_11, ik_12, ik_13, ik_14, ik_15, ik_16, ik_17, ik_18, ik_19, ik_20, ik_21, ik_22, ik_23, ik_24, ik_25, ik_26, ik_27, ik_28, ik_29, ik_30, ik_31, ik_32, ik_33, ik_34, ik_35, ik_36, ik_127, ik_128, ik_200, ik_201, ik_255, ik_256, ik_272, ik_289, ik_400, ik_512] at *) <;> omega)).symm
theorem bt_1 (i : Nat) (h : i < 32) : bt (nI 1) i = decide (i = 0) := (by decide +kernel : ∀ i, i < 32 → bt (nI 1) i = decide (i = 0)) i h
theorem bt_bit (x : Int32) (n : Nat) (hn : n < 32) : (x >>> (nI n &&& 31)) &&& nI 1 = 0 ↔ bt x n = false := by
  constructor
  · intro h
    have h1 := congrArg (fun z => bt z 0) h
    simp only [b_and, b_0] at h1
    rw [b_sshr n hn x (by omega), bt_1 0 (by omega)] at h1
    simpa [hn] using h1
  · intro h
    apply b_ext
    intro i hi
    rw [b_and, b_sshr n hn x hi, bt_1 i hi, b_0]
    by_cases h0 : i = 0
    · subst h0
      simp [hn, h]
    · simp [h0]
theorem c142 {x : Int32} {n : Nat} (hn : n < 32) : mm_R S d 142 0 (mm_en 142 [.int x, .int (nI n)]) [] M (fun v M' => v = some (.int (zb (bt x n))) ∧ M' = M) := by
  show mm_R S d 142 0 [some (.int x), some (.int (nI n))] [] M _
  refine R_iload_n (q := 1) rfl rfl rfl ?_
  refine R_iload_n (q := 2) rfl rfl rfl ?_
  refine R_ishr (q := 3) rfl rfl ?_
  refine R_iconst (q := 4) (v := nI 1) rfl rfl (by decide) ?_
  refine R_iand (q := 5) rfl rfl ?_
  refine R_if_eq (q := 8) (t := 12) rfl rfl rfl (fun h5 => ?_) (fun h5 => ?_)
  · refine R_iconst (q := 13) (v := nI 0) rfl rfl (by decide) ?_
    refine R_zreturn rfl rfl (by first | exact Or.inl rfl | exact Or.inr rfl | assumption) ?_
    first | exact ⟨by rw [(bt_bit x n hn).mp h5]; rfl, rfl⟩ | exact ⟨by rw [show bt x n = true from (by simpa using fun q => h5 ((bt_bit x n hn).mpr q))]; rfl, rfl⟩
  · refine R_iconst (q := 9) (v := nI 1) rfl rfl (by decide) ?_
    refine R_goto (t := 13) rfl rfl ?_
    refine R_zreturn rfl rfl (by first | exact Or.inl rfl | exact Or.inr rfl | assumption) ?_
    first | exact ⟨by rw [(bt_bit x n hn).mp h5]; rfl, rfl⟩ | exact ⟨by rw [show bt x n = true from (by simpa using fun q => h5 ((bt_bit x n hn).mpr q))]; rfl, rfl⟩
def onp (x y w h : Int32) : Prop := (0 ≤ x.toInt ∧ 1 ≤ w.toInt ∧ x.toInt + w.toInt ≤ 16) ∧ 0 ≤ y.toInt ∧ 1 ≤ h.toInt ∧ y.toInt + h.toInt ≤ 16
theorem onp_dec (x y w h : Int32) : onp x y w h ↔ (decide (0 ≤ x.toInt ∧ 1 ≤ w.toInt ∧ x.toInt + w.toInt ≤ 16) && decide (0 ≤ y.toInt ∧ 1 ≤ h.toInt ∧ y.toInt + h.toInt ≤ 16)) = true := by
  unfold onp
  rw [Bool.and_eq_true, decide_eq_true_eq, decide_eq_true_eq]
theorem c143 {x y w h : Int32} : mm_R S d 143 0 (mm_en 143 [.int x, .int y, .int w, .int h]) [] M (fun v M' => v = some (.int (zb (decide ((0 ≤ x.toInt ∧ 1 ≤ w.toInt ∧ x.toInt + w.toInt ≤ 16) ∧ 0 ≤ y.toInt ∧ 1 ≤ h.toInt ∧ y.toInt + h.toInt ≤ 16)))) ∧ M' = M) := by
  show mm_R S d 143 0 [some (.int x), some (.int y), some (.int w), some (.int h)] [] M _
  refine R_iload_n (q := 1) rfl rfl rfl ?_
  refine R_if_lt (q := 4) (t := 50) rfl rfl rfl (fun h1 => ?_) (fun h1 => ?_)
  · refine R_iconst (q := 51) (v := nI 0) rfl rfl (by decide) ?_
    refine R_zreturn rfl rfl (by first | exact Or.inl rfl | exact Or.inr rfl | assumption) ?_
    refine ⟨congrArg some (congrArg Value.int ?_), rfl⟩
    first | exact (zb_t (by (try simp only [i_lt, i_le, i_eq, i_0, ik_0, ik_1, ik_2, ik_3, ik_4, ik_5, ik_6, ik_7, ik_8, ik_9, ik_10, ik_11, ik_12, ik_13, ik_14, ik_15, ik_16, ik_17, ik_18, ik_19, ik_20, ik_21, ik_22, ik_23, ik_24, ik_25, ik_26, ik_27, ik_28, ik_29, ik_30, ik_31, ik_32, ik_33, ik_34, ik_35, ik_36, ik_127, ik_128, ik_200, ik_201, ik_255, ik_256, ik_272, ik_289, ik_400, ik_512] at *) <;> omega)).symm | exact (zb_f (by (try simp only [i_lt, i_le, i_eq, i_0, ik_0, ik_1, ik_2, ik_3, ik_4, ik_5, ik_6, ik_7, ik_8, ik_9, ik_10, ik_11, ik_12, ik_13, ik_14, ik_15, ik_16, ik_17, ik_18, ik_19, ik_20, ik_21, ik_22, ik_23, ik_24, ik_25, ik_26, ik_27, ik_28, ik_29, ik_30, ik_31, ik_32, ik_33, ik_34, ik_35, ik_36, ik_127, ik_128, ik_200, ik_201, ik_255, ik_256, ik_272, ik_289, ik_400, ik_512] at *) <;> omega)).symm
  · refine R_iload_n (q := 5) rfl rfl rfl ?_
    refine R_bipush (q := 7) (v := nI 16) rfl rfl (by decide) ?_
    refine R_icmp_ge (q := 10) (t := 50) rfl rfl rfl (fun h7 => ?_) (fun h7 => ?_)
    · refine R_iconst (q := 51) (v := nI 0) rfl rfl (by decide) ?_
      refine R_zreturn rfl rfl (by first | exact Or.inl rfl | exact Or.inr rfl | assumption) ?_
      refine ⟨congrArg some (congrArg Value.int ?_), rfl⟩
      first | exact (zb_t (by (try simp only [i_lt, i_le, i_eq, i_0, ik_0, ik_1, ik_2, ik_3, ik_4, ik_5, ik_6, ik_7, ik_8, ik_9, ik_10, ik_11, ik_12, ik_13, ik_14, ik_15, ik_16, ik_17, ik_18, ik_19, ik_20, ik_21, ik_22, ik_23, ik_24, ik_25, ik_26, ik_27, ik_28, ik_29, ik_30, ik_31, ik_32, ik_33, ik_34, ik_35, ik_36, ik_127, ik_128, ik_200, ik_201, ik_255, ik_256, ik_272, ik_289, ik_400, ik_512] at *) <;> omega)).symm | exact (zb_f (by (try simp only [i_lt, i_le, i_eq, i_0, ik_0, ik_1, ik_2, ik_3, ik_4, ik_5, ik_6, ik_7, ik_8, ik_9, ik_10, ik_11, ik_12, ik_13, ik_14, ik_15, ik_16, ik_17, ik_18, ik_19, ik_20, ik_21, ik_22, ik_23, ik_24, ik_25, ik_26, ik_27, ik_28, ik_29, ik_30, ik_31, ik_32, ik_33, ik_34, ik_35, ik_36, ik_127, ik_128, ik_200, ik_201, ik_255, ik_256, ik_272, ik_289, ik_400, ik_512] at *) <;> omega)).symm
    · refine R_iload_n (q := 11) rfl rfl rfl ?_
      refine R_iconst (q := 12) (v := nI 1) rfl rfl (by decide) ?_
      refine R_icmp_lt (q := 15) (t := 50) rfl rfl rfl (fun h12 => ?_) (fun h12 => ?_)
      · refine R_iconst (q := 51) (v := nI 0) rfl rfl (by decide) ?_
        refine R_zreturn rfl rfl (by first | exact Or.inl rfl | exact Or.inr rfl | assumption) ?_
        refine ⟨congrArg some (congrArg Value.int ?_), rfl⟩
        first | exact (zb_t (by (try simp only [i_lt, i_le, i_eq, i_0, ik_0, ik_1, ik_2, ik_3, ik_4, ik_5, ik_6, ik_7, ik_8, ik_9, ik_10, ik_11, ik_12, ik_13, ik_14, ik_15, ik_16, ik_17, ik_18, ik_19, ik_20, ik_21, ik_22, ik_23, ik_24, ik_25, ik_26, ik_27, ik_28, ik_29, ik_30, ik_31, ik_32, ik_33, ik_34, ik_35, ik_36, ik_127, ik_128, ik_200, ik_201, ik_255, ik_256, ik_272, ik_289, ik_400, ik_512] at *) <;> omega)).symm | exact (zb_f (by (try simp only [i_lt, i_le, i_eq, i_0, ik_0, ik_1, ik_2, ik_3, ik_4, ik_5, ik_6, ik_7, ik_8, ik_9, ik_10, ik_11, ik_12, ik_13, ik_14, ik_15, ik_16, ik_17, ik_18, ik_19, ik_20, ik_21, ik_22, ik_23, ik_24, ik_25, ik_26, ik_27, ik_28, ik_29, ik_30, ik_31, ik_32, ik_33, ik_34, ik_35, ik_36, ik_127, ik_128, ik_200, ik_201, ik_255, ik_256, ik_272, ik_289, ik_400, ik_512] at *) <;> omega)).symm
      · refine R_iload_n (q := 16) rfl rfl rfl ?_
        refine R_bipush (q := 18) (v := nI 16) rfl rfl (by decide) ?_
        refine R_iload_n (q := 19) rfl rfl rfl ?_
        refine R_isub (q := 20) rfl rfl ?_
        have ex : (nI 16 - x).toInt = 16 - x.toInt := by
          rw [i_sub (by rw [i_16]; (try simp only [i_lt, i_le, i_eq, i_0, ik_0, ik_1, ik_2, ik_3, ik_4, ik_5, ik_6, ik_7, ik_8, ik_9, ik_10, ik_11, ik_12, ik_13, ik_14, ik_15, ik_16, ik_17, ik_18, ik_19, ik_20, ik_21, ik_22, ik_23, ik_24, ik_25, ik_26, ik_27, ik_28, ik_29, ik_30, ik_31, ik_32, ik_33, ik_34, ik_35, ik_36, ik_127, ik_128, ik_200, ik_201, ik_255, ik_256, ik_272, ik_289, ik_400, ik_512] at *) <;> omega), i_16]
        refine R_icmp_gt (q := 23) (t := 50) rfl rfl rfl (fun h20 => ?_) (fun h20 => ?_)
        · refine R_iconst (q := 51) (v := nI 0) rfl rfl (by decide) ?_
          refine R_zreturn rfl rfl (by first | exact Or.inl rfl | exact Or.inr rfl | assumption) ?_
          refine ⟨congrArg some (congrArg Value.int ?_), rfl⟩
          first | exact (zb_t (by (try simp only [i_lt, i_le, i_eq, i_0, ik_0, ik_1, ik_2, ik_3, ik_4, ik_5, ik_6, ik_7, ik_8, ik_9, ik_10, ik_11, ik_12, ik_13, ik_14, ik_15, ik_16, ik_17, ik_18, ik_19, ik_20, ik_21, ik_22, ik_23, ik_24, ik_25, ik_26, ik_27, ik_28, ik_29, ik_30, ik_31, ik_32, ik_33, ik_34, ik_35, ik_36, ik_127, ik_128, ik_200, ik_201, ik_255, ik_256, ik_272, ik_289, ik_400, ik_512] at *) <;> omega)).symm | exact (zb_f (by (try simp only [i_lt, i_le, i_eq, i_0, ik_0, ik_1, ik_2, ik_3, ik_4, ik_5, ik_6, ik_7, ik_8, ik_9, ik_10, ik_11, ik_12, ik_13, ik_14, ik_15, ik_16, ik_17, ik_18, ik_19, ik_20, ik_21, ik_22, ik_23, ik_24, ik_25, ik_26, ik_27, ik_28, ik_29, ik_30, ik_31, ik_32, ik_33, ik_34, ik_35, ik_36, ik_127, ik_128, ik_200, ik_201, ik_255, ik_256, ik_272, ik_289, ik_400, ik_512] at *) <;> omega)).symm
        · refine R_iload_n (q := 24) rfl rfl rfl ?_
          refine R_if_lt (q := 27) (t := 50) rfl rfl rfl (fun h24 => ?_) (fun h24 => ?_)
          · refine R_iconst (q := 51) (v := nI 0) rfl rfl (by decide) ?_
            refine R_zreturn rfl rfl (by first | exact Or.inl rfl | exact Or.inr rfl | assumption) ?_
            refine ⟨congrArg some (congrArg Value.int ?_), rfl⟩
            first | exact (zb_t (by (try simp only [i_lt, i_le, i_eq, i_0, ik_0, ik_1, ik_2, ik_3, ik_4, ik_5, ik_6, ik_7, ik_8, ik_9, ik_10, ik_11, ik_12, ik_13, ik_14, ik_15, ik_16, ik_17, ik_18, ik_19, ik_20, ik_21, ik_22, ik_23, ik_24, ik_25, ik_26, ik_27, ik_28, ik_29, ik_30, ik_31, ik_32, ik_33, ik_34, ik_35, ik_36, ik_127, ik_128, ik_200, ik_201, ik_255, ik_256, ik_272, ik_289, ik_400, ik_512] at *) <;> omega)).symm | exact (zb_f (by (try simp only [i_lt, i_le, i_eq, i_0, ik_0, ik_1, ik_2, ik_3, ik_4, ik_5, ik_6, ik_7, ik_8, ik_9, ik_10, ik_11, ik_12, ik_13, ik_14, ik_15, ik_16, ik_17, ik_18, ik_19, ik_20, ik_21, ik_22, ik_23, ik_24, ik_25, ik_26, ik_27, ik_28, ik_29, ik_30, ik_31, ik_32, ik_33, ik_34, ik_35, ik_36, ik_127, ik_128, ik_200, ik_201, ik_255, ik_256, ik_272, ik_289, ik_400, ik_512] at *) <;> omega)).symm
          · refine R_iload_n (q := 28) rfl rfl rfl ?_
            refine R_bipush (q := 30) (v := nI 16) rfl rfl (by decide) ?_
            refine R_icmp_ge (q := 33) (t := 50) rfl rfl rfl (fun h30 => ?_) (fun h30 => ?_)
            · refine R_iconst (q := 51) (v := nI 0) rfl rfl (by decide) ?_
              refine R_zreturn rfl rfl (by first | exact Or.inl rfl | exact Or.inr rfl | assumption) ?_
              refine ⟨congrArg some (congrArg Value.int ?_), rfl⟩
              first | exact (zb_t (by (try simp only [i_lt, i_le, i_eq, i_0, ik_0, ik_1, ik_2, ik_3, ik_4, ik_5, ik_6, ik_7, ik_8, ik_9, ik_10, ik_11, ik_12, ik_13, ik_14, ik_15, ik_16, ik_17, ik_18, ik_19, ik_20, ik_21, ik_22, ik_23, ik_24, ik_25, ik_26, ik_27, ik_28, ik_29, ik_30, ik_31, ik_32, ik_33, ik_34, ik_35, ik_36, ik_127, ik_128, ik_200, ik_201, ik_255, ik_256, ik_272, ik_289, ik_400, ik_512] at *) <;> omega)).symm | exact (zb_f (by (try simp only [i_lt, i_le, i_eq, i_0, ik_0, ik_1, ik_2, ik_3, ik_4, ik_5, ik_6, ik_7, ik_8, ik_9, ik_10, ik_11, ik_12, ik_13, ik_14, ik_15, ik_16, ik_17, ik_18, ik_19, ik_20, ik_21, ik_22, ik_23, ik_24, ik_25, ik_26, ik_27, ik_28, ik_29, ik_30, ik_31, ik_32, ik_33, ik_34, ik_35, ik_36, ik_127, ik_128, ik_200, ik_201, ik_255, ik_256, ik_272, ik_289, ik_400, ik_512] at *) <;> omega)).symm
            · refine R_iload_n (q := 34) rfl rfl rfl ?_
              refine R_iconst (q := 35) (v := nI 1) rfl rfl (by decide) ?_
              refine R_icmp_lt (q := 38) (t := 50) rfl rfl rfl (fun h35 => ?_) (fun h35 => ?_)
              · refine R_iconst (q := 51) (v := nI 0) rfl rfl (by decide) ?_
                refine R_zreturn rfl rfl (by first | exact Or.inl rfl | exact Or.inr rfl | assumption) ?_
                refine ⟨congrArg some (congrArg Value.int ?_), rfl⟩
                first | exact (zb_t (by (try simp only [i_lt, i_le, i_eq, i_0, ik_0, ik_1, ik_2, ik_3, ik_4, ik_5, ik_6, ik_7, ik_8, ik_9, ik_10, ik_11, ik_12, ik_13, ik_14, ik_15, ik_16, ik_17, ik_18, ik_19, ik_20, ik_21, ik_22, ik_23, ik_24, ik_25, ik_26, ik_27, ik_28, ik_29, ik_30, ik_31, ik_32, ik_33, ik_34, ik_35, ik_36, ik_127, ik_128, ik_200, ik_201, ik_255, ik_256, ik_272, ik_289, ik_400, ik_512] at *) <;> omega)).symm | exact (zb_f (by (try simp only [i_lt, i_le, i_eq, i_0, ik_0, ik_1, ik_2, ik_3, ik_4, ik_5, ik_6, ik_7, ik_8, ik_9, ik_10, ik_11, ik_12, ik_13, ik_14, ik_15, ik_16, ik_17, ik_18, ik_19, ik_20, ik_21, ik_22, ik_23, ik_24, ik_25, ik_26, ik_27, ik_28, ik_29, ik_30, ik_31, ik_32, ik_33, ik_34, ik_35, ik_36, ik_127, ik_128, ik_200, ik_201, ik_255, ik_256, ik_272, ik_289, ik_400, ik_512] at *) <;> omega)).symm
              · refine R_iload_n (q := 39) rfl rfl rfl ?_
                refine R_bipush (q := 41) (v := nI 16) rfl rfl (by decide) ?_
                refine R_iload_n (q := 42) rfl rfl rfl ?_
                refine R_isub (q := 43) rfl rfl ?_
                have ey : (nI 16 - y).toInt = 16 - y.toInt := by
                  rw [i_sub (by rw [i_16]; (try simp only [i_lt, i_le, i_eq, i_0, ik_0, ik_1, ik_2, ik_3, ik_4, ik_5, ik_6, ik_7, ik_8, ik_9, ik_10, ik_11, ik_12, ik_13, ik_14, ik_15, ik_16, ik_17, ik_18, ik_19, ik_20, ik_21, ik_22, ik_23, ik_24, ik_25, ik_26, ik_27, ik_28, ik_29, ik_30, ik_31, ik_32, ik_33, ik_34, ik_35, ik_36, ik_127, ik_128, ik_200, ik_201, ik_255, ik_256, ik_272, ik_289, ik_400, ik_512] at *) <;> omega), i_16]
                refine R_icmp_gt (q := 46) (t := 50) rfl rfl rfl (fun h43 => ?_) (fun h43 => ?_)
                · refine R_iconst (q := 51) (v := nI 0) rfl rfl (by decide) ?_
                  refine R_zreturn rfl rfl (by first | exact Or.inl rfl | exact Or.inr rfl | assumption) ?_
                  refine ⟨congrArg some (congrArg Value.int ?_), rfl⟩
                  first | exact (zb_t (by (try simp only [i_lt, i_le, i_eq, i_0, ik_0, ik_1, ik_2, ik_3, ik_4, ik_5, ik_6, ik_7, ik_8, ik_9, ik_10, ik_11, ik_12, ik_13, ik_14, ik_15, ik_16, ik_17, ik_18, ik_19, ik_20, ik_21, ik_22, ik_23, ik_24, ik_25, ik_26, ik_27, ik_28, ik_29, ik_30, ik_31, ik_32, ik_33, ik_34, ik_35, ik_36, ik_127, ik_128, ik_200, ik_201, ik_255, ik_256, ik_272, ik_289, ik_400, ik_512] at *) <;> omega)).symm | exact (zb_f (by (try simp only [i_lt, i_le, i_eq, i_0, ik_0, ik_1, ik_2, ik_3, ik_4, ik_5, ik_6, ik_7, ik_8, ik_9, ik_10, ik_11, ik_12, ik_13, ik_14, ik_15, ik_16, ik_17, ik_18, ik_19, ik_20, ik_21, ik_22, ik_23, ik_24, ik_25, ik_26, ik_27, ik_28, ik_29, ik_30, ik_31, ik_32, ik_33, ik_34, ik_35, ik_36, ik_127, ik_128, ik_200, ik_201, ik_255, ik_256, ik_272, ik_289, ik_400, ik_512] at *) <;> omega)).symm
                · refine R_iconst (q := 47) (v := nI 1) rfl rfl (by decide) ?_
                  refine R_goto (t := 51) rfl rfl ?_
                  refine R_zreturn rfl rfl (by first | exact Or.inl rfl | exact Or.inr rfl | assumption) ?_
                  refine ⟨congrArg some (congrArg Value.int ?_), rfl⟩
                  first | exact (zb_t (by (try simp only [i_lt, i_le, i_eq, i_0, ik_0, ik_1, ik_2, ik_3, ik_4, ik_5, ik_6, ik_7, ik_8, ik_9, ik_10, ik_11, ik_12, ik_13, ik_14, ik_15, ik_16, ik_17, ik_18, ik_19, ik_20, ik_21, ik_22, ik_23, ik_24, ik_25, ik_26, ik_27, ik_28, ik_29, ik_30, ik_31, ik_32, ik_33, ik_34, ik_35, ik_36, ik_127, ik_128, ik_200, ik_201, ik_255, ik_256, ik_272, ik_289, ik_400, ik_512] at *) <;> omega)).symm | exact (zb_f (by (try simp only [i_lt, i_le, i_eq, i_0, ik_0, ik_1, ik_2, ik_3, ik_4, ik_5, ik_6, ik_7, ik_8, ik_9, ik_10, ik_11, ik_12, ik_13, ik_14, ik_15, ik_16, ik_17, ik_18, ik_19, ik_20, ik_21, ik_22, ik_23, ik_24, ik_25, ik_26, ik_27, ik_28, ik_29, ik_30, ik_31, ik_32, ik_33, ik_34, ik_35, ik_36, ik_127, ik_128, ik_200, ik_201, ik_255, ik_256, ik_272, ik_289, ik_400, ik_512] at *) <;> omega)).symm
def spn (a b : Nat) : Int32 := (nI 1 <<< (nI b &&& 31)) - (nI 1 <<< (nI a &&& 31))
theorem spn_bt0 : ∀ a, a < 18 → ∀ b, b < 18 → a ≤ b → ∀ i, i < 32 → bt (spn a b) i = decide (a ≤ i ∧ i < b) := by decide +kernel
theorem spn_bt {a b i : Nat} (hb : b < 18) (hab : a ≤ b) (hi : i < 32) : bt (spn a b) i = decide (a ≤ i ∧ i < b) := spn_bt0 a (by omega) b hb hab i hi
theorem c145 {a b : Nat} : mm_R S d 145 0 (mm_en 145 [.int (nI a), .int (nI b)]) [] M (fun v M' => v = some (.int (spn a b)) ∧ M' = M) := by
  show mm_R S d 145 0 [some (.int (nI a)), some (.int (nI b))] [] M _
  refine R_iconst (q := 1) (v := nI 1) rfl rfl (by decide) ?_
  refine R_iload_n (q := 2) rfl rfl rfl ?_
  refine R_ishl (q := 3) rfl rfl ?_
  refine R_iconst (q := 4) (v := nI 1) rfl rfl (by decide) ?_
  refine R_iload_n (q := 5) rfl rfl rfl ?_
  refine R_ishl (q := 6) rfl rfl ?_
  refine R_isub (q := 7) rfl rfl ?_
  refine R_ireturn rfl rfl ?_
  exact ⟨rfl, rfl⟩
/-- where a row of bits that are set ends -/
def re (g : Nat → Bool) : Nat → Nat → Nat
  | 0, s => s
  | n + 1, s => if g s = true then re g n (s + 1) else s
theorem c144_loop {x y : Int32} : ∀ (n s : Nat), s + n = 16 → mm_R S (d + 1) 144 2 [some (.int x), some (.int y), some (.int (nI s))] [] M (fun v M' => v = some (.int (nI (re (bt x) n s))) ∧ M' = M) := by
  intro n
  induction n with
  | zero =>
    intro s hs
    refine R_iload_n (q := 3) rfl rfl rfl ?_
    refine R_bipush (q := 5) (v := nI 16) rfl rfl (by decide) ?_
    refine R_icmp_ge (q := 8) (t := 22) rfl rfl rfl (fun h5 => ?_) (fun h5 => absurd (nI_le (by omega) (by omega)) h5)
    refine R_iload_n (q := 23) rfl rfl rfl ?_
    refine R_ireturn rfl rfl ?_
    exact ⟨rfl, rfl⟩
  | succ n ih =>
    intro s hs
    refine R_iload_n (q := 3) rfl rfl rfl ?_
    refine R_bipush (q := 5) (v := nI 16) rfl rfl (by decide) ?_
    refine R_icmp_ge (q := 8) (t := 22) rfl rfl rfl (fun h5 => absurd h5 (nI_ge (by omega) (by decide))) (fun h5 => ?_)
    refine R_iload_n (q := 9) rfl rfl rfl ?_
    refine R_iload_n (q := 10) rfl rfl rfl ?_
    refine R_calls2 (q := 13) rfl rfl rfl rfl (Nat.le_of_ble_eq_true rfl) rfl ?_
    refine R_mono (c142 (by omega)) (fun v10 M10 hr10 => ?_)
    obtain ⟨rfl, hm10⟩ := hr10
    rw [hm10]
    dsimp only [Option.toList, List.cons_append, List.nil_append]
    refine R_if_eq (q := 16) (t := 22) rfl rfl rfl (fun h13 => ?_) (fun h13 => ?_)
    · refine R_iload_n (q := 23) rfl rfl rfl ?_
      refine R_ireturn rfl rfl ?_
      refine ⟨?_, rfl⟩
      have e : re (bt x) (n + 1) s = s := by
        show (if bt x s = true then re (bt x) n (s + 1) else s) = _
        rw [if_neg (by rw [zb_eq0.mp h13]; decide)]
      rw [e]
    · refine R_iinc (q := 19) rfl rfl rfl (nI_i1 s) rfl ?_
      dsimp only [List.set]
      refine R_goto (t := 2) rfl rfl ?_
      have e : re (bt x) (n + 1) s = re (bt x) n (s + 1) := by
        show (if bt x s = true then re (bt x) n (s + 1) else s) = _
        rw [if_pos (zb_ne0.mp h13)]
      rw [e]
      exact ih (s + 1) (by omega)
theorem c144 {x : Int32} {s : Nat} (hs : s ≤ 16) : mm_R S (d + 1) 144 0 (mm_en 144 [.int x, .int (nI s)]) [] M (fun v M' => v = some (.int (nI (re (bt x) (16 - s) s))) ∧ M' = M) := by
  show mm_R S (d + 1) 144 0 [some (.int x), some (.int (nI s)), none] [] M _
  refine R_iload_n (q := 1) rfl rfl rfl ?_
  refine R_istore_n (q := 2) rfl rfl (Nat.le_of_ble_eq_true rfl) rfl ?_
  dsimp only [List.set]
  exact c144_loop (16 - s) s (by omega)
end P14
end
section
/-! ===== MaskDesk$Cells: an object at a, its rows at a + 1 ===== -/
abbrev ro (g : Nat → Int32) : mm_E := .inl (0, 16, .inl g)
def CA (M : mm_M) (a : Nat) (f : Nat → Int32) : Prop := M.1 a = some (.inr (0, [.ref (a + 1)])) ∧ M.1 (a + 1) = some (ro f)
theorem CA_ne {M : mm_M} {a b : Nat} {f g : Nat → Int32} (ha : CA M a f) (hb : CA M b g) : a + 1 ≠ b := by
  intro h
  subst h
  have := ha.2.symm.trans hb.1
  cases this
theorem CA_fun {M : mm_M} {a : Nat} {f g : Nat → Int32} (ha : CA M a f) (hb : CA M a g) : f = g := by
  have := ha.2.symm.trans hb.2
  simpa using this
theorem CA_put {M : mm_M} {a : Nat} {f g : Nat → Int32} (ha : CA M a f) : CA (mm_put M (a + 1) (ro g)) a g := ⟨by rw [mm_pn (by omega)]; exact ha.1, mm_pe⟩
theorem CA_other {M : mm_M} {a b : Nat} {f g h : Nat → Int32} (ha : CA M a f) (hb : CA M b g) (hab : b ≠ a) : CA (mm_put M (a + 1) (ro h)) b g := ⟨by rw [mm_pn (fun q => CA_ne ha hb q.symm)]; exact hb.1, by rw [mm_pn (by omega)]; exact hb.2⟩
theorem CA_off {M : mm_M} {a b : Nat} {f : Nat → Int32} {c : mm_E} (ha : CA M a f) (h1 : b ≠ a) (h2 : b ≠ a + 1) : CA (mm_put M b c) a f := ⟨by rw [mm_pn (fun q => h1 q.symm)]; exact ha.1, by rw [mm_pn (fun q => h2 q.symm)]; exact ha.2⟩
/-- in a loop over the rows of a, the rows of b: as they are, or, if b is a, as they are from j on -/
theorem CA_loop {M : mm_M} {a b j : Nat} {f g n : Nat → Int32} (ha : CA M a f) (hb : CA M b g) : ∃ G, CA (mm_put M (a + 1) (ro (ifl n f j))) b G ∧ G j = g j := by
  by_cases h : b = a
  · subst h
    have := CA_fun ha hb
    subst this
    exact ⟨_, CA_put ha, ifl_ge (Nat.le_refl j)⟩
  · exact ⟨g, CA_other ha hb h, rfl⟩
def ifr (n f : Nat → Int32) (lo hi : Nat) : Nat → Int32 := fun i => if lo ≤ i ∧ i < hi then n i else f i
theorem ifr_0 {n f : Nat → Int32} {lo : Nat} : ifr n f lo lo = f := by funext i; exact if_neg (by omega)
theorem ifr_ge {n f : Nat → Int32} {i lo : Nat} : ifr n f lo i i = f i := if_neg (by omega)
theorem ifr_s {n f : Nat → Int32} {lo j : Nat} (h : lo ≤ j) : upd (ifr n f lo j) j (n j) = ifr n f lo (j + 1) := by
  funext i
  unfold upd ifr
  by_cases h1 : i = j
  · subst h1
    rw [if_pos rfl, if_pos ⟨h, by omega⟩]
  · rw [if_neg h1]
    by_cases h2 : lo ≤ i ∧ i < j
    · rw [if_pos h2, if_pos ⟨h2.1, by omega⟩]
    · rw [if_neg h2, if_neg (by omega)]
section P15
variable {S : mm_S} {d : Nat} {M : mm_M} {a b : Nat} {f g : Nat → Int32}
def rowv (f : Nat → Int32) (y : Int32) : Int32 := if 0 ≤ y.toInt ∧ y.toInt < 16 then f y.toNatClampNeg else nI 0
theorem c2 {y : Int32} (ha : CA M a f) : mm_R S d 2 0 (mm_en 2 [.ref a, .int y]) [] M (fun v M' => v = some (.int (rowv f y)) ∧ M' = M) := by
  obtain ⟨ha1, ha2⟩ := ha
  unfold rowv
  show mm_R S d 2 0 [some (.ref a), some (.int y)] [] M _
  refine R_iload_n (q := 1) rfl rfl rfl ?_
  refine R_if_lt (q := 4) (t := 19) rfl rfl rfl (fun h1 => ?_) (fun h1 => ?_)
  · refine R_iconst (q := 20) (v := nI 0) rfl rfl (by decide) ?_
    refine R_ireturn rfl rfl ?_
    refine ⟨congrArg some (congrArg Value.int ?_), rfl⟩
    first | exact (if_pos (by (try simp only [i_lt, i_le, i_eq, i_0, ik_0, ik_1, ik_2, ik_3, ik_4, ik_5, ik_6, ik_7, ik_8, ik_9, ik_10, ik_11, ik_12, ik_13, ik_14, ik_15, ik_16, ik_17, ik_18, ik_19, ik_20, ik_21, ik_22, ik_23, ik_24, ik_25, ik_26, ik_27, ik_28, ik_29, ik_30, ik_31, ik_32, ik_33, ik_34, ik_35, ik_36, ik_127, ik_128, ik_200, ik_201, ik_255, ik_256, ik_272, ik_289, ik_400, ik_512] at *) <;> omega)).symm | exact (if_neg (by (try simp only [i_lt, i_le, i_eq, i_0, ik_0, ik_1, ik_2, ik_3, ik_4, ik_5, ik_6, ik_7, ik_8, ik_9, ik_10, ik_11, ik_12, ik_13, ik_14, ik_15, ik_16, ik_17, ik_18, ik_19, ik_20, ik_21, ik_22, ik_23, ik_24, ik_25, ik_26, ik_27, ik_28, ik_29, ik_30, ik_31, ik_32, ik_33, ik_34, ik_35, ik_36, ik_127, ik_128, ik_200, ik_201, ik_255, ik_256, ik_272, ik_289, ik_400, ik_512] at *) <;> omega)).symm
  · refine R_iload_n (q := 5) rfl rfl rfl ?_
    refine R_bipush (q := 7) (v := nI 16) rfl rfl (by decide) ?_
    refine R_icmp_ge (q := 10) (t := 19) rfl rfl rfl (fun h7 => ?_) (fun h7 => ?_)
    · refine R_iconst (q := 20) (v := nI 0) rfl rfl (by decide) ?_
      refine R_ireturn rfl rfl ?_
      refine ⟨congrArg some (congrArg Value.int ?_), rfl⟩
      first | exact (if_pos (by (try simp only [i_lt, i_le, i_eq, i_0, ik_0, ik_1, ik_2, ik_3, ik_4, ik_5, ik_6, ik_7, ik_8, ik_9, ik_10, ik_11, ik_12, ik_13, ik_14, ik_15, ik_16, ik_17, ik_18, ik_19, ik_20, ik_21, ik_22, ik_23, ik_24, ik_25, ik_26, ik_27, ik_28, ik_29, ik_30, ik_31, ik_32, ik_33, ik_34, ik_35, ik_36, ik_127, ik_128, ik_200, ik_201, ik_255, ik_256, ik_272, ik_289, ik_400, ik_512] at *) <;> omega)).symm | exact (if_neg (by (try simp only [i_lt, i_le, i_eq, i_0, ik_0, ik_1, ik_2, ik_3, ik_4, ik_5, ik_6, ik_7, ik_8, ik_9, ik_10, ik_11, ik_12, ik_13, ik_14, ik_15, ik_16, ik_17, ik_18, ik_19, ik_20, ik_21, ik_22, ik_23, ik_24, ik_25, ik_26, ik_27, ik_28, ik_29, ik_30, ik_31, ik_32, ik_33, ik_34, ik_35, ik_36, ik_127, ik_128, ik_200, ik_201, ik_255, ik_256, ik_272, ik_289, ik_400, ik_512] at *) <;> omega)).symm
    · refine R_aload_n (q := 11) rfl rfl rfl ?_
      refine R_getf (q := 14) rfl rfl rfl (by assumption) rfl ?_
      refine R_iload_n (q := 15) rfl rfl rfl ?_
      refine R_iaload (q := 16) rfl rfl (by assumption) (by omega) (vp_in_iff.mpr (by (try simp only [i_lt, i_le, i_eq, i_0, ik_0, ik_1, ik_2, ik_3, ik_4, ik_5, ik_6, ik_7, ik_8, ik_9, ik_10, ik_11, ik_12, ik_13, ik_14, ik_15, ik_16, ik_17, ik_18, ik_19, ik_20, ik_21, ik_22, ik_23, ik_24, ik_25, ik_26, ik_27, ik_28, ik_29, ik_30, ik_31, ik_32, ik_33, ik_34, ik_35, ik_36, ik_127, ik_128, ik_200, ik_201, ik_255, ik_256, ik_272, ik_289, ik_400, ik_512] at *) <;> omega)) ?_
      refine R_goto (t := 20) rfl rfl ?_
      refine R_ireturn rfl rfl ?_
      refine ⟨congrArg some (congrArg Value.int ?_), rfl⟩
      first | exact (if_pos (by (try simp only [i_lt, i_le, i_eq, i_0, ik_0, ik_1, ik_2, ik_3, ik_4, ik_5, ik_6, ik_7, ik_8, ik_9, ik_10, ik_11, ik_12, ik_13, ik_14, ik_15, ik_16, ik_17, ik_18, ik_19, ik_20, ik_21, ik_22, ik_23, ik_24, ik_25, ik_26, ik_27, ik_28, ik_29, ik_30, ik_31, ik_32, ik_33, ik_34, ik_35, ik_36, ik_127, ik_128, ik_200, ik_201, ik_255, ik_256, ik_272, ik_289, ik_400, ik_512] at *) <;> omega)).symm | exact (if_neg (by (try simp only [i_lt, i_le, i_eq, i_0, ik_0, ik_1, ik_2, ik_3, ik_4, ik_5, ik_6, ik_7, ik_8, ik_9, ik_10, ik_11, ik_12, ik_13, ik_14, ik_15, ik_16, ik_17, ik_18, ik_19, ik_20, ik_21, ik_22, ik_23, ik_24, ik_25, ik_26, ik_27, ik_28, ik_29, ik_30, ik_31, ik_32, ik_33, ik_34, ik_35, ik_36, ik_127, ik_128, ik_200, ik_201, ik_255, ik_256, ik_272, ik_289, ik_400, ik_512] at *) <;> omega)).symm
theorem rowv_nI {f : Nat → Int32} {j : Nat} (h : j < 16) : rowv f (nI j) = f j := by
  unfold rowv
  rw [if_pos (by rw [i_n j (by omega)]; omega), cl_nI (by omega)]
theorem rowv_out {f : Nat → Int32} {y : Int32} (h : ¬ (0 ≤ y.toInt ∧ y.toInt < 16)) : rowv f y = nI 0 := if_neg h
theorem c4 {x y : Int32} (ha : CA M a f) : mm_R S (d + 1) 4 0 (mm_en 4 [.ref a, .int x, .int y]) [] M (fun v M' => v = some (.int (zb (decide (0 ≤ x.toInt ∧ x.toInt < 16) && bt (rowv f y) x.toNatClampNeg))) ∧ M' = M) := by
  have ha1 := ha.1
  show mm_R S (d + 1) 4 0 [some (.ref a), some (.int x), some (.int y)] [] M _
  refine R_iload_n (q := 1) rfl rfl rfl ?_
  refine R_if_lt (q := 4) (t := 26) rfl rfl rfl (fun h1 => ?_) (fun h1 => ?_)
  · refine R_iconst (q := 27) (v := nI 0) rfl rfl (by decide) ?_
    refine R_zreturn rfl rfl (by first | exact Or.inl rfl | exact Or.inr rfl | assumption) ?_
    refine ⟨congrArg some (congrArg Value.int ?_), rfl⟩
    first
      | (have hb := zb_eq0.mp h19
         rw [cl_nI (by omega), hb, Bool.and_false]; rfl)
      | (have hb := zb_ne0.mp h19
         rw [cl_nI (by omega), hb, decide_eq_true (by rw [i_n j (by omega)]; omega)]; rfl)
      | (rw [decide_eq_false (by (try simp only [i_lt, i_le, i_eq, i_0, ik_0, ik_1, ik_2, ik_3, ik_4, ik_5, ik_6, ik_7, ik_8, ik_9, ik_10, ik_11, ik_12, ik_13, ik_14, ik_15, ik_16, ik_17, ik_18, ik_19, ik_20, ik_21, ik_22, ik_23, ik_24, ik_25, ik_26, ik_27, ik_28, ik_29, ik_30, ik_31, ik_32, ik_33, ik_34, ik_35, ik_36, ik_127, ik_128, ik_200, ik_201, ik_255, ik_256, ik_272, ik_289, ik_400, ik_512] at *) <;> omega)]; rfl)
  · refine R_iload_n (q := 5) rfl rfl rfl ?_
    refine R_bipush (q := 7) (v := nI 16) rfl rfl (by decide) ?_
    refine R_icmp_ge (q := 10) (t := 26) rfl rfl rfl (fun h7 => ?_) (fun h7 => ?_)
    · refine R_iconst (q := 27) (v := nI 0) rfl rfl (by decide) ?_
      refine R_zreturn rfl rfl (by first | exact Or.inl rfl | exact Or.inr rfl | assumption) ?_
      refine ⟨congrArg some (congrArg Value.int ?_), rfl⟩
      first
        | (have hb := zb_eq0.mp h19
           rw [cl_nI (by omega), hb, Bool.and_false]; rfl)
        | (have hb := zb_ne0.mp h19
           rw [cl_nI (by omega), hb, decide_eq_true (by rw [i_n j (by omega)]; omega)]; rfl)
        | (rw [decide_eq_false (by (try simp only [i_lt, i_le, i_eq, i_0, ik_0, ik_1, ik_2, ik_3, ik_4, ik_5, ik_6, ik_7, ik_8, ik_9, ik_10, ik_11, ik_12, ik_13, ik_14, ik_15, ik_16, ik_17, ik_18, ik_19, ik_20, ik_21, ik_22, ik_23, ik_24, ik_25, ik_26, ik_27, ik_28, ik_29, ik_30, ik_31, ik_32, ik_33, ik_34, ik_35, ik_36, ik_127, ik_128, ik_200, ik_201, ik_255, ik_256, ik_272, ik_289, ik_400, ik_512] at *) <;> omega)]; rfl)
    · refine R_aload_n (q := 11) rfl rfl rfl ?_
      refine R_iload_n (q := 12) rfl rfl rfl ?_
      refine R_callv1 (q := 15) rfl rfl rfl rfl (by assumption) (Nat.le_of_ble_eq_true rfl) rfl ?_
      refine R_mono (c2 ha) (fun v12 M12 hr12 => ?_)
      obtain ⟨rfl, hm12⟩ := hr12
      rw [hm12]
      dsimp only [Option.toList, List.cons_append, List.nil_append]
      obtain ⟨j, hj, rfl⟩ : ∃ j : Nat, j < 16 ∧ x = nI j := i_ix 16 (by decide) (by (try simp only [i_lt, i_le, i_eq, i_0, ik_0, ik_1, ik_2, ik_3, ik_4, ik_5, ik_6, ik_7, ik_8, ik_9, ik_10, ik_11, ik_12, ik_13, ik_14, ik_15, ik_16, ik_17, ik_18, ik_19, ik_20, ik_21, ik_22, ik_23, ik_24, ik_25, ik_26, ik_27, ik_28, ik_29, ik_30, ik_31, ik_32, ik_33, ik_34, ik_35, ik_36, ik_127, ik_128, ik_200, ik_201, ik_255, ik_256, ik_272, ik_289, ik_400, ik_512] at *) <;> omega) (by (try simp only [i_lt, i_le, i_eq, i_0, ik_0, ik_1, ik_2, ik_3, ik_4, ik_5, ik_6, ik_7, ik_8, ik_9, ik_10, ik_11, ik_12, ik_13, ik_14, ik_15, ik_16, ik_17, ik_18, ik_19, ik_20, ik_21, ik_22, ik_23, ik_24, ik_25, ik_26, ik_27, ik_28, ik_29, ik_30, ik_31, ik_32, ik_33, ik_34, ik_35, ik_36, ik_127, ik_128, ik_200, ik_201, ik_255, ik_256, ik_272, ik_289, ik_400, ik_512] at *) <;> omega)
      refine R_iload_n (q := 16) rfl rfl rfl ?_
      refine R_calls2 (q := 19) rfl rfl rfl rfl (Nat.le_of_ble_eq_true rfl) rfl ?_
      refine R_mono (c142 (by omega)) (fun v16 M16 hr16 => ?_)
      obtain ⟨rfl, hm16⟩ := hr16
      rw [hm16]
      dsimp only [Option.toList, List.cons_append, List.nil_append]
      refine R_if_eq (q := 22) (t := 26) rfl rfl rfl (fun h19 => ?_) (fun h19 => ?_)
      · refine R_iconst (q := 27) (v := nI 0) rfl rfl (by decide) ?_
        refine R_zreturn rfl rfl (by first | exact Or.inl rfl | exact Or.inr rfl | assumption) ?_
        refine ⟨congrArg some (congrArg Value.int ?_), rfl⟩
        first
          | (have hb := zb_eq0.mp h19
             rw [cl_nI (by omega), hb, Bool.and_false]; rfl)
          | (have hb := zb_ne0.mp h19
             rw [cl_nI (by omega), hb, decide_eq_true (by rw [i_n j (by omega)]; omega)]; rfl)
          | (rw [decide_eq_false (by (try simp only [i_lt, i_le, i_eq, i_0, ik_0, ik_1, ik_2, ik_3, ik_4, ik_5, ik_6, ik_7, ik_8, ik_9, ik_10, ik_11, ik_12, ik_13, ik_14, ik_15, ik_16, ik_17, ik_18, ik_19, ik_20, ik_21, ik_22, ik_23, ik_24, ik_25, ik_26, ik_27, ik_28, ik_29, ik_30, ik_31, ik_32, ik_33, ik_34, ik_35, ik_36, ik_127, ik_128, ik_200, ik_201, ik_255, ik_256, ik_272, ik_289, ik_400, ik_512] at *) <;> omega)]; rfl)
      · refine R_iconst (q := 23) (v := nI 1) rfl rfl (by decide) ?_
        refine R_goto (t := 27) rfl rfl ?_
        refine R_zreturn rfl rfl (by first | exact Or.inl rfl | exact Or.inr rfl | assumption) ?_
        refine ⟨congrArg some (congrArg Value.int ?_), rfl⟩
        first
          | (have hb := zb_eq0.mp h19
             rw [cl_nI (by omega), hb, Bool.and_false]; rfl)
          | (have hb := zb_ne0.mp h19
             rw [cl_nI (by omega), hb, decide_eq_true (by rw [i_n j (by omega)]; omega)]; rfl)
          | (rw [decide_eq_false (by (try simp only [i_lt, i_le, i_eq, i_0, ik_0, ik_1, ik_2, ik_3, ik_4, ik_5, ik_6, ik_7, ik_8, ik_9, ik_10, ik_11, ik_12, ik_13, ik_14, ik_15, ik_16, ik_17, ik_18, ik_19, ik_20, ik_21, ik_22, ik_23, ik_24, ik_25, ik_26, ik_27, ik_28, ik_29, ik_30, ik_31, ik_32, ik_33, ik_34, ik_35, ik_36, ik_127, ik_128, ik_200, ik_201, ik_255, ik_256, ik_272, ik_289, ik_400, ik_512] at *) <;> omega)]; rfl)
theorem c6 {y v : Int32} (ha : CA M a f) : mm_R S d 6 0 (mm_en 6 [.ref a, .int y, .int v]) [] M (fun w M' => w = none ∧ M' = if 0 ≤ y.toInt ∧ y.toInt < 16 then mm_put M (a + 1) (ro (upd f y.toNatClampNeg (v &&& 65535))) else M) := by
  obtain ⟨ha1, ha2⟩ := ha
  show mm_R S d 6 0 [some (.ref a), some (.int y), some (.int v)] [] M _
  refine R_iload_n (q := 1) rfl rfl rfl ?_
  refine R_if_lt (q := 4) (t := 20) rfl rfl rfl (fun h1 => ?_) (fun h1 => ?_)
  · refine R_return rfl rfl ?_
    refine ⟨rfl, ?_⟩
    first | exact (if_pos (by (try simp only [i_lt, i_le, i_eq, i_0, ik_0, ik_1, ik_2, ik_3, ik_4, ik_5, ik_6, ik_7, ik_8, ik_9, ik_10, ik_11, ik_12, ik_13, ik_14, ik_15, ik_16, ik_17, ik_18, ik_19, ik_20, ik_21, ik_22, ik_23, ik_24, ik_25, ik_26, ik_27, ik_28, ik_29, ik_30, ik_31, ik_32, ik_33, ik_34, ik_35, ik_36, ik_127, ik_128, ik_200, ik_201, ik_255, ik_256, ik_272, ik_289, ik_400, ik_512] at *) <;> omega)).symm | exact (if_neg (by (try simp only [i_lt, i_le, i_eq, i_0, ik_0, ik_1, ik_2, ik_3, ik_4, ik_5, ik_6, ik_7, ik_8, ik_9, ik_10, ik_11, ik_12, ik_13, ik_14, ik_15, ik_16, ik_17, ik_18, ik_19, ik_20, ik_21, ik_22, ik_23, ik_24, ik_25, ik_26, ik_27, ik_28, ik_29, ik_30, ik_31, ik_32, ik_33, ik_34, ik_35, ik_36, ik_127, ik_128, ik_200, ik_201, ik_255, ik_256, ik_272, ik_289, ik_400, ik_512] at *) <;> omega)).symm
  · refine R_iload_n (q := 5) rfl rfl rfl ?_
    refine R_bipush (q := 7) (v := nI 16) rfl rfl (by decide) ?_
    refine R_icmp_ge (q := 10) (t := 20) rfl rfl rfl (fun h7 => ?_) (fun h7 => ?_)
    · refine R_return rfl rfl ?_
      refine ⟨rfl, ?_⟩
      first | exact (if_pos (by (try simp only [i_lt, i_le, i_eq, i_0, ik_0, ik_1, ik_2, ik_3, ik_4, ik_5, ik_6, ik_7, ik_8, ik_9, ik_10, ik_11, ik_12, ik_13, ik_14, ik_15, ik_16, ik_17, ik_18, ik_19, ik_20, ik_21, ik_22, ik_23, ik_24, ik_25, ik_26, ik_27, ik_28, ik_29, ik_30, ik_31, ik_32, ik_33, ik_34, ik_35, ik_36, ik_127, ik_128, ik_200, ik_201, ik_255, ik_256, ik_272, ik_289, ik_400, ik_512] at *) <;> omega)).symm | exact (if_neg (by (try simp only [i_lt, i_le, i_eq, i_0, ik_0, ik_1, ik_2, ik_3, ik_4, ik_5, ik_6, ik_7, ik_8, ik_9, ik_10, ik_11, ik_12, ik_13, ik_14, ik_15, ik_16, ik_17, ik_18, ik_19, ik_20, ik_21, ik_22, ik_23, ik_24, ik_25, ik_26, ik_27, ik_28, ik_29, ik_30, ik_31, ik_32, ik_33, ik_34, ik_35, ik_36, ik_127, ik_128, ik_200, ik_201, ik_255, ik_256, ik_272, ik_289, ik_400, ik_512] at *) <;> omega)).symm
    · refine R_aload_n (q := 11) rfl rfl rfl ?_
      refine R_getf (q := 14) rfl rfl rfl (by assumption) rfl ?_
      refine R_iload_n (q := 15) rfl rfl rfl ?_
      refine R_iload_n (q := 16) rfl rfl rfl ?_
      refine R_ldc (q := 18) (v := 65535) rfl rfl rfl ?_
      refine R_iand (q := 19) rfl rfl ?_
      refine R_iastore (q := 20) rfl rfl (by assumption) (vp_in_iff.mpr (by (try simp only [i_lt, i_le, i_eq, i_0, ik_0, ik_1, ik_2, ik_3, ik_4, ik_5, ik_6, ik_7, ik_8, ik_9, ik_10, ik_11, ik_12, ik_13, ik_14, ik_15, ik_16, ik_17, ik_18, ik_19, ik_20, ik_21, ik_22, ik_23, ik_24, ik_25, ik_26, ik_27, ik_28, ik_29, ik_30, ik_31, ik_32, ik_33, ik_34, ik_35, ik_36, ik_127, ik_128, ik_200, ik_201, ik_255, ik_256, ik_272, ik_289, ik_400, ik_512] at *) <;> omega)) ?_
      refine R_return rfl rfl ?_
      refine ⟨rfl, ?_⟩
      first | exact (if_pos (by (try simp only [i_lt, i_le, i_eq, i_0, ik_0, ik_1, ik_2, ik_3, ik_4, ik_5, ik_6, ik_7, ik_8, ik_9, ik_10, ik_11, ik_12, ik_13, ik_14, ik_15, ik_16, ik_17, ik_18, ik_19, ik_20, ik_21, ik_22, ik_23, ik_24, ik_25, ik_26, ik_27, ik_28, ik_29, ik_30, ik_31, ik_32, ik_33, ik_34, ik_35, ik_36, ik_127, ik_128, ik_200, ik_201, ik_255, ik_256, ik_272, ik_289, ik_400, ik_512] at *) <;> omega)).symm | exact (if_neg (by (try simp only [i_lt, i_le, i_eq, i_0, ik_0, ik_1, ik_2, ik_3, ik_4, ik_5, ik_6, ik_7, ik_8, ik_9, ik_10, ik_11, ik_12, ik_13, ik_14, ik_15, ik_16, ik_17, ik_18, ik_19, ik_20, ik_21, ik_22, ik_23, ik_24, ik_25, ik_26, ik_27, ik_28, ik_29, ik_30, ik_31, ik_32, ik_33, ik_34, ik_35, ik_36, ik_127, ik_128, ik_200, ik_201, ik_255, ik_256, ik_272, ik_289, ik_400, ik_512] at *) <;> omega)).symm
theorem c7  (ha : CA M a f) : mm_R S d 7 0 (mm_en 7 [.ref a]) [] M (fun v M' => v = none ∧ M' = mm_put M (a + 1) (ro (ifl (fun i => nI 0) f 16))) := by
  show mm_R S d 7 0 [some (.ref a), none] [] M _
  refine R_iconst (q := 1) (v := nI 0) rfl rfl (by decide) ?_
  refine R_istore_n (q := 2) rfl rfl (Nat.le_of_ble_eq_true rfl) rfl ?_
  dsimp only [List.set]
  refine R_atM (M' := mm_put M (a + 1) (ro (ifl (fun i => nI 0) f 0))) (by rw [ifl_0]; exact mm_pself ha.2) ?_
  refine lpN (fun j => mm_R S d 7 2 [some (.ref a), some (.int (nI j))] [] (mm_put M (a + 1) (ro (ifl (fun i => nI 0) f j))) (fun v M' => v = none ∧ M' = mm_put M (a + 1) (ro (ifl (fun i => nI 0) f 16)))) 16 (fun j hj ih => ?_) ?_ 0 (Nat.zero_le _)
  · have hj1 : (mm_put M (a + 1) (ro (ifl (fun i => nI 0) f j))).1 a = some (.inr (0, [.ref (a + 1)])) := (CA_put ha).1
    have hj2 : (mm_put M (a + 1) (ro (ifl (fun i => nI 0) f j))).1 (a + 1) = some (ro (ifl (fun i => nI 0) f j)) := mm_pe
    have hji := in_nI hj (by decide)
    refine R_iload_n (q := 3) rfl rfl rfl ?_
    refine R_bipush (q := 5) (v := nI 16) rfl rfl (by decide) ?_
    refine R_icmp_ge (q := 8) (t := 21) rfl rfl rfl (fun h5 => absurd h5 (nI_ge hj (by decide))) (fun h5 => ?_)
    refine R_aload_n (q := 9) rfl rfl rfl ?_
    refine R_getf (q := 12) rfl rfl rfl (by assumption) rfl ?_
    refine R_iload_n (q := 13) rfl rfl rfl ?_
    refine R_iconst (q := 14) (v := nI 0) rfl rfl (by decide) ?_
    refine R_iastore (q := 15) rfl rfl (by assumption) (by assumption) ?_
    refine R_iinc (q := 18) rfl rfl rfl (nI_i1 j) rfl ?_
    dsimp only [List.set]
    refine R_goto (t := 2) rfl rfl ?_
    refine R_atM ?_ ih
    rw [mm_pp, cl_nI (by omega)]
    try rw [ifl_ge (Nat.le_refl j)]
    exact (congrArg (fun z => mm_put M (a + 1) (ro z)) (ifl_s (n := (fun i => nI 0)))).symm
  · refine R_iload_n (q := 3) rfl rfl rfl ?_
    refine R_bipush (q := 5) (v := nI 16) rfl rfl (by decide) ?_
    refine R_icmp_ge (q := 8) (t := 21) rfl rfl rfl (fun h5 => ?_) (fun h5 => absurd (nI_le (Nat.le_refl _) (by decide)) h5)
    refine R_return rfl rfl ?_
    exact ⟨rfl, rfl⟩
theorem c8  (ha : CA M a f) (hb : CA M b g) : mm_R S d 8 0 (mm_en 8 [.ref a, .ref b]) [] M (fun v M' => v = none ∧ M' = mm_put M (a + 1) (ro (ifl (fun i => g i) f 16))) := by
  show mm_R S d 8 0 [some (.ref a), some (.ref b), none] [] M _
  refine R_iconst (q := 1) (v := nI 0) rfl rfl (by decide) ?_
  refine R_istore_n (q := 2) rfl rfl (Nat.le_of_ble_eq_true rfl) rfl ?_
  dsimp only [List.set]
  refine R_atM (M' := mm_put M (a + 1) (ro (ifl (fun i => g i) f 0))) (by rw [ifl_0]; exact mm_pself ha.2) ?_
  refine lpN (fun j => mm_R S d 8 2 [some (.ref a), some (.ref b), some (.int (nI j))] [] (mm_put M (a + 1) (ro (ifl (fun i => g i) f j))) (fun v M' => v = none ∧ M' = mm_put M (a + 1) (ro (ifl (fun i => g i) f 16)))) 16 (fun j hj ih => ?_) ?_ 0 (Nat.zero_le _)
  · have hj1 : (mm_put M (a + 1) (ro (ifl (fun i => g i) f j))).1 a = some (.inr (0, [.ref (a + 1)])) := (CA_put ha).1
    have hj2 : (mm_put M (a + 1) (ro (ifl (fun i => g i) f j))).1 (a + 1) = some (ro (ifl (fun i => g i) f j)) := mm_pe
    have hji := in_nI hj (by decide)
    obtain ⟨G, ⟨hg1, hg2⟩, hGj⟩ := CA_loop (n := (fun i => g i)) (j := j) ha hb
    refine R_iload_n (q := 3) rfl rfl rfl ?_
    refine R_bipush (q := 5) (v := nI 16) rfl rfl (by decide) ?_
    refine R_icmp_ge (q := 8) (t := 26) rfl rfl rfl (fun h5 => absurd h5 (nI_ge hj (by decide))) (fun h5 => ?_)
    refine R_aload_n (q := 9) rfl rfl rfl ?_
    refine R_getf (q := 12) rfl rfl rfl (by assumption) rfl ?_
    refine R_iload_n (q := 13) rfl rfl rfl ?_
    refine R_aload_n (q := 14) rfl rfl rfl ?_
    refine R_getf (q := 17) rfl rfl rfl (by assumption) rfl ?_
    refine R_iload_n (q := 18) rfl rfl rfl ?_
    refine R_iaload (q := 19) rfl rfl (by assumption) (by omega) (by assumption) ?_
    refine R_iastore (q := 20) rfl rfl (by assumption) (by assumption) ?_
    refine R_iinc (q := 23) rfl rfl rfl (nI_i1 j) rfl ?_
    dsimp only [List.set]
    refine R_goto (t := 2) rfl rfl ?_
    refine R_atM ?_ ih
    rw [mm_pp, cl_nI (by omega)]
    rw [hGj]
    try rw [ifl_ge (Nat.le_refl j)]
    exact (congrArg (fun z => mm_put M (a + 1) (ro z)) (ifl_s (n := (fun i => g i)))).symm
  · refine R_iload_n (q := 3) rfl rfl rfl ?_
    refine R_bipush (q := 5) (v := nI 16) rfl rfl (by decide) ?_
    refine R_icmp_ge (q := 8) (t := 26) rfl rfl rfl (fun h5 => ?_) (fun h5 => absurd (nI_le (Nat.le_refl _) (by decide)) h5)
    refine R_return rfl rfl ?_
    exact ⟨rfl, rfl⟩
theorem c9  (ha : CA M a f) (hb : CA M b g) : mm_R S d 9 0 (mm_en 9 [.ref a, .ref b]) [] M (fun v M' => v = none ∧ M' = mm_put M (a + 1) (ro (ifl (fun i => 65535 &&& (g i ^^^ (-1))) f 16))) := by
  show mm_R S d 9 0 [some (.ref a), some (.ref b), none] [] M _
  refine R_iconst (q := 1) (v := nI 0) rfl rfl (by decide) ?_
  refine R_istore_n (q := 2) rfl rfl (Nat.le_of_ble_eq_true rfl) rfl ?_
  dsimp only [List.set]
  refine R_atM (M' := mm_put M (a + 1) (ro (ifl (fun i => 65535 &&& (g i ^^^ (-1))) f 0))) (by rw [ifl_0]; exact mm_pself ha.2) ?_
  refine lpN (fun j => mm_R S d 9 2 [some (.ref a), some (.ref b), some (.int (nI j))] [] (mm_put M (a + 1) (ro (ifl (fun i => 65535 &&& (g i ^^^ (-1))) f j))) (fun v M' => v = none ∧ M' = mm_put M (a + 1) (ro (ifl (fun i => 65535 &&& (g i ^^^ (-1))) f 16)))) 16 (fun j hj ih => ?_) ?_ 0 (Nat.zero_le _)
  · have hj1 : (mm_put M (a + 1) (ro (ifl (fun i => 65535 &&& (g i ^^^ (-1))) f j))).1 a = some (.inr (0, [.ref (a + 1)])) := (CA_put ha).1
    have hj2 : (mm_put M (a + 1) (ro (ifl (fun i => 65535 &&& (g i ^^^ (-1))) f j))).1 (a + 1) = some (ro (ifl (fun i => 65535 &&& (g i ^^^ (-1))) f j)) := mm_pe
    have hji := in_nI hj (by decide)
    obtain ⟨G, ⟨hg1, hg2⟩, hGj⟩ := CA_loop (n := (fun i => 65535 &&& (g i ^^^ (-1)))) (j := j) ha hb
    refine R_iload_n (q := 3) rfl rfl rfl ?_
    refine R_bipush (q := 5) (v := nI 16) rfl rfl (by decide) ?_
    refine R_icmp_ge (q := 8) (t := 31) rfl rfl rfl (fun h5 => absurd h5 (nI_ge hj (by decide))) (fun h5 => ?_)
    refine R_aload_n (q := 9) rfl rfl rfl ?_
    refine R_getf (q := 12) rfl rfl rfl (by assumption) rfl ?_
    refine R_iload_n (q := 13) rfl rfl rfl ?_
    refine R_ldc (q := 15) (v := 65535) rfl rfl rfl ?_
    refine R_aload_n (q := 16) rfl rfl rfl ?_
    refine R_getf (q := 19) rfl rfl rfl (by assumption) rfl ?_
    refine R_iload_n (q := 20) rfl rfl rfl ?_
    refine R_iaload (q := 21) rfl rfl (by assumption) (by omega) (by assumption) ?_
    refine R_iconst (q := 22) (v := (-1)) rfl rfl (by decide) ?_
    refine R_ixor (q := 23) rfl rfl ?_
    refine R_iand (q := 24) rfl rfl ?_
    refine R_iastore (q := 25) rfl rfl (by assumption) (by assumption) ?_
    refine R_iinc (q := 28) rfl rfl rfl (nI_i1 j) rfl ?_
    dsimp only [List.set]
    refine R_goto (t := 2) rfl rfl ?_
    refine R_atM ?_ ih
    rw [mm_pp, cl_nI (by omega)]
    rw [hGj]
    try rw [ifl_ge (Nat.le_refl j)]
    exact (congrArg (fun z => mm_put M (a + 1) (ro z)) (ifl_s (n := (fun i => 65535 &&& (g i ^^^ (-1)))))).symm
  · refine R_iload_n (q := 3) rfl rfl rfl ?_
    refine R_bipush (q := 5) (v := nI 16) rfl rfl (by decide) ?_
    refine R_icmp_ge (q := 8) (t := 31) rfl rfl rfl (fun h5 => ?_) (fun h5 => absurd (nI_le (Nat.le_refl _) (by decide)) h5)
    refine R_return rfl rfl ?_
    exact ⟨rfl, rfl⟩
theorem c10  (ha : CA M a f) (hb : CA M b g) : mm_R S d 10 0 (mm_en 10 [.ref a, .ref b]) [] M (fun v M' => v = none ∧ M' = mm_put M (a + 1) (ro (ifl (fun i => f i ||| g i) f 16))) := by
  show mm_R S d 10 0 [some (.ref a), some (.ref b), none] [] M _
  refine R_iconst (q := 1) (v := nI 0) rfl rfl (by decide) ?_
  refine R_istore_n (q := 2) rfl rfl (Nat.le_of_ble_eq_true rfl) rfl ?_
  dsimp only [List.set]
  refine R_atM (M' := mm_put M (a + 1) (ro (ifl (fun i => f i ||| g i) f 0))) (by rw [ifl_0]; exact mm_pself ha.2) ?_
  refine lpN (fun j => mm_R S d 10 2 [some (.ref a), some (.ref b), some (.int (nI j))] [] (mm_put M (a + 1) (ro (ifl (fun i => f i ||| g i) f j))) (fun v M' => v = none ∧ M' = mm_put M (a + 1) (ro (ifl (fun i => f i ||| g i) f 16)))) 16 (fun j hj ih => ?_) ?_ 0 (Nat.zero_le _)
  · have hj1 : (mm_put M (a + 1) (ro (ifl (fun i => f i ||| g i) f j))).1 a = some (.inr (0, [.ref (a + 1)])) := (CA_put ha).1
    have hj2 : (mm_put M (a + 1) (ro (ifl (fun i => f i ||| g i) f j))).1 (a + 1) = some (ro (ifl (fun i => f i ||| g i) f j)) := mm_pe
    have hji := in_nI hj (by decide)
    obtain ⟨G, ⟨hg1, hg2⟩, hGj⟩ := CA_loop (n := (fun i => f i ||| g i)) (j := j) ha hb
    refine R_iload_n (q := 3) rfl rfl rfl ?_
    refine R_bipush (q := 5) (v := nI 16) rfl rfl (by decide) ?_
    refine R_icmp_ge (q := 8) (t := 29) rfl rfl rfl (fun h5 => absurd h5 (nI_ge hj (by decide))) (fun h5 => ?_)
    refine R_aload_n (q := 9) rfl rfl rfl ?_
    refine R_getf (q := 12) rfl rfl rfl (by assumption) rfl ?_
    refine R_iload_n (q := 13) rfl rfl rfl ?_
    refine R_dup2 (q := 14) rfl rfl ?_
    refine R_iaload (q := 15) rfl rfl (by assumption) (by omega) (by assumption) ?_
    refine R_aload_n (q := 16) rfl rfl rfl ?_
    refine R_getf (q := 19) rfl rfl rfl (by assumption) rfl ?_
    refine R_iload_n (q := 20) rfl rfl rfl ?_
    refine R_iaload (q := 21) rfl rfl (by assumption) (by omega) (by assumption) ?_
    refine R_ior (q := 22) rfl rfl ?_
    refine R_iastore (q := 23) rfl rfl (by assumption) (by assumption) ?_
    refine R_iinc (q := 26) rfl rfl rfl (nI_i1 j) rfl ?_
    dsimp only [List.set]
    refine R_goto (t := 2) rfl rfl ?_
    refine R_atM ?_ ih
    rw [mm_pp, cl_nI (by omega)]
    rw [hGj]
    try rw [ifl_ge (Nat.le_refl j)]
    exact (congrArg (fun z => mm_put M (a + 1) (ro z)) (ifl_s (n := (fun i => f i ||| g i)))).symm
  · refine R_iload_n (q := 3) rfl rfl rfl ?_
    refine R_bipush (q := 5) (v := nI 16) rfl rfl (by decide) ?_
    refine R_icmp_ge (q := 8) (t := 29) rfl rfl rfl (fun h5 => ?_) (fun h5 => absurd (nI_le (Nat.le_refl _) (by decide)) h5)
    refine R_return rfl rfl ?_
    exact ⟨rfl, rfl⟩
theorem c11  (ha : CA M a f) (hb : CA M b g) : mm_R S d 11 0 (mm_en 11 [.ref a, .ref b]) [] M (fun v M' => v = none ∧ M' = mm_put M (a + 1) (ro (ifl (fun i => f i &&& (g i ^^^ (-1))) f 16))) := by
  show mm_R S d 11 0 [some (.ref a), some (.ref b), none] [] M _
  refine R_iconst (q := 1) (v := nI 0) rfl rfl (by decide) ?_
  refine R_istore_n (q := 2) rfl rfl (Nat.le_of_ble_eq_true rfl) rfl ?_
  dsimp only [List.set]
  refine R_atM (M' := mm_put M (a + 1) (ro (ifl (fun i => f i &&& (g i ^^^ (-1))) f 0))) (by rw [ifl_0]; exact mm_pself ha.2) ?_
  refine lpN (fun j => mm_R S d 11 2 [some (.ref a), some (.ref b), some (.int (nI j))] [] (mm_put M (a + 1) (ro (ifl (fun i => f i &&& (g i ^^^ (-1))) f j))) (fun v M' => v = none ∧ M' = mm_put M (a + 1) (ro (ifl (fun i => f i &&& (g i ^^^ (-1))) f 16)))) 16 (fun j hj ih => ?_) ?_ 0 (Nat.zero_le _)
  · have hj1 : (mm_put M (a + 1) (ro (ifl (fun i => f i &&& (g i ^^^ (-1))) f j))).1 a = some (.inr (0, [.ref (a + 1)])) := (CA_put ha).1
    have hj2 : (mm_put M (a + 1) (ro (ifl (fun i => f i &&& (g i ^^^ (-1))) f j))).1 (a + 1) = some (ro (ifl (fun i => f i &&& (g i ^^^ (-1))) f j)) := mm_pe
    have hji := in_nI hj (by decide)
    obtain ⟨G, ⟨hg1, hg2⟩, hGj⟩ := CA_loop (n := (fun i => f i &&& (g i ^^^ (-1)))) (j := j) ha hb
    refine R_iload_n (q := 3) rfl rfl rfl ?_
    refine R_bipush (q := 5) (v := nI 16) rfl rfl (by decide) ?_
    refine R_icmp_ge (q := 8) (t := 31) rfl rfl rfl (fun h5 => absurd h5 (nI_ge hj (by decide))) (fun h5 => ?_)
    refine R_aload_n (q := 9) rfl rfl rfl ?_
    refine R_getf (q := 12) rfl rfl rfl (by assumption) rfl ?_
    refine R_iload_n (q := 13) rfl rfl rfl ?_
    refine R_dup2 (q := 14) rfl rfl ?_
    refine R_iaload (q := 15) rfl rfl (by assumption) (by omega) (by assumption) ?_
    refine R_aload_n (q := 16) rfl rfl rfl ?_
    refine R_getf (q := 19) rfl rfl rfl (by assumption) rfl ?_
    refine R_iload_n (q := 20) rfl rfl rfl ?_
    refine R_iaload (q := 21) rfl rfl (by assumption) (by omega) (by assumption) ?_
    refine R_iconst (q := 22) (v := (-1)) rfl rfl (by decide) ?_
    refine R_ixor (q := 23) rfl rfl ?_
    refine R_iand (q := 24) rfl rfl ?_
    refine R_iastore (q := 25) rfl rfl (by assumption) (by assumption) ?_
    refine R_iinc (q := 28) rfl rfl rfl (nI_i1 j) rfl ?_
    dsimp only [List.set]
    refine R_goto (t := 2) rfl rfl ?_
    refine R_atM ?_ ih
    rw [mm_pp, cl_nI (by omega)]
    rw [hGj]
    try rw [ifl_ge (Nat.le_refl j)]
    exact (congrArg (fun z => mm_put M (a + 1) (ro z)) (ifl_s (n := (fun i => f i &&& (g i ^^^ (-1)))))).symm
  · refine R_iload_n (q := 3) rfl rfl rfl ?_
    refine R_bipush (q := 5) (v := nI 16) rfl rfl (by decide) ?_
    refine R_icmp_ge (q := 8) (t := 31) rfl rfl rfl (fun h5 => ?_) (fun h5 => absurd (nI_le (Nat.le_refl _) (by decide)) h5)
    refine R_return rfl rfl ?_
    exact ⟨rfl, rfl⟩
end P15
end
section
theorem lpM (W : Nat → Prop) (lo e : Nat) (hs : ∀ j, lo ≤ j → j < e → W (j + 1) → W j) (he : W e) : ∀ j, lo ≤ j → j ≤ e → W j := by
  intro j h0 hj
  obtain ⟨k, rfl⟩ : ∃ k, e = j + k := ⟨e - j, by omega⟩
  clear hj
  induction k generalizing j with
  | zero => exact he
  | succ k ih => exact hs j h0 (by omega) (ih (j + 1) (by omega) (by rw [show j + 1 + k = j + (k + 1) by omega]; exact hs) (by rw [show j + 1 + k = j + (k + 1) by omega]; exact he))
section P16
variable {S : mm_S} {d : Nat} {M : mm_M} {a b : Nat} {f g : Nat → Int32}
/-- the column x as bits, so far -/
def colv (f : Nat → Int32) (x : Nat) : Nat → Int32
  | 0 => nI 0
  | j + 1 => colv f x j ||| (((f j >>> (nI x &&& 31)) &&& nI 1) <<< (nI j &&& 31))
theorem c3 {x : Nat} (ha : CA M a f) : mm_R S d 3 0 (mm_en 3 [.ref a, .int (nI x)]) [] M (fun v M' => v = some (.int (colv f x 16)) ∧ M' = M) := by
  obtain ⟨ha1, ha2⟩ := ha
  show mm_R S d 3 0 [some (.ref a), some (.int (nI x)), none, none] [] M _
  refine R_iconst (q := 1) (v := nI 0) rfl rfl (by decide) ?_
  refine R_istore_n (q := 2) rfl rfl (Nat.le_of_ble_eq_true rfl) rfl ?_
  dsimp only [List.set]
  refine R_iconst (q := 3) (v := nI 0) rfl rfl (by decide) ?_
  refine R_istore_n (q := 4) rfl rfl (Nat.le_of_ble_eq_true rfl) rfl ?_
  dsimp only [List.set]
  refine lpN (fun j => mm_R S d 3 4 [some (.ref a), some (.int (nI x)), some (.int (colv f x j)), some (.int (nI j))] [] M (fun v M' => v = some (.int (colv f x 16)) ∧ M' = M)) 16 (fun j hj ih => ?_) ?_ 0 (Nat.zero_le _)
  · have hji := in_nI hj (by decide)
    refine R_iload_n (q := 5) rfl rfl rfl ?_
    refine R_bipush (q := 7) (v := nI 16) rfl rfl (by decide) ?_
    refine R_icmp_ge (q := 10) (t := 31) rfl rfl rfl (fun h7 => absurd h7 (nI_ge hj (by decide))) (fun h7 => ?_)
    refine R_iload_n (q := 11) rfl rfl rfl ?_
    refine R_aload_n (q := 12) rfl rfl rfl ?_
    refine R_getf (q := 15) rfl rfl rfl (by assumption) rfl ?_
    refine R_iload_n (q := 16) rfl rfl rfl ?_
    refine R_iaload (q := 17) rfl rfl (by assumption) (by omega) (by assumption) ?_
    refine R_iload_n (q := 18) rfl rfl rfl ?_
    refine R_ishr (q := 19) rfl rfl ?_
    refine R_iconst (q := 20) (v := nI 1) rfl rfl (by decide) ?_
    refine R_iand (q := 21) rfl rfl ?_
    refine R_iload_n (q := 22) rfl rfl rfl ?_
    refine R_ishl (q := 23) rfl rfl ?_
    refine R_ior (q := 24) rfl rfl ?_
    refine R_istore_n (q := 25) rfl rfl (Nat.le_of_ble_eq_true rfl) rfl ?_
    dsimp only [List.set]
    refine R_iinc (q := 28) rfl rfl rfl (nI_i1 j) rfl ?_
    dsimp only [List.set]
    refine R_goto (t := 4) rfl rfl ?_
    rw [cl_nI (by omega)]
    exact ih
  · refine R_iload_n (q := 5) rfl rfl rfl ?_
    refine R_bipush (q := 7) (v := nI 16) rfl rfl (by decide) ?_
    refine R_icmp_ge (q := 10) (t := 31) rfl rfl rfl (fun h7 => ?_) (fun h7 => absurd (nI_le (Nat.le_refl _) (by decide)) h7)
    refine R_iload_n (q := 32) rfl rfl rfl ?_
    refine R_ireturn rfl rfl ?_
    exact ⟨rfl, rfl⟩
theorem colv_bt {f : Nat → Int32} {x : Nat} (hx : x < 32) : ∀ j, j ≤ 32 → ∀ i, i < 32 → bt (colv f x j) i = (decide (i < j) && bt (f i) x) := by
  intro j
  induction j with
  | zero => intro _ i hi; rw [show colv f x 0 = nI 0 from rfl]; simp [show bt (nI 0) i = false from b_0 i]
  | succ j ih =>
    intro hj i hi
    rw [show colv f x (j + 1) = colv f x j ||| (((f j >>> (nI x &&& 31)) &&& nI 1) <<< (nI j &&& 31)) from rfl, b_or, ih (by omega) i hi, b_shl j (by omega) _ hi]
    by_cases h1 : j ≤ i
    · rw [b_and, b_sshr x hx _ (by omega), bt_1 _ (by omega)]
      by_cases h2 : i = j
      · subst h2
        simp [hx]
      · have h3 : ¬ i - j = 0 := by omega
        have h4 : ¬ i < j := by omega
        have h5 : ¬ i < j + 1 := by omega
        simp [h3, h4, h5]
    · have h4 : i < j := by omega
      have h5 : i < j + 1 := by omega
      simp [h1, h4, h5]
def bcn (x : Int32) : Int32 :=
  let a := x - ((x.toUInt32 >>> ((nI 1).toUInt32 &&& Int32.toUInt32 31)).toInt32 &&& 1431655765)
  let b := (a &&& 858993459) + ((a.toUInt32 >>> ((nI 2).toUInt32 &&& Int32.toUInt32 31)).toInt32 &&& 858993459)
  let c := (b + (b.toUInt32 >>> ((nI 4).toUInt32 &&& Int32.toUInt32 31)).toInt32) &&& 252645135
  let e := c + (c.toUInt32 >>> ((nI 8).toUInt32 &&& Int32.toUInt32 31)).toInt32
  let h := e + (e.toUInt32 >>> ((nI 16).toUInt32 &&& Int32.toUInt32 31)).toInt32
  h &&& nI 63
theorem c201 {x : Int32} : mm_R S d 201 0 (mm_en 201 [.int x]) [] M (fun v M' => v = some (.int (bcn x)) ∧ M' = M) := by
  show mm_R S d 201 0 [some (.int x)] [] M _
  refine R_iload_n (q := 1) rfl rfl rfl ?_
  refine R_iload_n (q := 2) rfl rfl rfl ?_
  refine R_iconst (q := 3) (v := nI 1) rfl rfl (by decide) ?_
  refine R_iushr (q := 4) rfl rfl ?_
  refine R_ldc_w (q := 7) (v := 1431655765) rfl rfl rfl ?_
  refine R_iand (q := 8) rfl rfl ?_
  refine R_isub (q := 9) rfl rfl ?_
  refine R_istore_n (q := 10) rfl rfl (Nat.le_of_ble_eq_true rfl) rfl ?_
  dsimp only [List.set]
  refine R_iload_n (q := 11) rfl rfl rfl ?_
  refine R_ldc_w (q := 14) (v := 858993459) rfl rfl rfl ?_
  refine R_iand (q := 15) rfl rfl ?_
  refine R_iload_n (q := 16) rfl rfl rfl ?_
  refine R_iconst (q := 17) (v := nI 2) rfl rfl (by decide) ?_
  refine R_iushr (q := 18) rfl rfl ?_
  refine R_ldc_w (q := 21) (v := 858993459) rfl rfl rfl ?_
  refine R_iand (q := 22) rfl rfl ?_
  refine R_iadd (q := 23) rfl rfl ?_
  refine R_istore_n (q := 24) rfl rfl (Nat.le_of_ble_eq_true rfl) rfl ?_
  dsimp only [List.set]
  refine R_iload_n (q := 25) rfl rfl rfl ?_
  refine R_iload_n (q := 26) rfl rfl rfl ?_
  refine R_iconst (q := 27) (v := nI 4) rfl rfl (by decide) ?_
  refine R_iushr (q := 28) rfl rfl ?_
  refine R_iadd (q := 29) rfl rfl ?_
  refine R_ldc_w (q := 32) (v := 252645135) rfl rfl rfl ?_
  refine R_iand (q := 33) rfl rfl ?_
  refine R_istore_n (q := 34) rfl rfl (Nat.le_of_ble_eq_true rfl) rfl ?_
  dsimp only [List.set]
  refine R_iload_n (q := 35) rfl rfl rfl ?_
  refine R_iload_n (q := 36) rfl rfl rfl ?_
  refine R_bipush (q := 38) (v := nI 8) rfl rfl (by decide) ?_
  refine R_iushr (q := 39) rfl rfl ?_
  refine R_iadd (q := 40) rfl rfl ?_
  refine R_istore_n (q := 41) rfl rfl (Nat.le_of_ble_eq_true rfl) rfl ?_
  dsimp only [List.set]
  refine R_iload_n (q := 42) rfl rfl rfl ?_
  refine R_iload_n (q := 43) rfl rfl rfl ?_
  refine R_bipush (q := 45) (v := nI 16) rfl rfl (by decide) ?_
  refine R_iushr (q := 46) rfl rfl ?_
  refine R_iadd (q := 47) rfl rfl ?_
  refine R_istore_n (q := 48) rfl rfl (Nat.le_of_ble_eq_true rfl) rfl ?_
  dsimp only [List.set]
  refine R_iload_n (q := 49) rfl rfl rfl ?_
  refine R_bipush (q := 51) (v := nI 63) rfl rfl (by decide) ?_
  refine R_iand (q := 52) rfl rfl ?_
  refine R_ireturn rfl rfl ?_
  exact ⟨rfl, rfl⟩
def cntv (f : Nat → Int32) : Nat → Int32
  | 0 => nI 0
  | j + 1 => cntv f j + bcn (f j)
theorem c5 (ha : CA M a f) : mm_R S (d + 1) 5 0 (mm_en 5 [.ref a]) [] M (fun v M' => v = some (.int (cntv f 16)) ∧ M' = M) := by
  obtain ⟨ha1, ha2⟩ := ha
  show mm_R S (d + 1) 5 0 [some (.ref a), none, none] [] M _
  refine R_iconst (q := 1) (v := nI 0) rfl rfl (by decide) ?_
  refine R_istore_n (q := 2) rfl rfl (Nat.le_of_ble_eq_true rfl) rfl ?_
  dsimp only [List.set]
  refine R_iconst (q := 3) (v := nI 0) rfl rfl (by decide) ?_
  refine R_istore_n (q := 4) rfl rfl (Nat.le_of_ble_eq_true rfl) rfl ?_
  dsimp only [List.set]
  refine lpN (fun j => mm_R S (d + 1) 5 4 [some (.ref a), some (.int (cntv f j)), some (.int (nI j))] [] M (fun v M' => v = some (.int (cntv f 16)) ∧ M' = M)) 16 (fun j hj ih => ?_) ?_ 0 (Nat.zero_le _)
  · have hji := in_nI hj (by decide)
    refine R_iload_n (q := 5) rfl rfl rfl ?_
    refine R_bipush (q := 7) (v := nI 16) rfl rfl (by decide) ?_
    refine R_icmp_ge (q := 10) (t := 28) rfl rfl rfl (fun h7 => absurd h7 (nI_ge hj (by decide))) (fun h7 => ?_)
    refine R_iload_n (q := 11) rfl rfl rfl ?_
    refine R_aload_n (q := 12) rfl rfl rfl ?_
    refine R_getf (q := 15) rfl rfl rfl (by assumption) rfl ?_
    refine R_iload_n (q := 16) rfl rfl rfl ?_
    refine R_iaload (q := 17) rfl rfl (by assumption) (by omega) (by assumption) ?_
    refine R_calls1 (q := 20) rfl rfl rfl rfl (Nat.le_of_ble_eq_true rfl) rfl ?_
    refine R_mono (c201) (fun v17 M17 hr17 => ?_)
    obtain ⟨rfl, hm17⟩ := hr17
    rw [hm17]
    dsimp only [Option.toList, List.cons_append, List.nil_append]
    refine R_iadd (q := 21) rfl rfl ?_
    refine R_istore_n (q := 22) rfl rfl (Nat.le_of_ble_eq_true rfl) rfl ?_
    dsimp only [List.set]
    refine R_iinc (q := 25) rfl rfl rfl (nI_i1 j) rfl ?_
    dsimp only [List.set]
    refine R_goto (t := 4) rfl rfl ?_
    rw [cl_nI (by omega)]
    exact ih
  · refine R_iload_n (q := 5) rfl rfl rfl ?_
    refine R_bipush (q := 7) (v := nI 16) rfl rfl (by decide) ?_
    refine R_icmp_ge (q := 10) (t := 28) rfl rfl rfl (fun h7 => ?_) (fun h7 => absurd (nI_le (Nat.le_refl _) (by decide)) h7)
    refine R_iload_n (q := 29) rfl rfl rfl ?_
    refine R_ireturn rfl rfl ?_
    exact ⟨rfl, rfl⟩
theorem c12 {x y w h : Nat} (hw : 1 ≤ w ∧ x + w ≤ 16) (hh : 1 ≤ h ∧ y + h ≤ 16) (ha : CA M a f) : mm_R S (d + 1) 12 0 (mm_en 12 [.ref a, .int (nI x), .int (nI y), .int (nI w), .int (nI h)]) [] M (fun v M' => v = none ∧ M' = mm_put M (a + 1) (ro (ifr (fun i => f i ||| spn x (x + w)) f y (y + h)))) := by
  have hon : (0 ≤ (nI x).toInt ∧ 1 ≤ (nI w).toInt ∧ (nI x).toInt + (nI w).toInt ≤ 16) ∧ 0 ≤ (nI y).toInt ∧ 1 ≤ (nI h).toInt ∧ (nI y).toInt + (nI h).toInt ≤ 16 := by
    rw [i_n x (by omega), i_n y (by omega), i_n w (by omega), i_n h (by omega)]
    omega
  show mm_R S (d + 1) 12 0 [some (.ref a), some (.int (nI x)), some (.int (nI y)), some (.int (nI w)), some (.int (nI h)), none] [] M _
  refine R_iload_n (q := 1) rfl rfl rfl ?_
  refine R_iload_n (q := 2) rfl rfl rfl ?_
  refine R_iload_n (q := 3) rfl rfl rfl ?_
  refine R_iload (q := 5) rfl rfl rfl ?_
  refine R_calls4 (q := 8) rfl rfl rfl rfl (Nat.le_of_ble_eq_true rfl) rfl ?_
  refine R_mono (c143) (fun v5 M5 hr5 => ?_)
  obtain ⟨rfl, hm5⟩ := hr5
  rw [hm5]
  dsimp only [Option.toList, List.cons_append, List.nil_append]
  rw [zb_t hon]
  refine R_if_eq (q := 11) (t := 46) rfl rfl rfl (fun h8 => absurd h8 (by decide)) (fun h8 => ?_)
  refine R_iload_n (q := 12) rfl rfl rfl ?_
  refine R_istore (q := 14) rfl rfl (Nat.le_of_ble_eq_true rfl) rfl ?_
  dsimp only [List.set]
  refine R_atM (M' := mm_put M (a + 1) (ro (ifr (fun i => f i ||| spn x (x + w)) f y y))) (by rw [ifr_0]; exact mm_pself ha.2) ?_
  refine lpM (fun j => mm_R S (d + 1) 12 14 [some (.ref a), some (.int (nI x)), some (.int (nI y)), some (.int (nI w)), some (.int (nI h)), some (.int (nI j))] [] (mm_put M (a + 1) (ro (ifr (fun i => f i ||| spn x (x + w)) f y j))) (fun v M' => v = none ∧ M' = mm_put M (a + 1) (ro (ifr (fun i => f i ||| spn x (x + w)) f y (y + h))))) y (y + h) (fun j hj0 hj ih => ?_) ?_ y (Nat.le_refl _) (by omega)
  · have hj1 : (mm_put M (a + 1) (ro (ifr (fun i => f i ||| spn x (x + w)) f y j))).1 a = some (.inr (0, [.ref (a + 1)])) := (CA_put ha).1
    have hj2 : (mm_put M (a + 1) (ro (ifr (fun i => f i ||| spn x (x + w)) f y j))).1 (a + 1) = some (ro (ifr (fun i => f i ||| spn x (x + w)) f y j)) := mm_pe
    have hji := in_nI (j := j) (n := 16) (by omega) (by decide)
    refine R_iload (q := 16) rfl rfl rfl ?_
    refine R_iload_n (q := 17) rfl rfl rfl ?_
    refine R_iload (q := 19) rfl rfl rfl ?_
    refine R_iadd (q := 20) rfl rfl ?_
    rw [nI_add]
    refine R_icmp_ge (q := 23) (t := 46) rfl rfl rfl (fun h20 => absurd h20 (nI_ge hj (by omega))) (fun h20 => ?_)
    refine R_aload_n (q := 24) rfl rfl rfl ?_
    refine R_getf (q := 27) rfl rfl rfl (by assumption) rfl ?_
    refine R_iload (q := 29) rfl rfl rfl ?_
    refine R_dup2 (q := 30) rfl rfl ?_
    refine R_iaload (q := 31) rfl rfl (by assumption) (by omega) (by assumption) ?_
    refine R_iload_n (q := 32) rfl rfl rfl ?_
    refine R_iload_n (q := 33) rfl rfl rfl ?_
    refine R_iload_n (q := 34) rfl rfl rfl ?_
    refine R_iadd (q := 35) rfl rfl ?_
    rw [nI_add]
    refine R_calls2 (q := 38) rfl rfl rfl rfl (Nat.le_of_ble_eq_true rfl) rfl ?_
    refine R_mono (c145) (fun v35 M35 hr35 => ?_)
    obtain ⟨rfl, hm35⟩ := hr35
    rw [hm35]
    dsimp only [Option.toList, List.cons_append, List.nil_append]
    refine R_ior (q := 39) rfl rfl ?_
    refine R_iastore (q := 40) rfl rfl (by assumption) (by assumption) ?_
    refine R_iinc (q := 43) rfl rfl rfl (nI_i1 j) rfl ?_
    dsimp only [List.set]
    refine R_goto (t := 14) rfl rfl ?_
    refine R_atM ?_ ih
    rw [mm_pp, cl_nI (by omega), ifr_ge]
    exact (congrArg (fun z => mm_put M (a + 1) (ro z)) (ifr_s (n := (fun i => f i ||| spn x (x + w))) hj0)).symm
  · refine R_iload (q := 16) rfl rfl rfl ?_
    refine R_iload_n (q := 17) rfl rfl rfl ?_
    refine R_iload (q := 19) rfl rfl rfl ?_
    refine R_iadd (q := 20) rfl rfl ?_
    rw [nI_add]
    refine R_icmp_ge (q := 23) (t := 46) rfl rfl rfl (fun h20 => ?_) (fun h20 => absurd (nI_le (Nat.le_refl _) (by omega)) h20)
    refine R_return rfl rfl ?_
    exact ⟨rfl, rfl⟩
theorem c13 {x y w h : Nat} (hw : 1 ≤ w ∧ x + w ≤ 16) (hh : 1 ≤ h ∧ y + h ≤ 16) (ha : CA M a f) : mm_R S (d + 1) 13 0 (mm_en 13 [.ref a, .int (nI x), .int (nI y), .int (nI w), .int (nI h)]) [] M (fun v M' => v = none ∧ M' = mm_put M (a + 1) (ro (ifr (fun i => f i &&& (spn x (x + w) ^^^ (-1))) f y (y + h)))) := by
  have hon : (0 ≤ (nI x).toInt ∧ 1 ≤ (nI w).toInt ∧ (nI x).toInt + (nI w).toInt ≤ 16) ∧ 0 ≤ (nI y).toInt ∧ 1 ≤ (nI h).toInt ∧ (nI y).toInt + (nI h).toInt ≤ 16 := by
    rw [i_n x (by omega), i_n y (by omega), i_n w (by omega), i_n h (by omega)]
    omega
  show mm_R S (d + 1) 13 0 [some (.ref a), some (.int (nI x)), some (.int (nI y)), some (.int (nI w)), some (.int (nI h)), none] [] M _
  refine R_iload_n (q := 1) rfl rfl rfl ?_
  refine R_iload_n (q := 2) rfl rfl rfl ?_
  refine R_iload_n (q := 3) rfl rfl rfl ?_
  refine R_iload (q := 5) rfl rfl rfl ?_
  refine R_calls4 (q := 8) rfl rfl rfl rfl (Nat.le_of_ble_eq_true rfl) rfl ?_
  refine R_mono (c143) (fun v5 M5 hr5 => ?_)
  obtain ⟨rfl, hm5⟩ := hr5
  rw [hm5]
  dsimp only [Option.toList, List.cons_append, List.nil_append]
  rw [zb_t hon]
  refine R_if_eq (q := 11) (t := 48) rfl rfl rfl (fun h8 => absurd h8 (by decide)) (fun h8 => ?_)
  refine R_iload_n (q := 12) rfl rfl rfl ?_
  refine R_istore (q := 14) rfl rfl (Nat.le_of_ble_eq_true rfl) rfl ?_
  dsimp only [List.set]
  refine R_atM (M' := mm_put M (a + 1) (ro (ifr (fun i => f i &&& (spn x (x + w) ^^^ (-1))) f y y))) (by rw [ifr_0]; exact mm_pself ha.2) ?_
  refine lpM (fun j => mm_R S (d + 1) 13 14 [some (.ref a), some (.int (nI x)), some (.int (nI y)), some (.int (nI w)), some (.int (nI h)), some (.int (nI j))] [] (mm_put M (a + 1) (ro (ifr (fun i => f i &&& (spn x (x + w) ^^^ (-1))) f y j))) (fun v M' => v = none ∧ M' = mm_put M (a + 1) (ro (ifr (fun i => f i &&& (spn x (x + w) ^^^ (-1))) f y (y + h))))) y (y + h) (fun j hj0 hj ih => ?_) ?_ y (Nat.le_refl _) (by omega)
  · have hj1 : (mm_put M (a + 1) (ro (ifr (fun i => f i &&& (spn x (x + w) ^^^ (-1))) f y j))).1 a = some (.inr (0, [.ref (a + 1)])) := (CA_put ha).1
    have hj2 : (mm_put M (a + 1) (ro (ifr (fun i => f i &&& (spn x (x + w) ^^^ (-1))) f y j))).1 (a + 1) = some (ro (ifr (fun i => f i &&& (spn x (x + w) ^^^ (-1))) f y j)) := mm_pe
    have hji := in_nI (j := j) (n := 16) (by omega) (by decide)
    refine R_iload (q := 16) rfl rfl rfl ?_
    refine R_iload_n (q := 17) rfl rfl rfl ?_
    refine R_iload (q := 19) rfl rfl rfl ?_
    refine R_iadd (q := 20) rfl rfl ?_
    rw [nI_add]
    refine R_icmp_ge (q := 23) (t := 48) rfl rfl rfl (fun h20 => absurd h20 (nI_ge hj (by omega))) (fun h20 => ?_)
    refine R_aload_n (q := 24) rfl rfl rfl ?_
    refine R_getf (q := 27) rfl rfl rfl (by assumption) rfl ?_
    refine R_iload (q := 29) rfl rfl rfl ?_
    refine R_dup2 (q := 30) rfl rfl ?_
    refine R_iaload (q := 31) rfl rfl (by assumption) (by omega) (by assumption) ?_
    refine R_iload_n (q := 32) rfl rfl rfl ?_
    refine R_iload_n (q := 33) rfl rfl rfl ?_
    refine R_iload_n (q := 34) rfl rfl rfl ?_
    refine R_iadd (q := 35) rfl rfl ?_
    rw [nI_add]
    refine R_calls2 (q := 38) rfl rfl rfl rfl (Nat.le_of_ble_eq_true rfl) rfl ?_
    refine R_mono (c145) (fun v35 M35 hr35 => ?_)
    obtain ⟨rfl, hm35⟩ := hr35
    rw [hm35]
    dsimp only [Option.toList, List.cons_append, List.nil_append]
    refine R_iconst (q := 39) (v := (-1)) rfl rfl (by decide) ?_
    refine R_ixor (q := 40) rfl rfl ?_
    refine R_iand (q := 41) rfl rfl ?_
    refine R_iastore (q := 42) rfl rfl (by assumption) (by assumption) ?_
    refine R_iinc (q := 45) rfl rfl rfl (nI_i1 j) rfl ?_
    dsimp only [List.set]
    refine R_goto (t := 14) rfl rfl ?_
    refine R_atM ?_ ih
    rw [mm_pp, cl_nI (by omega), ifr_ge]
    exact (congrArg (fun z => mm_put M (a + 1) (ro z)) (ifr_s (n := (fun i => f i &&& (spn x (x + w) ^^^ (-1)))) hj0)).symm
  · refine R_iload (q := 16) rfl rfl rfl ?_
    refine R_iload_n (q := 17) rfl rfl rfl ?_
    refine R_iload (q := 19) rfl rfl rfl ?_
    refine R_iadd (q := 20) rfl rfl ?_
    rw [nI_add]
    refine R_icmp_ge (q := 23) (t := 48) rfl rfl rfl (fun h20 => ?_) (fun h20 => absurd (nI_le (Nat.le_refl _) (by omega)) h20)
    refine R_return rfl rfl ?_
    exact ⟨rfl, rfl⟩
end P16
end
section
section P17
variable {S : mm_S} {d : Nat} {M : mm_M} {a b b2 : Nat} {f g g2 : Nat → Int32}
def cmb (k : Nat) (x y : Int32) : Int32 := match k with
  | 0 => x ||| y
  | 1 => x &&& y
  | 2 => x &&& (y ^^^ (-1))
  | _ => x ^^^ y
theorem c15 {x y : Int32} {k : Nat} (hk : k < 4) : mm_R S d 15 0 (mm_en 15 [.int x, .int y, .int (nI k)]) [] M (fun v M' => v = some (.int (cmb k x y)) ∧ M' = M) := by
  show mm_R S d 15 0 [some (.int x), some (.int y), some (.int (nI k))] [] M _
  match k, hk with
  | 0, _ =>
    refine R_iload_n (q := 1) rfl rfl rfl ?_
    refine R_tsw (t := 28) rfl rfl ?_
    refine R_iload_n (q := 29) rfl rfl rfl ?_
    refine R_iload_n (q := 30) rfl rfl rfl ?_
    refine R_ior (q := 31) rfl rfl ?_
    refine R_ireturn rfl rfl ?_
    exact ⟨rfl, rfl⟩
  | 1, _ =>
    refine R_iload_n (q := 1) rfl rfl rfl ?_
    refine R_tsw (t := 32) rfl rfl ?_
    refine R_iload_n (q := 33) rfl rfl rfl ?_
    refine R_iload_n (q := 34) rfl rfl rfl ?_
    refine R_iand (q := 35) rfl rfl ?_
    refine R_ireturn rfl rfl ?_
    exact ⟨rfl, rfl⟩
  | 2, _ =>
    refine R_iload_n (q := 1) rfl rfl rfl ?_
    refine R_tsw (t := 36) rfl rfl ?_
    refine R_iload_n (q := 37) rfl rfl rfl ?_
    refine R_iload_n (q := 38) rfl rfl rfl ?_
    refine R_iconst (q := 39) (v := (-1)) rfl rfl (by decide) ?_
    refine R_ixor (q := 40) rfl rfl ?_
    refine R_iand (q := 41) rfl rfl ?_
    refine R_ireturn rfl rfl ?_
    exact ⟨rfl, rfl⟩
  | 3, _ =>
    refine R_iload_n (q := 1) rfl rfl rfl ?_
    refine R_tsw (t := 42) rfl rfl ?_
    refine R_iload_n (q := 43) rfl rfl rfl ?_
    refine R_iload_n (q := 44) rfl rfl rfl ?_
    refine R_ixor (q := 45) rfl rfl ?_
    refine R_ireturn rfl rfl ?_
    exact ⟨rfl, rfl⟩
theorem c14 {k : Nat} (hk : k < 4) (ha : CA M a f) (hb : CA M b g) (hb2 : CA M b2 g2) : mm_R S (d + 1) 14 0 (mm_en 14 [.ref a, .ref b, .ref b2, .int (nI k)]) [] M (fun v M' => v = none ∧ M' = mm_put M (a + 1) (ro (ifl (fun i => cmb k (g i) (g2 i)) f 16))) := by
  show mm_R S (d + 1) 14 0 [some (.ref a), some (.ref b), some (.ref b2), some (.int (nI k)), none] [] M _
  refine R_iconst (q := 1) (v := nI 0) rfl rfl (by decide) ?_
  refine R_istore (q := 3) rfl rfl (Nat.le_of_ble_eq_true rfl) rfl ?_
  dsimp only [List.set]
  refine R_atM (M' := mm_put M (a + 1) (ro (ifl (fun i => cmb k (g i) (g2 i)) f 0))) (by rw [ifl_0]; exact mm_pself ha.2) ?_
  refine lpN (fun j => mm_R S (d + 1) 14 3 [some (.ref a), some (.ref b), some (.ref b2), some (.int (nI k)), some (.int (nI j))] [] (mm_put M (a + 1) (ro (ifl (fun i => cmb k (g i) (g2 i)) f j))) (fun v M' => v = none ∧ M' = mm_put M (a + 1) (ro (ifl (fun i => cmb k (g i) (g2 i)) f 16)))) 16 (fun j hj ih => ?_) ?_ 0 (Nat.zero_le _)
  · have hj1 : (mm_put M (a + 1) (ro (ifl (fun i => cmb k (g i) (g2 i)) f j))).1 a = some (.inr (0, [.ref (a + 1)])) := (CA_put ha).1
    have hj2 : (mm_put M (a + 1) (ro (ifl (fun i => cmb k (g i) (g2 i)) f j))).1 (a + 1) = some (ro (ifl (fun i => cmb k (g i) (g2 i)) f j)) := mm_pe
    have hji := in_nI hj (by decide)
    obtain ⟨G, ⟨hg1, hg2⟩, hGj⟩ := CA_loop (n := (fun i => cmb k (g i) (g2 i))) (j := j) ha hb
    obtain ⟨G2, ⟨hq1, hq2⟩, hGj2⟩ := CA_loop (n := (fun i => cmb k (g i) (g2 i))) (j := j) ha hb2
    refine R_iload (q := 5) rfl rfl rfl ?_
    refine R_bipush (q := 7) (v := nI 16) rfl rfl (by decide) ?_
    refine R_icmp_ge (q := 10) (t := 41) rfl rfl rfl (fun h7 => absurd h7 (nI_ge hj (by decide))) (fun h7 => ?_)
    refine R_aload_n (q := 11) rfl rfl rfl ?_
    refine R_getf (q := 14) rfl rfl rfl (by assumption) rfl ?_
    refine R_iload (q := 16) rfl rfl rfl ?_
    refine R_aload_n (q := 17) rfl rfl rfl ?_
    refine R_getf (q := 20) rfl rfl rfl hg1 rfl ?_
    refine R_iload (q := 22) rfl rfl rfl ?_
    refine R_iaload (q := 23) rfl rfl hg2 (by omega) (by assumption) ?_
    refine R_aload_n (q := 24) rfl rfl rfl ?_
    refine R_getf (q := 27) rfl rfl rfl hq1 rfl ?_
    refine R_iload (q := 29) rfl rfl rfl ?_
    refine R_iaload (q := 30) rfl rfl hq2 (by omega) (by assumption) ?_
    refine R_iload_n (q := 31) rfl rfl rfl ?_
    refine R_calls3 (q := 34) rfl rfl rfl rfl (Nat.le_of_ble_eq_true rfl) rfl ?_
    refine R_mono (c15 hk) (fun v31 M31 hr31 => ?_)
    obtain ⟨rfl, hm31⟩ := hr31
    rw [hm31]
    dsimp only [Option.toList, List.cons_append, List.nil_append]
    refine R_iastore (q := 35) rfl rfl (by assumption) (by assumption) ?_
    refine R_iinc (q := 38) rfl rfl rfl (nI_i1 j) rfl ?_
    dsimp only [List.set]
    refine R_goto (t := 3) rfl rfl ?_
    refine R_atM ?_ ih
    rw [mm_pp, cl_nI (by omega), hGj, hGj2]
    exact (congrArg (fun z => mm_put M (a + 1) (ro z)) (ifl_s (n := (fun i => cmb k (g i) (g2 i))))).symm
  · refine R_iload (q := 5) rfl rfl rfl ?_
    refine R_bipush (q := 7) (v := nI 16) rfl rfl (by decide) ?_
    refine R_icmp_ge (q := 10) (t := 41) rfl rfl rfl (fun h7 => ?_) (fun h7 => absurd (nI_le (Nat.le_refl _) (by decide)) h7)
    refine R_return rfl rfl ?_
    exact ⟨rfl, rfl⟩
def gr1 (v : Int32) : Int32 := (v ||| v <<< (nI 1 &&& 31)) ||| v >>> (nI 1 &&& 31)
def grn (f : Nat → Int32) (j : Nat) : Int32 := ((if j = 0 then nI 0 else gr1 (f (j - 1))) ||| gr1 (f j) ||| gr1 (rowv f (nI (j + 1)))) &&& 65535
theorem c16 (ha : CA M a f) : mm_R S (d + 1) 16 0 (mm_en 16 [.ref a]) [] M (fun v M' => v = none ∧ M' = mm_put M (a + 1) (ro (ifl (grn f) f 16))) := by
  show mm_R S (d + 1) 16 0 [some (.ref a), none, none, none, none, none] [] M _
  refine R_iconst (q := 1) (v := nI 0) rfl rfl (by decide) ?_
  refine R_istore_n (q := 2) rfl rfl (Nat.le_of_ble_eq_true rfl) rfl ?_
  dsimp only [List.set]
  refine R_iconst (q := 3) (v := nI 0) rfl rfl (by decide) ?_
  refine R_istore_n (q := 4) rfl rfl (Nat.le_of_ble_eq_true rfl) rfl ?_
  dsimp only [List.set]
  refine R_atM (M' := mm_put M (a + 1) (ro (ifl (grn f) f 0))) (by rw [ifl_0]; exact mm_pself ha.2) ?_
  refine lpN (fun j => ∀ t1 t2 t3 : Option Value, mm_R S (d + 1) 16 4 [some (.ref a), some (.int (if j = 0 then nI 0 else gr1 (f (j - 1)))), some (.int (nI j)), t1, t2, t3] [] (mm_put M (a + 1) (ro (ifl (grn f) f j))) (fun v M' => v = none ∧ M' = mm_put M (a + 1) (ro (ifl (grn f) f 16)))) 16 (fun j hj ih t1 t2 t3 => ?_) (fun t1 t2 t3 => ?_) 0 (Nat.zero_le _) none none none
  · have hca := CA_put (g := ifl (grn f) f j) ha
    have hj1 := hca.1
    have hj2 := hca.2
    have hji := in_nI hj (by decide)
    have hrow : rowv (ifl (grn f) f j) (nI (j + 1)) = rowv f (nI (j + 1)) := by
      by_cases h16 : j + 1 < 16
      · rw [rowv_nI h16, rowv_nI h16, ifl_ge (by omega)]
      · rw [rowv_out (by rw [i_n _ (by omega)]; omega), rowv_out (by rw [i_n _ (by omega)]; omega)]
    refine R_iload_n (q := 5) rfl rfl rfl ?_
    refine R_bipush (q := 7) (v := nI 16) rfl rfl (by decide) ?_
    refine R_icmp_ge (q := 10) (t := 81) rfl rfl rfl (fun h7 => absurd h7 (nI_ge hj (by decide))) (fun h7 => ?_)
    refine R_aload_n (q := 11) rfl rfl rfl ?_
    refine R_getf (q := 14) rfl rfl rfl (by assumption) rfl ?_
    refine R_iload_n (q := 15) rfl rfl rfl ?_
    refine R_iaload (q := 16) rfl rfl (by assumption) (by omega) (by assumption) ?_
    rw [cl_nI (by omega), ifl_ge (Nat.le_refl j)]
    refine R_aload_n (q := 17) rfl rfl rfl ?_
    refine R_getf (q := 20) rfl rfl rfl (by assumption) rfl ?_
    refine R_iload_n (q := 21) rfl rfl rfl ?_
    refine R_iaload (q := 22) rfl rfl (by assumption) (by omega) (by assumption) ?_
    rw [cl_nI (by omega), ifl_ge (Nat.le_refl j)]
    refine R_iconst (q := 23) (v := nI 1) rfl rfl (by decide) ?_
    refine R_ishl (q := 24) rfl rfl ?_
    refine R_ior (q := 25) rfl rfl ?_
    refine R_aload_n (q := 26) rfl rfl rfl ?_
    refine R_getf (q := 29) rfl rfl rfl (by assumption) rfl ?_
    refine R_iload_n (q := 30) rfl rfl rfl ?_
    refine R_iaload (q := 31) rfl rfl (by assumption) (by omega) (by assumption) ?_
    rw [cl_nI (by omega), ifl_ge (Nat.le_refl j)]
    refine R_iconst (q := 32) (v := nI 1) rfl rfl (by decide) ?_
    refine R_ishr (q := 33) rfl rfl ?_
    refine R_ior (q := 34) rfl rfl ?_
    refine R_istore_n (q := 35) rfl rfl (Nat.le_of_ble_eq_true rfl) rfl ?_
    dsimp only [List.set]
    refine R_aload_n (q := 36) rfl rfl rfl ?_
    refine R_iload_n (q := 37) rfl rfl rfl ?_
    refine R_iconst (q := 38) (v := nI 1) rfl rfl (by decide) ?_
    refine R_iadd (q := 39) rfl rfl ?_
    rw [nI_add]
    refine R_callv1 (q := 42) rfl rfl rfl rfl (by assumption) (Nat.le_of_ble_eq_true rfl) rfl ?_
    refine R_mono (c2 hca) (fun v39 M39 hr39 => ?_)
    obtain ⟨rfl, hm39⟩ := hr39
    rw [hm39]
    dsimp only [Option.toList, List.cons_append, List.nil_append]
    rw [hrow]
    refine R_istore (q := 44) rfl rfl (Nat.le_of_ble_eq_true rfl) rfl ?_
    dsimp only [List.set]
    refine R_iload (q := 46) rfl rfl rfl ?_
    refine R_iload (q := 48) rfl rfl rfl ?_
    refine R_iconst (q := 49) (v := nI 1) rfl rfl (by decide) ?_
    refine R_ishl (q := 50) rfl rfl ?_
    refine R_ior (q := 51) rfl rfl ?_
    refine R_iload (q := 53) rfl rfl rfl ?_
    refine R_iconst (q := 54) (v := nI 1) rfl rfl (by decide) ?_
    refine R_ishr (q := 55) rfl rfl ?_
    refine R_ior (q := 56) rfl rfl ?_
    refine R_istore (q := 58) rfl rfl (Nat.le_of_ble_eq_true rfl) rfl ?_
    dsimp only [List.set]
    refine R_aload_n (q := 59) rfl rfl rfl ?_
    refine R_getf (q := 62) rfl rfl rfl (by assumption) rfl ?_
    refine R_iload_n (q := 63) rfl rfl rfl ?_
    refine R_iload_n (q := 64) rfl rfl rfl ?_
    refine R_iload_n (q := 65) rfl rfl rfl ?_
    refine R_ior (q := 66) rfl rfl ?_
    refine R_iload (q := 68) rfl rfl rfl ?_
    refine R_ior (q := 69) rfl rfl ?_
    refine R_ldc (q := 71) (v := 65535) rfl rfl rfl ?_
    refine R_iand (q := 72) rfl rfl ?_
    refine R_iastore (q := 73) rfl rfl (by assumption) (by assumption) ?_
    rw [cl_nI (by omega)]
    refine R_iload_n (q := 74) rfl rfl rfl ?_
    refine R_istore_n (q := 75) rfl rfl (Nat.le_of_ble_eq_true rfl) rfl ?_
    dsimp only [List.set]
    refine R_iinc (q := 78) rfl rfl rfl (nI_i1 j) rfl ?_
    dsimp only [List.set]
    refine R_goto (t := 4) rfl rfl ?_
    refine R_atM ?_ (by
      have h := ih (some (.int (gr1 (f j)))) (some (.int (rowv f (nI (j + 1))))) (some (.int (gr1 (rowv f (nI (j + 1))))))
      rw [if_neg (Nat.succ_ne_zero j), Nat.add_sub_cancel] at h
      exact h)
    rw [mm_pp]
    exact (congrArg (fun z => mm_put M (a + 1) (ro z)) (ifl_s (n := (grn f)))).symm
  · refine R_iload_n (q := 5) rfl rfl rfl ?_
    refine R_bipush (q := 7) (v := nI 16) rfl rfl (by decide) ?_
    refine R_icmp_ge (q := 10) (t := 81) rfl rfl rfl (fun h7 => ?_) (fun h7 => absurd (nI_le (Nat.le_refl _) (by decide)) h7)
    refine R_return rfl rfl ?_
    exact ⟨rfl, rfl⟩
def sk1 (v : Int32) : Int32 := (v &&& v <<< (nI 1 &&& 31)) &&& v >>> (nI 1 &&& 31)
def skn (f : Nat → Int32) (j : Nat) : Int32 := ((if j = 0 then nI 0 else sk1 (f (j - 1))) &&& sk1 (f j) &&& sk1 (rowv f (nI (j + 1)))) 
theorem c17 (ha : CA M a f) : mm_R S (d + 1) 17 0 (mm_en 17 [.ref a]) [] M (fun v M' => v = none ∧ M' = mm_put M (a + 1) (ro (ifl (skn f) f 16))) := by
  show mm_R S (d + 1) 17 0 [some (.ref a), none, none, none, none, none] [] M _
  refine R_iconst (q := 1) (v := nI 0) rfl rfl (by decide) ?_
  refine R_istore_n (q := 2) rfl rfl (Nat.le_of_ble_eq_true rfl) rfl ?_
  dsimp only [List.set]
  refine R_iconst (q := 3) (v := nI 0) rfl rfl (by decide) ?_
  refine R_istore_n (q := 4) rfl rfl (Nat.le_of_ble_eq_true rfl) rfl ?_
  dsimp only [List.set]
  refine R_atM (M' := mm_put M (a + 1) (ro (ifl (skn f) f 0))) (by rw [ifl_0]; exact mm_pself ha.2) ?_
  refine lpN (fun j => ∀ t1 t2 t3 : Option Value, mm_R S (d + 1) 17 4 [some (.ref a), some (.int (if j = 0 then nI 0 else sk1 (f (j - 1)))), some (.int (nI j)), t1, t2, t3] [] (mm_put M (a + 1) (ro (ifl (skn f) f j))) (fun v M' => v = none ∧ M' = mm_put M (a + 1) (ro (ifl (skn f) f 16)))) 16 (fun j hj ih t1 t2 t3 => ?_) (fun t1 t2 t3 => ?_) 0 (Nat.zero_le _) none none none
  · have hca := CA_put (g := ifl (skn f) f j) ha
    have hj1 := hca.1
    have hj2 := hca.2
    have hji := in_nI hj (by decide)
    have hrow : rowv (ifl (skn f) f j) (nI (j + 1)) = rowv f (nI (j + 1)) := by
      by_cases h16 : j + 1 < 16
      · rw [rowv_nI h16, rowv_nI h16, ifl_ge (by omega)]
      · rw [rowv_out (by rw [i_n _ (by omega)]; omega), rowv_out (by rw [i_n _ (by omega)]; omega)]
    refine R_iload_n (q := 5) rfl rfl rfl ?_
    refine R_bipush (q := 7) (v := nI 16) rfl rfl (by decide) ?_
    refine R_icmp_ge (q := 10) (t := 78) rfl rfl rfl (fun h7 => absurd h7 (nI_ge hj (by decide))) (fun h7 => ?_)
    refine R_aload_n (q := 11) rfl rfl rfl ?_
    refine R_getf (q := 14) rfl rfl rfl (by assumption) rfl ?_
    refine R_iload_n (q := 15) rfl rfl rfl ?_
    refine R_iaload (q := 16) rfl rfl (by assumption) (by omega) (by assumption) ?_
    rw [cl_nI (by omega), ifl_ge (Nat.le_refl j)]
    refine R_aload_n (q := 17) rfl rfl rfl ?_
    refine R_getf (q := 20) rfl rfl rfl (by assumption) rfl ?_
    refine R_iload_n (q := 21) rfl rfl rfl ?_
    refine R_iaload (q := 22) rfl rfl (by assumption) (by omega) (by assumption) ?_
    rw [cl_nI (by omega), ifl_ge (Nat.le_refl j)]
    refine R_iconst (q := 23) (v := nI 1) rfl rfl (by decide) ?_
    refine R_ishl (q := 24) rfl rfl ?_
    refine R_iand (q := 25) rfl rfl ?_
    refine R_aload_n (q := 26) rfl rfl rfl ?_
    refine R_getf (q := 29) rfl rfl rfl (by assumption) rfl ?_
    refine R_iload_n (q := 30) rfl rfl rfl ?_
    refine R_iaload (q := 31) rfl rfl (by assumption) (by omega) (by assumption) ?_
    rw [cl_nI (by omega), ifl_ge (Nat.le_refl j)]
    refine R_iconst (q := 32) (v := nI 1) rfl rfl (by decide) ?_
    refine R_ishr (q := 33) rfl rfl ?_
    refine R_iand (q := 34) rfl rfl ?_
    refine R_istore_n (q := 35) rfl rfl (Nat.le_of_ble_eq_true rfl) rfl ?_
    dsimp only [List.set]
    refine R_aload_n (q := 36) rfl rfl rfl ?_
    refine R_iload_n (q := 37) rfl rfl rfl ?_
    refine R_iconst (q := 38) (v := nI 1) rfl rfl (by decide) ?_
    refine R_iadd (q := 39) rfl rfl ?_
    rw [nI_add]
    refine R_callv1 (q := 42) rfl rfl rfl rfl (by assumption) (Nat.le_of_ble_eq_true rfl) rfl ?_
    refine R_mono (c2 hca) (fun v39 M39 hr39 => ?_)
    obtain ⟨rfl, hm39⟩ := hr39
    rw [hm39]
    dsimp only [Option.toList, List.cons_append, List.nil_append]
    rw [hrow]
    refine R_istore (q := 44) rfl rfl (Nat.le_of_ble_eq_true rfl) rfl ?_
    dsimp only [List.set]
    refine R_iload (q := 46) rfl rfl rfl ?_
    refine R_iload (q := 48) rfl rfl rfl ?_
    refine R_iconst (q := 49) (v := nI 1) rfl rfl (by decide) ?_
    refine R_ishl (q := 50) rfl rfl ?_
    refine R_iand (q := 51) rfl rfl ?_
    refine R_iload (q := 53) rfl rfl rfl ?_
    refine R_iconst (q := 54) (v := nI 1) rfl rfl (by decide) ?_
    refine R_ishr (q := 55) rfl rfl ?_
    refine R_iand (q := 56) rfl rfl ?_
    refine R_istore (q := 58) rfl rfl (Nat.le_of_ble_eq_true rfl) rfl ?_
    dsimp only [List.set]
    refine R_aload_n (q := 59) rfl rfl rfl ?_
    refine R_getf (q := 62) rfl rfl rfl (by assumption) rfl ?_
    refine R_iload_n (q := 63) rfl rfl rfl ?_
    refine R_iload_n (q := 64) rfl rfl rfl ?_
    refine R_iload_n (q := 65) rfl rfl rfl ?_
    refine R_iand (q := 66) rfl rfl ?_
    refine R_iload (q := 68) rfl rfl rfl ?_
    refine R_iand (q := 69) rfl rfl ?_
    refine R_iastore (q := 70) rfl rfl (by assumption) (by assumption) ?_
    rw [cl_nI (by omega)]
    refine R_iload_n (q := 71) rfl rfl rfl ?_
    refine R_istore_n (q := 72) rfl rfl (Nat.le_of_ble_eq_true rfl) rfl ?_
    dsimp only [List.set]
    refine R_iinc (q := 75) rfl rfl rfl (nI_i1 j) rfl ?_
    dsimp only [List.set]
    refine R_goto (t := 4) rfl rfl ?_
    refine R_atM ?_ (by
      have h := ih (some (.int (sk1 (f j)))) (some (.int (rowv f (nI (j + 1))))) (some (.int (sk1 (rowv f (nI (j + 1))))))
      rw [if_neg (Nat.succ_ne_zero j), Nat.add_sub_cancel] at h
      exact h)
    rw [mm_pp]
    exact (congrArg (fun z => mm_put M (a + 1) (ro z)) (ifl_s (n := (skn f)))).symm
  · refine R_iload_n (q := 5) rfl rfl rfl ?_
    refine R_bipush (q := 7) (v := nI 16) rfl rfl (by decide) ?_
    refine R_icmp_ge (q := 10) (t := 78) rfl rfl rfl (fun h7 => ?_) (fun h7 => absurd (nI_le (Nat.le_refl _) (by decide)) h7)
    refine R_return rfl rfl ?_
    exact ⟨rfl, rfl⟩
end P17
end
section
/-! ===== Items, Tape, Outline ===== -/
def IT (M : mm_M) (a n : Nat) (p : Nat → Int32) : Prop := M.1 a = some (.inr (3, [.ref (a + 1), .int (nI n)])) ∧ M.1 (a + 1) = some (.inl (0, 256, .inl p)) ∧ n ≤ 256
def TP (M : mm_M) (a n : Nat) (p : Nat → Int32) : Prop := M.1 a = some (.inr (8, [.ref (a + 1), .int (nI n)])) ∧ M.1 (a + 1) = some (.inl (0, 400, .inl p)) ∧ n ≤ 400
def OL (M : mm_M) (a n : Nat) (px py : Nat → Int32) : Prop := M.1 a = some (.inr (5, [.ref (a + 1), .ref (a + 2), .int (nI n)])) ∧ M.1 (a + 1) = some (.inl (0, 24, .inl px)) ∧ M.1 (a + 2) = some (.inl (0, 24, .inl py)) ∧ n ≤ 24
section P18
variable {S : mm_S} {d : Nat} {M : mm_M} {a b n n2 : Nat} {p p2 px py : Nat → Int32}
theorem c49 (h : IT M a n p) : mm_R S d 49 0 (mm_en 49 [.ref a]) [] M (fun v M' => v = none ∧ M' = mm_put M a (.inr (3, [.ref (a + 1), .int (nI 0)]))) := by
  obtain ⟨h1, h2, h3⟩ := h
  show mm_R S d 49 0 [some (.ref a)] [] M _
  refine R_aload_n (q := 1) rfl rfl rfl ?_
  refine R_iconst (q := 2) (v := nI 0) rfl rfl (by decide) ?_
  refine R_putf (q := 5) rfl rfl rfl (by first | assumption | exact mm_pe | (rw [mm_pn (by omega)]; first | assumption | exact mm_pe | (rw [mm_pn (by omega)]; first | assumption | exact mm_pe | (rw [mm_pn (by omega)]; first | assumption | exact mm_pe | (rw [mm_pn (by omega)]; first | assumption | exact mm_pe | (rw [mm_pn (by omega)]; first | assumption | exact mm_pe)))))) (Nat.le_of_ble_eq_true rfl) rfl (fun hf => absurd hf (by decide)) rfl ?_
  dsimp only [List.set]
  refine R_return rfl rfl ?_
  exact ⟨rfl, rfl⟩
theorem c50 (h : IT M a n p) : mm_R S d 50 0 (mm_en 50 [.ref a]) [] M (fun v M' => v = some (.int (nI n)) ∧ M' = M) := by
  obtain ⟨h1, h2, h3⟩ := h
  show mm_R S d 50 0 [some (.ref a)] [] M _
  refine R_aload_n (q := 1) rfl rfl rfl ?_
  refine R_getf (q := 4) rfl rfl rfl (by first | assumption | exact mm_pe | (rw [mm_pn (by omega)]; first | assumption | exact mm_pe | (rw [mm_pn (by omega)]; first | assumption | exact mm_pe | (rw [mm_pn (by omega)]; first | assumption | exact mm_pe | (rw [mm_pn (by omega)]; first | assumption | exact mm_pe | (rw [mm_pn (by omega)]; first | assumption | exact mm_pe)))))) rfl ?_
  refine R_ireturn rfl rfl ?_
  exact ⟨rfl, rfl⟩
def pkd (x y w h : Int32) : Int32 := ((x ||| y <<< (nI 5 &&& 31)) ||| w <<< (nI 10 &&& 31)) ||| h <<< (nI 15 &&& 31)
theorem c51 {x y w h : Int32} (hi : IT M a n p) (hn : n < 256) : mm_R S d 51 0 (mm_en 51 [.ref a, .int x, .int y, .int w, .int h]) [] M (fun v M' => v = none ∧ M' = mm_put (mm_put M (a + 1) (.inl (0, 256, .inl (upd p n (pkd x y w h))))) a (.inr (3, [.ref (a + 1), .int (nI (n + 1))]))) := by
  obtain ⟨h1, h2, h3⟩ := hi
  show mm_R S d 51 0 [some (.ref a), some (.int x), some (.int y), some (.int w), some (.int h)] [] M _
  refine R_aload_n (q := 1) rfl rfl rfl ?_
  refine R_getf (q := 4) rfl rfl rfl (by first | assumption | exact mm_pe | (rw [mm_pn (by omega)]; first | assumption | exact mm_pe | (rw [mm_pn (by omega)]; first | assumption | exact mm_pe | (rw [mm_pn (by omega)]; first | assumption | exact mm_pe | (rw [mm_pn (by omega)]; first | assumption | exact mm_pe | (rw [mm_pn (by omega)]; first | assumption | exact mm_pe)))))) rfl ?_
  refine R_sipush (q := 7) (v := nI 256) rfl rfl (by decide) ?_
  refine R_icmp_ge (q := 10) (t := 45) rfl rfl rfl (fun h7 => absurd h7 (nI_ge hn (by decide))) (fun h7 => ?_)
  refine R_aload_n (q := 11) rfl rfl rfl ?_
  refine R_getf (q := 14) rfl rfl rfl (by first | assumption | exact mm_pe | (rw [mm_pn (by omega)]; first | assumption | exact mm_pe | (rw [mm_pn (by omega)]; first | assumption | exact mm_pe | (rw [mm_pn (by omega)]; first | assumption | exact mm_pe | (rw [mm_pn (by omega)]; first | assumption | exact mm_pe | (rw [mm_pn (by omega)]; first | assumption | exact mm_pe)))))) rfl ?_
  refine R_aload_n (q := 15) rfl rfl rfl ?_
  refine R_getf (q := 18) rfl rfl rfl (by first | assumption | exact mm_pe | (rw [mm_pn (by omega)]; first | assumption | exact mm_pe | (rw [mm_pn (by omega)]; first | assumption | exact mm_pe | (rw [mm_pn (by omega)]; first | assumption | exact mm_pe | (rw [mm_pn (by omega)]; first | assumption | exact mm_pe | (rw [mm_pn (by omega)]; first | assumption | exact mm_pe)))))) rfl ?_
  refine R_iload_n (q := 19) rfl rfl rfl ?_
  refine R_iload_n (q := 20) rfl rfl rfl ?_
  refine R_iconst (q := 21) (v := nI 5) rfl rfl (by decide) ?_
  refine R_ishl (q := 22) rfl rfl ?_
  refine R_ior (q := 23) rfl rfl ?_
  refine R_iload_n (q := 24) rfl rfl rfl ?_
  refine R_bipush (q := 26) (v := nI 10) rfl rfl (by decide) ?_
  refine R_ishl (q := 27) rfl rfl ?_
  refine R_ior (q := 28) rfl rfl ?_
  refine R_iload (q := 30) rfl rfl rfl ?_
  refine R_bipush (q := 32) (v := nI 15) rfl rfl (by decide) ?_
  refine R_ishl (q := 33) rfl rfl ?_
  refine R_ior (q := 34) rfl rfl ?_
  refine R_iastore (q := 35) rfl rfl (by first | assumption | exact mm_pe | (rw [mm_pn (by omega)]; first | assumption | exact mm_pe | (rw [mm_pn (by omega)]; first | assumption | exact mm_pe | (rw [mm_pn (by omega)]; first | assumption | exact mm_pe | (rw [mm_pn (by omega)]; first | assumption | exact mm_pe | (rw [mm_pn (by omega)]; first | assumption | exact mm_pe)))))) (by first | assumption | exact in_nI (by omega) (by decide)) ?_
  rw [cl_nI (by omega)]
  refine R_aload_n (q := 36) rfl rfl rfl ?_
  first | refine R_dupa (q := 37) rfl rfl ?_ | refine R_dupi (q := 37) rfl rfl ?_
  refine R_getf (q := 40) rfl rfl rfl (by first | assumption | exact mm_pe | (rw [mm_pn (by omega)]; first | assumption | exact mm_pe | (rw [mm_pn (by omega)]; first | assumption | exact mm_pe | (rw [mm_pn (by omega)]; first | assumption | exact mm_pe | (rw [mm_pn (by omega)]; first | assumption | exact mm_pe | (rw [mm_pn (by omega)]; first | assumption | exact mm_pe)))))) rfl ?_
  refine R_iconst (q := 41) (v := nI 1) rfl rfl (by decide) ?_
  refine R_iadd (q := 42) rfl rfl ?_
  rw [nI_add]
  refine R_putf (q := 45) rfl rfl rfl (by first | assumption | exact mm_pe | (rw [mm_pn (by omega)]; first | assumption | exact mm_pe | (rw [mm_pn (by omega)]; first | assumption | exact mm_pe | (rw [mm_pn (by omega)]; first | assumption | exact mm_pe | (rw [mm_pn (by omega)]; first | assumption | exact mm_pe | (rw [mm_pn (by omega)]; first | assumption | exact mm_pe)))))) (Nat.le_of_ble_eq_true rfl) rfl (fun hf => absurd hf (by decide)) rfl ?_
  dsimp only [List.set]
  refine R_return rfl rfl ?_
  exact ⟨rfl, rfl⟩
def itv (n : Nat) (p : Nat → Int32) (i q : Int32) : Int32 := if (0 ≤ i.toInt ∧ i.toInt < n) ∧ 0 ≤ q.toInt ∧ q.toInt < 4 then (p i.toNatClampNeg >>> (q * nI 5 &&& 31)) &&& nI 31 else (-1000)
theorem c52 {i q : Int32} (hi : IT M a n p) : mm_R S d 52 0 (mm_en 52 [.ref a, .int i, .int q]) [] M (fun v M' => v = some (.int (itv n p i q)) ∧ M' = M) := by
  obtain ⟨h1, h2, h3⟩ := hi
  have hnn := i_n n (by omega)
  unfold itv
  show mm_R S d 52 0 [some (.ref a), some (.int i), some (.int q)] [] M _
  refine R_iload_n (q := 1) rfl rfl rfl ?_
  refine R_if_lt (q := 4) (t := 21) rfl rfl rfl (fun h1 => ?_) (fun h1 => ?_)
  · refine R_sipush (q := 24) (v := (-1000)) rfl rfl (by decide) ?_
    refine R_ireturn rfl rfl ?_
    refine ⟨congrArg some (congrArg Value.int ?_), rfl⟩
    first | exact (if_pos (by (try simp only [i_lt, i_le, i_eq, i_0, ik_0, ik_1, ik_2, ik_3, ik_4, ik_5, ik_6, ik_7, ik_8, ik_9, ik_10, ik_11, ik_12, ik_13, ik_14, ik_15, ik_16, ik_17, ik_18, ik_19, ik_20, ik_21, ik_22, ik_23, ik_24, ik_25, ik_26, ik_27, ik_28, ik_29, ik_30, ik_31, ik_32, ik_33, ik_34, ik_35, ik_36, ik_127, ik_128, ik_200, ik_201, ik_255, ik_256, ik_272, ik_289, ik_400, ik_512] at *) <;> omega)).symm | exact (if_neg (by (try simp only [i_lt, i_le, i_eq, i_0, ik_0, ik_1, ik_2, ik_3, ik_4, ik_5, ik_6, ik_7, ik_8, ik_9, ik_10, ik_11, ik_12, ik_13, ik_14, ik_15, ik_16, ik_17, ik_18, ik_19, ik_20, ik_21, ik_22, ik_23, ik_24, ik_25, ik_26, ik_27, ik_28, ik_29, ik_30, ik_31, ik_32, ik_33, ik_34, ik_35, ik_36, ik_127, ik_128, ik_200, ik_201, ik_255, ik_256, ik_272, ik_289, ik_400, ik_512] at *) <;> omega)).symm
  · refine R_iload_n (q := 5) rfl rfl rfl ?_
    refine R_aload_n (q := 6) rfl rfl rfl ?_
    refine R_getf (q := 9) rfl rfl rfl (by first | assumption | exact mm_pe | (rw [mm_pn (by omega)]; first | assumption | exact mm_pe | (rw [mm_pn (by omega)]; first | assumption | exact mm_pe | (rw [mm_pn (by omega)]; first | assumption | exact mm_pe | (rw [mm_pn (by omega)]; first | assumption | exact mm_pe | (rw [mm_pn (by omega)]; first | assumption | exact mm_pe)))))) rfl ?_
    refine R_icmp_ge (q := 12) (t := 21) rfl rfl rfl (fun h9 => ?_) (fun h9 => ?_)
    · refine R_sipush (q := 24) (v := (-1000)) rfl rfl (by decide) ?_
      refine R_ireturn rfl rfl ?_
      refine ⟨congrArg some (congrArg Value.int ?_), rfl⟩
      first | exact (if_pos (by (try simp only [i_lt, i_le, i_eq, i_0, ik_0, ik_1, ik_2, ik_3, ik_4, ik_5, ik_6, ik_7, ik_8, ik_9, ik_10, ik_11, ik_12, ik_13, ik_14, ik_15, ik_16, ik_17, ik_18, ik_19, ik_20, ik_21, ik_22, ik_23, ik_24, ik_25, ik_26, ik_27, ik_28, ik_29, ik_30, ik_31, ik_32, ik_33, ik_34, ik_35, ik_36, ik_127, ik_128, ik_200, ik_201, ik_255, ik_256, ik_272, ik_289, ik_400, ik_512] at *) <;> omega)).symm | exact (if_neg (by (try simp only [i_lt, i_le, i_eq, i_0, ik_0, ik_1, ik_2, ik_3, ik_4, ik_5, ik_6, ik_7, ik_8, ik_9, ik_10, ik_11, ik_12, ik_13, ik_14, ik_15, ik_16, ik_17, ik_18, ik_19, ik_20, ik_21, ik_22, ik_23, ik_24, ik_25, ik_26, ik_27, ik_28, ik_29, ik_30, ik_31, ik_32, ik_33, ik_34, ik_35, ik_36, ik_127, ik_128, ik_200, ik_201, ik_255, ik_256, ik_272, ik_289, ik_400, ik_512] at *) <;> omega)).symm
    · refine R_iload_n (q := 13) rfl rfl rfl ?_
      refine R_if_lt (q := 16) (t := 21) rfl rfl rfl (fun h13 => ?_) (fun h13 => ?_)
      · refine R_sipush (q := 24) (v := (-1000)) rfl rfl (by decide) ?_
        refine R_ireturn rfl rfl ?_
        refine ⟨congrArg some (congrArg Value.int ?_), rfl⟩
        first | exact (if_pos (by (try simp only [i_lt, i_le, i_eq, i_0, ik_0, ik_1, ik_2, ik_3, ik_4, ik_5, ik_6, ik_7, ik_8, ik_9, ik_10, ik_11, ik_12, ik_13, ik_14, ik_15, ik_16, ik_17, ik_18, ik_19, ik_20, ik_21, ik_22, ik_23, ik_24, ik_25, ik_26, ik_27, ik_28, ik_29, ik_30, ik_31, ik_32, ik_33, ik_34, ik_35, ik_36, ik_127, ik_128, ik_200, ik_201, ik_255, ik_256, ik_272, ik_289, ik_400, ik_512] at *) <;> omega)).symm | exact (if_neg (by (try simp only [i_lt, i_le, i_eq, i_0, ik_0, ik_1, ik_2, ik_3, ik_4, ik_5, ik_6, ik_7, ik_8, ik_9, ik_10, ik_11, ik_12, ik_13, ik_14, ik_15, ik_16, ik_17, ik_18, ik_19, ik_20, ik_21, ik_22, ik_23, ik_24, ik_25, ik_26, ik_27, ik_28, ik_29, ik_30, ik_31, ik_32, ik_33, ik_34, ik_35, ik_36, ik_127, ik_128, ik_200, ik_201, ik_255, ik_256, ik_272, ik_289, ik_400, ik_512] at *) <;> omega)).symm
      · refine R_iload_n (q := 17) rfl rfl rfl ?_
        refine R_iconst (q := 18) (v := nI 4) rfl rfl (by decide) ?_
        refine R_icmp_lt (q := 21) (t := 25) rfl rfl rfl (fun h18 => ?_) (fun h18 => ?_)
        · refine R_aload_n (q := 26) rfl rfl rfl ?_
          refine R_getf (q := 29) rfl rfl rfl (by first | assumption | exact mm_pe | (rw [mm_pn (by omega)]; first | assumption | exact mm_pe | (rw [mm_pn (by omega)]; first | assumption | exact mm_pe | (rw [mm_pn (by omega)]; first | assumption | exact mm_pe | (rw [mm_pn (by omega)]; first | assumption | exact mm_pe | (rw [mm_pn (by omega)]; first | assumption | exact mm_pe)))))) rfl ?_
          refine R_iload_n (q := 30) rfl rfl rfl ?_
          refine R_iaload (q := 31) rfl rfl (by first | assumption | exact mm_pe | (rw [mm_pn (by omega)]; first | assumption | exact mm_pe | (rw [mm_pn (by omega)]; first | assumption | exact mm_pe | (rw [mm_pn (by omega)]; first | assumption | exact mm_pe | (rw [mm_pn (by omega)]; first | assumption | exact mm_pe | (rw [mm_pn (by omega)]; first | assumption | exact mm_pe)))))) (by omega) (vp_in_iff.mpr (by (try simp only [i_lt, i_le, i_eq, i_0, ik_0, ik_1, ik_2, ik_3, ik_4, ik_5, ik_6, ik_7, ik_8, ik_9, ik_10, ik_11, ik_12, ik_13, ik_14, ik_15, ik_16, ik_17, ik_18, ik_19, ik_20, ik_21, ik_22, ik_23, ik_24, ik_25, ik_26, ik_27, ik_28, ik_29, ik_30, ik_31, ik_32, ik_33, ik_34, ik_35, ik_36, ik_127, ik_128, ik_200, ik_201, ik_255, ik_256, ik_272, ik_289, ik_400, ik_512] at *) <;> omega)) ?_
          refine R_iload_n (q := 32) rfl rfl rfl ?_
          refine R_iconst (q := 33) (v := nI 5) rfl rfl (by decide) ?_
          refine R_imul (q := 34) rfl rfl ?_
          refine R_ishr (q := 35) rfl rfl ?_
          refine R_bipush (q := 37) (v := nI 31) rfl rfl (by decide) ?_
          refine R_iand (q := 38) rfl rfl ?_
          refine R_ireturn rfl rfl ?_
          refine ⟨congrArg some (congrArg Value.int ?_), rfl⟩
          first | exact (if_pos (by (try simp only [i_lt, i_le, i_eq, i_0, ik_0, ik_1, ik_2, ik_3, ik_4, ik_5, ik_6, ik_7, ik_8, ik_9, ik_10, ik_11, ik_12, ik_13, ik_14, ik_15, ik_16, ik_17, ik_18, ik_19, ik_20, ik_21, ik_22, ik_23, ik_24, ik_25, ik_26, ik_27, ik_28, ik_29, ik_30, ik_31, ik_32, ik_33, ik_34, ik_35, ik_36, ik_127, ik_128, ik_200, ik_201, ik_255, ik_256, ik_272, ik_289, ik_400, ik_512] at *) <;> omega)).symm | exact (if_neg (by (try simp only [i_lt, i_le, i_eq, i_0, ik_0, ik_1, ik_2, ik_3, ik_4, ik_5, ik_6, ik_7, ik_8, ik_9, ik_10, ik_11, ik_12, ik_13, ik_14, ik_15, ik_16, ik_17, ik_18, ik_19, ik_20, ik_21, ik_22, ik_23, ik_24, ik_25, ik_26, ik_27, ik_28, ik_29, ik_30, ik_31, ik_32, ik_33, ik_34, ik_35, ik_36, ik_127, ik_128, ik_200, ik_201, ik_255, ik_256, ik_272, ik_289, ik_400, ik_512] at *) <;> omega)).symm
        · refine R_sipush (q := 24) (v := (-1000)) rfl rfl (by decide) ?_
          refine R_ireturn rfl rfl ?_
          refine ⟨congrArg some (congrArg Value.int ?_), rfl⟩
          first | exact (if_pos (by (try simp only [i_lt, i_le, i_eq, i_0, ik_0, ik_1, ik_2, ik_3, ik_4, ik_5, ik_6, ik_7, ik_8, ik_9, ik_10, ik_11, ik_12, ik_13, ik_14, ik_15, ik_16, ik_17, ik_18, ik_19, ik_20, ik_21, ik_22, ik_23, ik_24, ik_25, ik_26, ik_27, ik_28, ik_29, ik_30, ik_31, ik_32, ik_33, ik_34, ik_35, ik_36, ik_127, ik_128, ik_200, ik_201, ik_255, ik_256, ik_272, ik_289, ik_400, ik_512] at *) <;> omega)).symm | exact (if_neg (by (try simp only [i_lt, i_le, i_eq, i_0, ik_0, ik_1, ik_2, ik_3, ik_4, ik_5, ik_6, ik_7, ik_8, ik_9, ik_10, ik_11, ik_12, ik_13, ik_14, ik_15, ik_16, ik_17, ik_18, ik_19, ik_20, ik_21, ik_22, ik_23, ik_24, ik_25, ik_26, ik_27, ik_28, ik_29, ik_30, ik_31, ik_32, ik_33, ik_34, ik_35, ik_36, ik_127, ik_128, ik_200, ik_201, ik_255, ik_256, ik_272, ik_289, ik_400, ik_512] at *) <;> omega)).symm
theorem c92 (h : TP M a n p) : mm_R S d 92 0 (mm_en 92 [.ref a]) [] M (fun v M' => v = none ∧ M' = mm_put M a (.inr (8, [.ref (a + 1), .int (nI 0)]))) := by
  obtain ⟨h1, h2, h3⟩ := h
  show mm_R S d 92 0 [some (.ref a)] [] M _
  refine R_aload_n (q := 1) rfl rfl rfl ?_
  refine R_iconst (q := 2) (v := nI 0) rfl rfl (by decide) ?_
  refine R_putf (q := 5) rfl rfl rfl (by first | assumption | exact mm_pe | (rw [mm_pn (by omega)]; first | assumption | exact mm_pe | (rw [mm_pn (by omega)]; first | assumption | exact mm_pe | (rw [mm_pn (by omega)]; first | assumption | exact mm_pe | (rw [mm_pn (by omega)]; first | assumption | exact mm_pe | (rw [mm_pn (by omega)]; first | assumption | exact mm_pe)))))) (Nat.le_of_ble_eq_true rfl) rfl (fun hf => absurd hf (by decide)) rfl ?_
  dsimp only [List.set]
  refine R_return rfl rfl ?_
  exact ⟨rfl, rfl⟩
theorem c93 (h : TP M a n p) : mm_R S d 93 0 (mm_en 93 [.ref a]) [] M (fun v M' => v = some (.int (nI n)) ∧ M' = M) := by
  obtain ⟨h1, h2, h3⟩ := h
  show mm_R S d 93 0 [some (.ref a)] [] M _
  refine R_aload_n (q := 1) rfl rfl rfl ?_
  refine R_getf (q := 4) rfl rfl rfl (by first | assumption | exact mm_pe | (rw [mm_pn (by omega)]; first | assumption | exact mm_pe | (rw [mm_pn (by omega)]; first | assumption | exact mm_pe | (rw [mm_pn (by omega)]; first | assumption | exact mm_pe | (rw [mm_pn (by omega)]; first | assumption | exact mm_pe | (rw [mm_pn (by omega)]; first | assumption | exact mm_pe)))))) rfl ?_
  refine R_ireturn rfl rfl ?_
  exact ⟨rfl, rfl⟩
theorem c94 {i : Int32} (h : TP M a n p) : mm_R S d 94 0 (mm_en 94 [.ref a, .int i]) [] M (fun v M' => v = some (.int (zb (decide (0 ≤ i.toInt ∧ i.toInt < n)))) ∧ M' = M) := by
  obtain ⟨h1, h2, h3⟩ := h
  have hnn := i_n n (by omega)
  show mm_R S d 94 0 [some (.ref a), some (.int i)] [] M _
  refine R_iload_n (q := 1) rfl rfl rfl ?_
  refine R_if_lt (q := 4) (t := 16) rfl rfl rfl (fun h1 => ?_) (fun h1 => ?_)
  · refine R_iconst (q := 17) (v := nI 0) rfl rfl (by decide) ?_
    refine R_zreturn rfl rfl (by first | exact Or.inl rfl | exact Or.inr rfl | assumption) ?_
    refine ⟨congrArg some (congrArg Value.int ?_), rfl⟩
    first | exact (zb_t (by (try simp only [i_lt, i_le, i_eq, i_0, ik_0, ik_1, ik_2, ik_3, ik_4, ik_5, ik_6, ik_7, ik_8, ik_9, ik_10, ik_11, ik_12, ik_13, ik_14, ik_15, ik_16, ik_17, ik_18, ik_19, ik_20, ik_21, ik_22, ik_23, ik_24, ik_25, ik_26, ik_27, ik_28, ik_29, ik_30, ik_31, ik_32, ik_33, ik_34, ik_35, ik_36, ik_127, ik_128, ik_200, ik_201, ik_255, ik_256, ik_272, ik_289, ik_400, ik_512] at *) <;> omega)).symm | exact (zb_f (by (try simp only [i_lt, i_le, i_eq, i_0, ik_0, ik_1, ik_2, ik_3, ik_4, ik_5, ik_6, ik_7, ik_8, ik_9, ik_10, ik_11, ik_12, ik_13, ik_14, ik_15, ik_16, ik_17, ik_18, ik_19, ik_20, ik_21, ik_22, ik_23, ik_24, ik_25, ik_26, ik_27, ik_28, ik_29, ik_30, ik_31, ik_32, ik_33, ik_34, ik_35, ik_36, ik_127, ik_128, ik_200, ik_201, ik_255, ik_256, ik_272, ik_289, ik_400, ik_512] at *) <;> omega)).symm
  · refine R_iload_n (q := 5) rfl rfl rfl ?_
    refine R_aload_n (q := 6) rfl rfl rfl ?_
    refine R_getf (q := 9) rfl rfl rfl (by first | assumption | exact mm_pe | (rw [mm_pn (by omega)]; first | assumption | exact mm_pe | (rw [mm_pn (by omega)]; first | assumption | exact mm_pe | (rw [mm_pn (by omega)]; first | assumption | exact mm_pe | (rw [mm_pn (by omega)]; first | assumption | exact mm_pe | (rw [mm_pn (by omega)]; first | assumption | exact mm_pe)))))) rfl ?_
    refine R_icmp_ge (q := 12) (t := 16) rfl rfl rfl (fun h9 => ?_) (fun h9 => ?_)
    · refine R_iconst (q := 17) (v := nI 0) rfl rfl (by decide) ?_
      refine R_zreturn rfl rfl (by first | exact Or.inl rfl | exact Or.inr rfl | assumption) ?_
      refine ⟨congrArg some (congrArg Value.int ?_), rfl⟩
      first | exact (zb_t (by (try simp only [i_lt, i_le, i_eq, i_0, ik_0, ik_1, ik_2, ik_3, ik_4, ik_5, ik_6, ik_7, ik_8, ik_9, ik_10, ik_11, ik_12, ik_13, ik_14, ik_15, ik_16, ik_17, ik_18, ik_19, ik_20, ik_21, ik_22, ik_23, ik_24, ik_25, ik_26, ik_27, ik_28, ik_29, ik_30, ik_31, ik_32, ik_33, ik_34, ik_35, ik_36, ik_127, ik_128, ik_200, ik_201, ik_255, ik_256, ik_272, ik_289, ik_400, ik_512] at *) <;> omega)).symm | exact (zb_f (by (try simp only [i_lt, i_le, i_eq, i_0, ik_0, ik_1, ik_2, ik_3, ik_4, ik_5, ik_6, ik_7, ik_8, ik_9, ik_10, ik_11, ik_12, ik_13, ik_14, ik_15, ik_16, ik_17, ik_18, ik_19, ik_20, ik_21, ik_22, ik_23, ik_24, ik_25, ik_26, ik_27, ik_28, ik_29, ik_30, ik_31, ik_32, ik_33, ik_34, ik_35, ik_36, ik_127, ik_128, ik_200, ik_201, ik_255, ik_256, ik_272, ik_289, ik_400, ik_512] at *) <;> omega)).symm
    · refine R_iconst (q := 13) (v := nI 1) rfl rfl (by decide) ?_
      refine R_goto (t := 17) rfl rfl ?_
      refine R_zreturn rfl rfl (by first | exact Or.inl rfl | exact Or.inr rfl | assumption) ?_
      refine ⟨congrArg some (congrArg Value.int ?_), rfl⟩
      first | exact (zb_t (by (try simp only [i_lt, i_le, i_eq, i_0, ik_0, ik_1, ik_2, ik_3, ik_4, ik_5, ik_6, ik_7, ik_8, ik_9, ik_10, ik_11, ik_12, ik_13, ik_14, ik_15, ik_16, ik_17, ik_18, ik_19, ik_20, ik_21, ik_22, ik_23, ik_24, ik_25, ik_26, ik_27, ik_28, ik_29, ik_30, ik_31, ik_32, ik_33, ik_34, ik_35, ik_36, ik_127, ik_128, ik_200, ik_201, ik_255, ik_256, ik_272, ik_289, ik_400, ik_512] at *) <;> omega)).symm | exact (zb_f (by (try simp only [i_lt, i_le, i_eq, i_0, ik_0, ik_1, ik_2, ik_3, ik_4, ik_5, ik_6, ik_7, ik_8, ik_9, ik_10, ik_11, ik_12, ik_13, ik_14, ik_15, ik_16, ik_17, ik_18, ik_19, ik_20, ik_21, ik_22, ik_23, ik_24, ik_25, ik_26, ik_27, ik_28, ik_29, ik_30, ik_31, ik_32, ik_33, ik_34, ik_35, ik_36, ik_127, ik_128, ik_200, ik_201, ik_255, ik_256, ik_272, ik_289, ik_400, ik_512] at *) <;> omega)).symm
theorem c95 {i : Int32} (h : TP M a n p) : mm_R S (d + 1) 95 0 (mm_en 95 [.ref a, .int i]) [] M (fun v M' => v = some (.int (if 0 ≤ i.toInt ∧ i.toInt < n then p i.toNatClampNeg else nI 0)) ∧ M' = M) := by
  have hh := h
  obtain ⟨h1, h2, h3⟩ := h
  show mm_R S (d + 1) 95 0 [some (.ref a), some (.int i)] [] M _
  refine R_aload_n (q := 1) rfl rfl rfl ?_
  refine R_iload_n (q := 2) rfl rfl rfl ?_
  refine R_callv1 (q := 5) rfl rfl rfl rfl (by first | assumption | exact mm_pe | (rw [mm_pn (by omega)]; first | assumption | exact mm_pe | (rw [mm_pn (by omega)]; first | assumption | exact mm_pe | (rw [mm_pn (by omega)]; first | assumption | exact mm_pe | (rw [mm_pn (by omega)]; first | assumption | exact mm_pe | (rw [mm_pn (by omega)]; first | assumption | exact mm_pe)))))) (Nat.le_of_ble_eq_true rfl) rfl ?_
  refine R_mono (c94 hh) (fun v2 M2 hr2 => ?_)
  obtain ⟨rfl, hm2⟩ := hr2
  rw [hm2]
  dsimp only [Option.toList, List.cons_append, List.nil_append]
  refine R_if_eq (q := 8) (t := 17) rfl rfl rfl (fun h5 => ?_) (fun h5 => ?_)
  · have hc := of_decide_eq_false (zb_eq0.mp h5)
    refine R_iconst (q := 18) (v := nI 0) rfl rfl (by decide) ?_
    refine R_ireturn rfl rfl ?_
    refine ⟨congrArg some (congrArg Value.int ?_), rfl⟩
    first | exact (if_pos hc).symm | exact (if_neg hc).symm
  · have hc := of_decide_eq_true (zb_ne0.mp h5)
    refine R_aload_n (q := 9) rfl rfl rfl ?_
    refine R_getf (q := 12) rfl rfl rfl (by first | assumption | exact mm_pe | (rw [mm_pn (by omega)]; first | assumption | exact mm_pe | (rw [mm_pn (by omega)]; first | assumption | exact mm_pe | (rw [mm_pn (by omega)]; first | assumption | exact mm_pe | (rw [mm_pn (by omega)]; first | assumption | exact mm_pe | (rw [mm_pn (by omega)]; first | assumption | exact mm_pe)))))) rfl ?_
    refine R_iload_n (q := 13) rfl rfl rfl ?_
    refine R_iaload (q := 14) rfl rfl (by first | assumption | exact mm_pe | (rw [mm_pn (by omega)]; first | assumption | exact mm_pe | (rw [mm_pn (by omega)]; first | assumption | exact mm_pe | (rw [mm_pn (by omega)]; first | assumption | exact mm_pe | (rw [mm_pn (by omega)]; first | assumption | exact mm_pe | (rw [mm_pn (by omega)]; first | assumption | exact mm_pe)))))) (by omega) (vp_in_iff.mpr (by omega)) ?_
    refine R_goto (t := 18) rfl rfl ?_
    refine R_ireturn rfl rfl ?_
    refine ⟨congrArg some (congrArg Value.int ?_), rfl⟩
    first | exact (if_pos hc).symm | exact (if_neg hc).symm
theorem c96_full {x : Int32} (h : TP M a n p) (hn : n = 400) : mm_R S d 96 0 (mm_en 96 [.ref a, .int x]) [] M (fun v M' => v = some (.int (nI 0)) ∧ M' = M) := by
  obtain ⟨h1, h2, h3⟩ := h
  subst hn
  show mm_R S d 96 0 [some (.ref a), some (.int x)] [] M _
  refine R_aload_n (q := 1) rfl rfl rfl ?_
  refine R_getf (q := 4) rfl rfl rfl (by first | assumption | exact mm_pe | (rw [mm_pn (by omega)]; first | assumption | exact mm_pe | (rw [mm_pn (by omega)]; first | assumption | exact mm_pe | (rw [mm_pn (by omega)]; first | assumption | exact mm_pe | (rw [mm_pn (by omega)]; first | assumption | exact mm_pe | (rw [mm_pn (by omega)]; first | assumption | exact mm_pe)))))) rfl ?_
  refine R_sipush (q := 7) (v := nI 400) rfl rfl (by decide) ?_
  refine R_icmp_lt (q := 10) (t := 12) rfl rfl rfl (fun h7 => absurd h7 (by decide)) (fun h7 => ?_)
  refine R_iconst (q := 11) (v := nI 0) rfl rfl (by decide) ?_
  refine R_zreturn rfl rfl (by first | exact Or.inl rfl | exact Or.inr rfl | assumption) ?_
  exact ⟨rfl, rfl⟩
theorem c96 {x : Int32} (h : TP M a n p) (hn : n < 400) : mm_R S d 96 0 (mm_en 96 [.ref a, .int x]) [] M (fun v M' => v = some (.int (nI 1)) ∧ M' = mm_put (mm_put M (a + 1) (.inl (0, 400, .inl (upd p n x)))) a (.inr (8, [.ref (a + 1), .int (nI (n + 1))]))) := by
  obtain ⟨h1, h2, h3⟩ := h
  show mm_R S d 96 0 [some (.ref a), some (.int x)] [] M _
  refine R_aload_n (q := 1) rfl rfl rfl ?_
  refine R_getf (q := 4) rfl rfl rfl (by first | assumption | exact mm_pe | (rw [mm_pn (by omega)]; first | assumption | exact mm_pe | (rw [mm_pn (by omega)]; first | assumption | exact mm_pe | (rw [mm_pn (by omega)]; first | assumption | exact mm_pe | (rw [mm_pn (by omega)]; first | assumption | exact mm_pe | (rw [mm_pn (by omega)]; first | assumption | exact mm_pe)))))) rfl ?_
  refine R_sipush (q := 7) (v := nI 400) rfl rfl (by decide) ?_
  refine R_icmp_lt (q := 10) (t := 12) rfl rfl rfl (fun h7 => ?_) (fun h7 => absurd (nI_lt hn (by decide)) h7)
  refine R_aload_n (q := 13) rfl rfl rfl ?_
  refine R_getf (q := 16) rfl rfl rfl (by first | assumption | exact mm_pe | (rw [mm_pn (by omega)]; first | assumption | exact mm_pe | (rw [mm_pn (by omega)]; first | assumption | exact mm_pe | (rw [mm_pn (by omega)]; first | assumption | exact mm_pe | (rw [mm_pn (by omega)]; first | assumption | exact mm_pe | (rw [mm_pn (by omega)]; first | assumption | exact mm_pe)))))) rfl ?_
  refine R_aload_n (q := 17) rfl rfl rfl ?_
  refine R_getf (q := 20) rfl rfl rfl (by first | assumption | exact mm_pe | (rw [mm_pn (by omega)]; first | assumption | exact mm_pe | (rw [mm_pn (by omega)]; first | assumption | exact mm_pe | (rw [mm_pn (by omega)]; first | assumption | exact mm_pe | (rw [mm_pn (by omega)]; first | assumption | exact mm_pe | (rw [mm_pn (by omega)]; first | assumption | exact mm_pe)))))) rfl ?_
  refine R_iload_n (q := 21) rfl rfl rfl ?_
  refine R_iastore (q := 22) rfl rfl (by first | assumption | exact mm_pe | (rw [mm_pn (by omega)]; first | assumption | exact mm_pe | (rw [mm_pn (by omega)]; first | assumption | exact mm_pe | (rw [mm_pn (by omega)]; first | assumption | exact mm_pe | (rw [mm_pn (by omega)]; first | assumption | exact mm_pe | (rw [mm_pn (by omega)]; first | assumption | exact mm_pe)))))) (by first | assumption | exact in_nI (by omega) (by decide)) ?_
  rw [cl_nI (by omega)]
  refine R_aload_n (q := 23) rfl rfl rfl ?_
  first | refine R_dupa (q := 24) rfl rfl ?_ | refine R_dupi (q := 24) rfl rfl ?_
  refine R_getf (q := 27) rfl rfl rfl (by first | assumption | exact mm_pe | (rw [mm_pn (by omega)]; first | assumption | exact mm_pe | (rw [mm_pn (by omega)]; first | assumption | exact mm_pe | (rw [mm_pn (by omega)]; first | assumption | exact mm_pe | (rw [mm_pn (by omega)]; first | assumption | exact mm_pe | (rw [mm_pn (by omega)]; first | assumption | exact mm_pe)))))) rfl ?_
  refine R_iconst (q := 28) (v := nI 1) rfl rfl (by decide) ?_
  refine R_iadd (q := 29) rfl rfl ?_
  rw [nI_add]
  refine R_putf (q := 32) rfl rfl rfl (by first | assumption | exact mm_pe | (rw [mm_pn (by omega)]; first | assumption | exact mm_pe | (rw [mm_pn (by omega)]; first | assumption | exact mm_pe | (rw [mm_pn (by omega)]; first | assumption | exact mm_pe | (rw [mm_pn (by omega)]; first | assumption | exact mm_pe | (rw [mm_pn (by omega)]; first | assumption | exact mm_pe)))))) (Nat.le_of_ble_eq_true rfl) rfl (fun hf => absurd hf (by decide)) rfl ?_
  dsimp only [List.set]
  refine R_iconst (q := 33) (v := nI 1) rfl rfl (by decide) ?_
  refine R_zreturn rfl rfl (by first | exact Or.inl rfl | exact Or.inr rfl | assumption) ?_
  exact ⟨rfl, rfl⟩
theorem c97 (h : TP M a n p) (hb : TP M b n2 p2) (hab : a + 1 < b ∨ b + 1 < a) : mm_R S d 97 0 (mm_en 97 [.ref a, .ref b]) [] M (fun v M' => v = none ∧ M' = (mm_put (mm_put M a (.inr (8, [.ref (a + 1), .int (nI n2)]))) (a + 1) (.inl (0, 400, .inl (ifl p2 p n2))))) := by
  obtain ⟨h1, h2, h3⟩ := h
  obtain ⟨b1, b2, b3⟩ := hb
  show mm_R S d 97 0 [some (.ref a), some (.ref b), none] [] M _
  refine R_aload_n (q := 1) rfl rfl rfl ?_
  refine R_aload_n (q := 2) rfl rfl rfl ?_
  refine R_getf (q := 5) rfl rfl rfl (by first | assumption | exact mm_pe | (rw [mm_pn (by omega)]; first | assumption | exact mm_pe | (rw [mm_pn (by omega)]; first | assumption | exact mm_pe | (rw [mm_pn (by omega)]; first | assumption | exact mm_pe | (rw [mm_pn (by omega)]; first | assumption | exact mm_pe | (rw [mm_pn (by omega)]; first | assumption | exact mm_pe)))))) rfl ?_
  refine R_putf (q := 8) rfl rfl rfl (by first | assumption | exact mm_pe | (rw [mm_pn (by omega)]; first | assumption | exact mm_pe | (rw [mm_pn (by omega)]; first | assumption | exact mm_pe | (rw [mm_pn (by omega)]; first | assumption | exact mm_pe | (rw [mm_pn (by omega)]; first | assumption | exact mm_pe | (rw [mm_pn (by omega)]; first | assumption | exact mm_pe)))))) (Nat.le_of_ble_eq_true rfl) rfl (fun hf => absurd hf (by decide)) rfl ?_
  dsimp only [List.set]
  refine R_iconst (q := 9) (v := nI 0) rfl rfl (by decide) ?_
  refine R_istore_n (q := 10) rfl rfl (Nat.le_of_ble_eq_true rfl) rfl ?_
  dsimp only [List.set]
  refine R_atM (M' := (mm_put (mm_put M a (.inr (8, [.ref (a + 1), .int (nI n2)]))) (a + 1) (.inl (0, 400, .inl (ifl p2 p 0))))) (by rw [ifl_0]; exact mm_pself (by rw [mm_pn (by omega)]; exact h2)) ?_
  refine lpN (fun j => mm_R S d 97 10 [some (.ref a), some (.ref b), some (.int (nI j))] [] (mm_put (mm_put M a (.inr (8, [.ref (a + 1), .int (nI n2)]))) (a + 1) (.inl (0, 400, .inl (ifl p2 p j)))) (fun v M' => v = none ∧ M' = (mm_put (mm_put M a (.inr (8, [.ref (a + 1), .int (nI n2)]))) (a + 1) (.inl (0, 400, .inl (ifl p2 p n2)))))) n2 (fun j hj ih => ?_) ?_ 0 (Nat.zero_le _)
  · have hji := in_nI (n := 400) (show j < 400 by omega) (by decide)
    refine R_iload_n (q := 11) rfl rfl rfl ?_
    refine R_aload_n (q := 12) rfl rfl rfl ?_
    refine R_getf (q := 15) rfl rfl rfl (by first | assumption | exact mm_pe | (rw [mm_pn (by omega)]; first | assumption | exact mm_pe | (rw [mm_pn (by omega)]; first | assumption | exact mm_pe | (rw [mm_pn (by omega)]; first | assumption | exact mm_pe | (rw [mm_pn (by omega)]; first | assumption | exact mm_pe | (rw [mm_pn (by omega)]; first | assumption | exact mm_pe)))))) rfl ?_
    refine R_icmp_ge (q := 18) (t := 36) rfl rfl rfl (fun h15 => absurd h15 (nI_ge hj (by omega))) (fun h15 => ?_)
    refine R_aload_n (q := 19) rfl rfl rfl ?_
    refine R_getf (q := 22) rfl rfl rfl (by first | assumption | exact mm_pe | (rw [mm_pn (by omega)]; first | assumption | exact mm_pe | (rw [mm_pn (by omega)]; first | assumption | exact mm_pe | (rw [mm_pn (by omega)]; first | assumption | exact mm_pe | (rw [mm_pn (by omega)]; first | assumption | exact mm_pe | (rw [mm_pn (by omega)]; first | assumption | exact mm_pe)))))) rfl ?_
    refine R_iload_n (q := 23) rfl rfl rfl ?_
    refine R_aload_n (q := 24) rfl rfl rfl ?_
    refine R_getf (q := 27) rfl rfl rfl (by first | assumption | exact mm_pe | (rw [mm_pn (by omega)]; first | assumption | exact mm_pe | (rw [mm_pn (by omega)]; first | assumption | exact mm_pe | (rw [mm_pn (by omega)]; first | assumption | exact mm_pe | (rw [mm_pn (by omega)]; first | assumption | exact mm_pe | (rw [mm_pn (by omega)]; first | assumption | exact mm_pe)))))) rfl ?_
    refine R_iload_n (q := 28) rfl rfl rfl ?_
    refine R_iaload (q := 29) rfl rfl (by first | assumption | exact mm_pe | (rw [mm_pn (by omega)]; first | assumption | exact mm_pe | (rw [mm_pn (by omega)]; first | assumption | exact mm_pe | (rw [mm_pn (by omega)]; first | assumption | exact mm_pe | (rw [mm_pn (by omega)]; first | assumption | exact mm_pe | (rw [mm_pn (by omega)]; first | assumption | exact mm_pe)))))) (by omega) (by first | assumption | exact in_nI (by omega) (by decide)) ?_
    refine R_iastore (q := 30) rfl rfl (by first | assumption | exact mm_pe | (rw [mm_pn (by omega)]; first | assumption | exact mm_pe | (rw [mm_pn (by omega)]; first | assumption | exact mm_pe | (rw [mm_pn (by omega)]; first | assumption | exact mm_pe | (rw [mm_pn (by omega)]; first | assumption | exact mm_pe | (rw [mm_pn (by omega)]; first | assumption | exact mm_pe)))))) (by first | assumption | exact in_nI (by omega) (by decide)) ?_
    refine R_iinc (q := 33) rfl rfl rfl (nI_i1 j) rfl ?_
    dsimp only [List.set]
    refine R_goto (t := 10) rfl rfl ?_
    refine R_atM ?_ ih
    rw [mm_pp, cl_nI (by omega)]
    exact (congrArg (fun z => mm_put (mm_put M a (.inr (8, [.ref (a + 1), .int (nI n2)]))) (a + 1) (.inl (0, 400, .inl z))) (ifl_s (n := p2))).symm
  · refine R_iload_n (q := 11) rfl rfl rfl ?_
    refine R_aload_n (q := 12) rfl rfl rfl ?_
    refine R_getf (q := 15) rfl rfl rfl (by first | assumption | exact mm_pe | (rw [mm_pn (by omega)]; first | assumption | exact mm_pe | (rw [mm_pn (by omega)]; first | assumption | exact mm_pe | (rw [mm_pn (by omega)]; first | assumption | exact mm_pe | (rw [mm_pn (by omega)]; first | assumption | exact mm_pe | (rw [mm_pn (by omega)]; first | assumption | exact mm_pe)))))) rfl ?_
    refine R_icmp_ge (q := 18) (t := 36) rfl rfl rfl (fun h15 => ?_) (fun h15 => absurd (nI_le (Nat.le_refl _) (by omega)) h15)
    refine R_return rfl rfl ?_
    exact ⟨rfl, rfl⟩
theorem c69 (h : OL M a n px py) : mm_R S d 69 0 (mm_en 69 [.ref a]) [] M (fun v M' => v = none ∧ M' = mm_put M a (.inr (5, [.ref (a + 1), .ref (a + 2), .int (nI 0)]))) := by
  obtain ⟨h1, h2, h3, h4⟩ := h
  show mm_R S d 69 0 [some (.ref a)] [] M _
  refine R_aload_n (q := 1) rfl rfl rfl ?_
  refine R_iconst (q := 2) (v := nI 0) rfl rfl (by decide) ?_
  refine R_putf (q := 5) rfl rfl rfl (by first | assumption | exact mm_pe | (rw [mm_pn (by omega)]; first | assumption | exact mm_pe | (rw [mm_pn (by omega)]; first | assumption | exact mm_pe | (rw [mm_pn (by omega)]; first | assumption | exact mm_pe | (rw [mm_pn (by omega)]; first | assumption | exact mm_pe | (rw [mm_pn (by omega)]; first | assumption | exact mm_pe)))))) (Nat.le_of_ble_eq_true rfl) rfl (fun hf => absurd hf (by decide)) rfl ?_
  dsimp only [List.set]
  refine R_return rfl rfl ?_
  exact ⟨rfl, rfl⟩
def ptok (n : Nat) (x y : Int32) : Prop := n < 24 ∧ (0 ≤ x.toInt ∧ x.toInt ≤ 16) ∧ 0 ≤ y.toInt ∧ y.toInt ≤ 16
theorem c68_no {x y : Int32} (h : OL M a n px py) (hp : ¬ ptok n x y) : mm_R S d 68 0 (mm_en 68 [.ref a, .int x, .int y]) [] M (fun v M' => v = some (.int (nI 0)) ∧ M' = M) := by
  obtain ⟨h1, h2, h3, h4⟩ := h
  have hnn := i_n n (by omega)
  unfold ptok at hp
  show mm_R S d 68 0 [some (.ref a), some (.int x), some (.int y)] [] M _
  refine R_aload_n (q := 1) rfl rfl rfl ?_
  refine R_getf (q := 4) rfl rfl rfl (by first | assumption | exact mm_pe | (rw [mm_pn (by omega)]; first | assumption | exact mm_pe | (rw [mm_pn (by omega)]; first | assumption | exact mm_pe | (rw [mm_pn (by omega)]; first | assumption | exact mm_pe | (rw [mm_pn (by omega)]; first | assumption | exact mm_pe | (rw [mm_pn (by omega)]; first | assumption | exact mm_pe)))))) rfl ?_
  refine R_bipush (q := 6) (v := nI 24) rfl rfl (by decide) ?_
  refine R_icmp_ge (q := 9) (t := 29) rfl rfl rfl (fun h6 => ?_) (fun h6 => ?_)
  · refine R_iconst (q := 30) (v := nI 0) rfl rfl (by decide) ?_
    refine R_zreturn rfl rfl (by first | exact Or.inl rfl | exact Or.inr rfl | assumption) ?_
    exact ⟨rfl, rfl⟩
  · refine R_iload_n (q := 10) rfl rfl rfl ?_
    refine R_if_lt (q := 13) (t := 29) rfl rfl rfl (fun h10 => ?_) (fun h10 => ?_)
    · refine R_iconst (q := 30) (v := nI 0) rfl rfl (by decide) ?_
      refine R_zreturn rfl rfl (by first | exact Or.inl rfl | exact Or.inr rfl | assumption) ?_
      exact ⟨rfl, rfl⟩
    · refine R_iload_n (q := 14) rfl rfl rfl ?_
      refine R_bipush (q := 16) (v := nI 16) rfl rfl (by decide) ?_
      refine R_icmp_gt (q := 19) (t := 29) rfl rfl rfl (fun h16 => ?_) (fun h16 => ?_)
      · refine R_iconst (q := 30) (v := nI 0) rfl rfl (by decide) ?_
        refine R_zreturn rfl rfl (by first | exact Or.inl rfl | exact Or.inr rfl | assumption) ?_
        exact ⟨rfl, rfl⟩
      · refine R_iload_n (q := 20) rfl rfl rfl ?_
        refine R_if_lt (q := 23) (t := 29) rfl rfl rfl (fun h20 => ?_) (fun h20 => ?_)
        · refine R_iconst (q := 30) (v := nI 0) rfl rfl (by decide) ?_
          refine R_zreturn rfl rfl (by first | exact Or.inl rfl | exact Or.inr rfl | assumption) ?_
          exact ⟨rfl, rfl⟩
        · refine R_iload_n (q := 24) rfl rfl rfl ?_
          refine R_bipush (q := 26) (v := nI 16) rfl rfl (by decide) ?_
          refine R_icmp_le (q := 29) (t := 31) rfl rfl rfl (fun h26 => ?_) (fun h26 => ?_)
          · exact absurd (by (try simp only [i_lt, i_le, i_eq, i_0, ik_0, ik_1, ik_2, ik_3, ik_4, ik_5, ik_6, ik_7, ik_8, ik_9, ik_10, ik_11, ik_12, ik_13, ik_14, ik_15, ik_16, ik_17, ik_18, ik_19, ik_20, ik_21, ik_22, ik_23, ik_24, ik_25, ik_26, ik_27, ik_28, ik_29, ik_30, ik_31, ik_32, ik_33, ik_34, ik_35, ik_36, ik_127, ik_128, ik_200, ik_201, ik_255, ik_256, ik_272, ik_289, ik_400, ik_512] at *) <;> omega) hp
          · refine R_iconst (q := 30) (v := nI 0) rfl rfl (by decide) ?_
            refine R_zreturn rfl rfl (by first | exact Or.inl rfl | exact Or.inr rfl | assumption) ?_
            exact ⟨rfl, rfl⟩
theorem c68 {x y : Int32} (h : OL M a n px py) (hp : ptok n x y) : mm_R S d 68 0 (mm_en 68 [.ref a, .int x, .int y]) [] M (fun v M' => v = some (.int (nI 1)) ∧ M' = mm_put (mm_put (mm_put M (a + 1) (.inl (0, 24, .inl (upd px n x)))) (a + 2) (.inl (0, 24, .inl (upd py n y)))) a (.inr (5, [.ref (a + 1), .ref (a + 2), .int (nI (n + 1))]))) := by
  obtain ⟨h1, h2, h3, h4⟩ := h
  have hnn := i_n n (by omega)
  obtain ⟨hp1, hp2, hp3⟩ := hp
  show mm_R S d 68 0 [some (.ref a), some (.int x), some (.int y)] [] M _
  refine R_aload_n (q := 1) rfl rfl rfl ?_
  refine R_getf (q := 4) rfl rfl rfl (by first | assumption | exact mm_pe | (rw [mm_pn (by omega)]; first | assumption | exact mm_pe | (rw [mm_pn (by omega)]; first | assumption | exact mm_pe | (rw [mm_pn (by omega)]; first | assumption | exact mm_pe | (rw [mm_pn (by omega)]; first | assumption | exact mm_pe | (rw [mm_pn (by omega)]; first | assumption | exact mm_pe)))))) rfl ?_
  refine R_bipush (q := 6) (v := nI 24) rfl rfl (by decide) ?_
  refine R_icmp_ge (q := 9) (t := 29) rfl rfl rfl (fun h6 => absurd h6 (nI_ge hp1 (by decide))) (fun h6 => ?_)
  refine R_iload_n (q := 10) rfl rfl rfl ?_
  refine R_if_lt (q := 13) (t := 29) rfl rfl rfl (fun h10 => absurd h10 (by (try simp only [i_lt, i_le, i_eq, i_0, ik_0, ik_1, ik_2, ik_3, ik_4, ik_5, ik_6, ik_7, ik_8, ik_9, ik_10, ik_11, ik_12, ik_13, ik_14, ik_15, ik_16, ik_17, ik_18, ik_19, ik_20, ik_21, ik_22, ik_23, ik_24, ik_25, ik_26, ik_27, ik_28, ik_29, ik_30, ik_31, ik_32, ik_33, ik_34, ik_35, ik_36, ik_127, ik_128, ik_200, ik_201, ik_255, ik_256, ik_272, ik_289, ik_400, ik_512] at *) <;> omega)) (fun h10 => ?_)
  refine R_iload_n (q := 14) rfl rfl rfl ?_
  refine R_bipush (q := 16) (v := nI 16) rfl rfl (by decide) ?_
  refine R_icmp_gt (q := 19) (t := 29) rfl rfl rfl (fun h16 => absurd h16 (by (try simp only [i_lt, i_le, i_eq, i_0, ik_0, ik_1, ik_2, ik_3, ik_4, ik_5, ik_6, ik_7, ik_8, ik_9, ik_10, ik_11, ik_12, ik_13, ik_14, ik_15, ik_16, ik_17, ik_18, ik_19, ik_20, ik_21, ik_22, ik_23, ik_24, ik_25, ik_26, ik_27, ik_28, ik_29, ik_30, ik_31, ik_32, ik_33, ik_34, ik_35, ik_36, ik_127, ik_128, ik_200, ik_201, ik_255, ik_256, ik_272, ik_289, ik_400, ik_512] at *) <;> omega)) (fun h16 => ?_)
  refine R_iload_n (q := 20) rfl rfl rfl ?_
  refine R_if_lt (q := 23) (t := 29) rfl rfl rfl (fun h20 => absurd h20 (by (try simp only [i_lt, i_le, i_eq, i_0, ik_0, ik_1, ik_2, ik_3, ik_4, ik_5, ik_6, ik_7, ik_8, ik_9, ik_10, ik_11, ik_12, ik_13, ik_14, ik_15, ik_16, ik_17, ik_18, ik_19, ik_20, ik_21, ik_22, ik_23, ik_24, ik_25, ik_26, ik_27, ik_28, ik_29, ik_30, ik_31, ik_32, ik_33, ik_34, ik_35, ik_36, ik_127, ik_128, ik_200, ik_201, ik_255, ik_256, ik_272, ik_289, ik_400, ik_512] at *) <;> omega)) (fun h20 => ?_)
  refine R_iload_n (q := 24) rfl rfl rfl ?_
  refine R_bipush (q := 26) (v := nI 16) rfl rfl (by decide) ?_
  refine R_icmp_le (q := 29) (t := 31) rfl rfl rfl (fun h26 => ?_) (fun h26 => absurd (by (try simp only [i_lt, i_le, i_eq, i_0, ik_0, ik_1, ik_2, ik_3, ik_4, ik_5, ik_6, ik_7, ik_8, ik_9, ik_10, ik_11, ik_12, ik_13, ik_14, ik_15, ik_16, ik_17, ik_18, ik_19, ik_20, ik_21, ik_22, ik_23, ik_24, ik_25, ik_26, ik_27, ik_28, ik_29, ik_30, ik_31, ik_32, ik_33, ik_34, ik_35, ik_36, ik_127, ik_128, ik_200, ik_201, ik_255, ik_256, ik_272, ik_289, ik_400, ik_512] at *) <;> omega) h26)
  refine R_aload_n (q := 32) rfl rfl rfl ?_
  refine R_getf (q := 35) rfl rfl rfl (by first | assumption | exact mm_pe | (rw [mm_pn (by omega)]; first | assumption | exact mm_pe | (rw [mm_pn (by omega)]; first | assumption | exact mm_pe | (rw [mm_pn (by omega)]; first | assumption | exact mm_pe | (rw [mm_pn (by omega)]; first | assumption | exact mm_pe | (rw [mm_pn (by omega)]; first | assumption | exact mm_pe)))))) rfl ?_
  refine R_aload_n (q := 36) rfl rfl rfl ?_
  refine R_getf (q := 39) rfl rfl rfl (by first | assumption | exact mm_pe | (rw [mm_pn (by omega)]; first | assumption | exact mm_pe | (rw [mm_pn (by omega)]; first | assumption | exact mm_pe | (rw [mm_pn (by omega)]; first | assumption | exact mm_pe | (rw [mm_pn (by omega)]; first | assumption | exact mm_pe | (rw [mm_pn (by omega)]; first | assumption | exact mm_pe)))))) rfl ?_
  refine R_iload_n (q := 40) rfl rfl rfl ?_
  refine R_iastore (q := 41) rfl rfl (by first | assumption | exact mm_pe | (rw [mm_pn (by omega)]; first | assumption | exact mm_pe | (rw [mm_pn (by omega)]; first | assumption | exact mm_pe | (rw [mm_pn (by omega)]; first | assumption | exact mm_pe | (rw [mm_pn (by omega)]; first | assumption | exact mm_pe | (rw [mm_pn (by omega)]; first | assumption | exact mm_pe)))))) (by first | assumption | exact in_nI (by omega) (by decide)) ?_
  rw [cl_nI (by omega)]
  refine R_aload_n (q := 42) rfl rfl rfl ?_
  refine R_getf (q := 45) rfl rfl rfl (by first | assumption | exact mm_pe | (rw [mm_pn (by omega)]; first | assumption | exact mm_pe | (rw [mm_pn (by omega)]; first | assumption | exact mm_pe | (rw [mm_pn (by omega)]; first | assumption | exact mm_pe | (rw [mm_pn (by omega)]; first | assumption | exact mm_pe | (rw [mm_pn (by omega)]; first | assumption | exact mm_pe)))))) rfl ?_
  refine R_aload_n (q := 46) rfl rfl rfl ?_
  refine R_getf (q := 49) rfl rfl rfl (by first | assumption | exact mm_pe | (rw [mm_pn (by omega)]; first | assumption | exact mm_pe | (rw [mm_pn (by omega)]; first | assumption | exact mm_pe | (rw [mm_pn (by omega)]; first | assumption | exact mm_pe | (rw [mm_pn (by omega)]; first | assumption | exact mm_pe | (rw [mm_pn (by omega)]; first | assumption | exact mm_pe)))))) rfl ?_
  refine R_iload_n (q := 50) rfl rfl rfl ?_
  refine R_iastore (q := 51) rfl rfl (by first | assumption | exact mm_pe | (rw [mm_pn (by omega)]; first | assumption | exact mm_pe | (rw [mm_pn (by omega)]; first | assumption | exact mm_pe | (rw [mm_pn (by omega)]; first | assumption | exact mm_pe | (rw [mm_pn (by omega)]; first | assumption | exact mm_pe | (rw [mm_pn (by omega)]; first | assumption | exact mm_pe)))))) (by first | assumption | exact in_nI (by omega) (by decide)) ?_
  rw [cl_nI (by omega)]
  refine R_aload_n (q := 52) rfl rfl rfl ?_
  first | refine R_dupa (q := 53) rfl rfl ?_ | refine R_dupi (q := 53) rfl rfl ?_
  refine R_getf (q := 56) rfl rfl rfl (by first | assumption | exact mm_pe | (rw [mm_pn (by omega)]; first | assumption | exact mm_pe | (rw [mm_pn (by omega)]; first | assumption | exact mm_pe | (rw [mm_pn (by omega)]; first | assumption | exact mm_pe | (rw [mm_pn (by omega)]; first | assumption | exact mm_pe | (rw [mm_pn (by omega)]; first | assumption | exact mm_pe)))))) rfl ?_
  refine R_iconst (q := 57) (v := nI 1) rfl rfl (by decide) ?_
  refine R_iadd (q := 58) rfl rfl ?_
  rw [nI_add]
  refine R_putf (q := 61) rfl rfl rfl (by first | assumption | exact mm_pe | (rw [mm_pn (by omega)]; first | assumption | exact mm_pe | (rw [mm_pn (by omega)]; first | assumption | exact mm_pe | (rw [mm_pn (by omega)]; first | assumption | exact mm_pe | (rw [mm_pn (by omega)]; first | assumption | exact mm_pe | (rw [mm_pn (by omega)]; first | assumption | exact mm_pe)))))) (Nat.le_of_ble_eq_true rfl) rfl (fun hf => absurd hf (by decide)) rfl ?_
  dsimp only [List.set]
  refine R_iconst (q := 62) (v := nI 1) rfl rfl (by decide) ?_
  refine R_zreturn rfl rfl (by first | exact Or.inl rfl | exact Or.inr rfl | assumption) ?_
  exact ⟨rfl, rfl⟩
def aft (n j : Nat) : Nat := if j + 1 < n then j + 1 else 0
theorem c72 {j : Nat} (h : OL M a n px py) (hj : j < 24) : mm_R S d 72 0 (mm_en 72 [.ref a, .int (nI j)]) [] M (fun v M' => v = some (.int (nI (aft n j))) ∧ M' = M) := by
  obtain ⟨h1, h2, h3, h4⟩ := h
  unfold aft
  show mm_R S d 72 0 [some (.ref a), some (.int (nI j))] [] M _
  refine R_iload_n (q := 1) rfl rfl rfl ?_
  refine R_iconst (q := 2) (v := nI 1) rfl rfl (by decide) ?_
  refine R_iadd (q := 3) rfl rfl ?_
  rw [nI_add]
  refine R_aload_n (q := 4) rfl rfl rfl ?_
  refine R_getf (q := 7) rfl rfl rfl (by first | assumption | exact mm_pe | (rw [mm_pn (by omega)]; first | assumption | exact mm_pe | (rw [mm_pn (by omega)]; first | assumption | exact mm_pe | (rw [mm_pn (by omega)]; first | assumption | exact mm_pe | (rw [mm_pn (by omega)]; first | assumption | exact mm_pe | (rw [mm_pn (by omega)]; first | assumption | exact mm_pe)))))) rfl ?_
  refine R_icmp_ge (q := 10) (t := 16) rfl rfl rfl (fun h7 => ?_) (fun h7 => ?_)
  · refine R_iconst (q := 17) (v := nI 0) rfl rfl (by decide) ?_
    refine R_ireturn rfl rfl ?_
    refine ⟨congrArg some (congrArg Value.int ?_), rfl⟩
    by_cases hc : j + 1 < n
    · first | exact (congrArg nI (if_pos hc)).symm | exact absurd h7 (nI_ge hc (by omega))
    · first | exact (congrArg nI (if_neg hc)).symm | exact absurd (nI_le (Nat.not_lt.mp hc) (by omega)) h7
  · refine R_iload_n (q := 11) rfl rfl rfl ?_
    refine R_iconst (q := 12) (v := nI 1) rfl rfl (by decide) ?_
    refine R_iadd (q := 13) rfl rfl ?_
    rw [nI_add]
    refine R_goto (t := 17) rfl rfl ?_
    refine R_ireturn rfl rfl ?_
    refine ⟨congrArg some (congrArg Value.int ?_), rfl⟩
    by_cases hc : j + 1 < n
    · first | exact (congrArg nI (if_pos hc)).symm | exact absurd h7 (nI_ge hc (by omega))
    · first | exact (congrArg nI (if_neg hc)).symm | exact absurd (nI_le (Nat.not_lt.mp hc) (by omega)) h7
theorem c73 {j : Nat} (h : OL M a n px py) (hj : j < n) : mm_R S (d + 1) 73 0 (mm_en 73 [.ref a, .int (nI j)]) [] M (fun v M' => v = some (.int (zb (decide (¬ px j = px (aft n j))))) ∧ M' = M) := by
  have hh := h
  obtain ⟨h1, h2, h3, h4⟩ := h
  have haf : aft n j < 24 := by unfold aft; split <;> omega
  show mm_R S (d + 1) 73 0 [some (.ref a), some (.int (nI j))] [] M _
  refine R_aload_n (q := 1) rfl rfl rfl ?_
  refine R_getf (q := 4) rfl rfl rfl (by first | assumption | exact mm_pe | (rw [mm_pn (by omega)]; first | assumption | exact mm_pe | (rw [mm_pn (by omega)]; first | assumption | exact mm_pe | (rw [mm_pn (by omega)]; first | assumption | exact mm_pe | (rw [mm_pn (by omega)]; first | assumption | exact mm_pe | (rw [mm_pn (by omega)]; first | assumption | exact mm_pe)))))) rfl ?_
  refine R_iload_n (q := 5) rfl rfl rfl ?_
  refine R_iaload (q := 6) rfl rfl (by first | assumption | exact mm_pe | (rw [mm_pn (by omega)]; first | assumption | exact mm_pe | (rw [mm_pn (by omega)]; first | assumption | exact mm_pe | (rw [mm_pn (by omega)]; first | assumption | exact mm_pe | (rw [mm_pn (by omega)]; first | assumption | exact mm_pe | (rw [mm_pn (by omega)]; first | assumption | exact mm_pe)))))) (by omega) (by first | assumption | exact in_nI (by omega) (by decide)) ?_
  refine R_aload_n (q := 7) rfl rfl rfl ?_
  refine R_getf (q := 10) rfl rfl rfl (by first | assumption | exact mm_pe | (rw [mm_pn (by omega)]; first | assumption | exact mm_pe | (rw [mm_pn (by omega)]; first | assumption | exact mm_pe | (rw [mm_pn (by omega)]; first | assumption | exact mm_pe | (rw [mm_pn (by omega)]; first | assumption | exact mm_pe | (rw [mm_pn (by omega)]; first | assumption | exact mm_pe)))))) rfl ?_
  refine R_aload_n (q := 11) rfl rfl rfl ?_
  refine R_iload_n (q := 12) rfl rfl rfl ?_
  refine R_callv1 (q := 15) rfl rfl rfl rfl (by first | assumption | exact mm_pe | (rw [mm_pn (by omega)]; first | assumption | exact mm_pe | (rw [mm_pn (by omega)]; first | assumption | exact mm_pe | (rw [mm_pn (by omega)]; first | assumption | exact mm_pe | (rw [mm_pn (by omega)]; first | assumption | exact mm_pe | (rw [mm_pn (by omega)]; first | assumption | exact mm_pe)))))) (Nat.le_of_ble_eq_true rfl) rfl ?_
  refine R_mono (c72 hh (by omega)) (fun v12 M12 hr12 => ?_)
  obtain ⟨rfl, hm12⟩ := hr12
  rw [hm12]
  dsimp only [Option.toList, List.cons_append, List.nil_append]
  refine R_iaload (q := 16) rfl rfl (by first | assumption | exact mm_pe | (rw [mm_pn (by omega)]; first | assumption | exact mm_pe | (rw [mm_pn (by omega)]; first | assumption | exact mm_pe | (rw [mm_pn (by omega)]; first | assumption | exact mm_pe | (rw [mm_pn (by omega)]; first | assumption | exact mm_pe | (rw [mm_pn (by omega)]; first | assumption | exact mm_pe)))))) (by omega) (by first | assumption | exact in_nI (by omega) (by decide)) ?_
  rw [cl_nI (by omega), cl_nI (by omega)]
  refine R_icmp_eq (q := 19) (t := 23) rfl rfl rfl (fun h16 => ?_) (fun h16 => ?_)
  · refine R_iconst (q := 24) (v := nI 0) rfl rfl (by decide) ?_
    refine R_zreturn rfl rfl (by first | exact Or.inl rfl | exact Or.inr rfl | assumption) ?_
    refine ⟨congrArg some (congrArg Value.int ?_), rfl⟩
    first | exact (zb_t h16).symm | exact (zb_f (fun q => q h16)).symm
  · refine R_iconst (q := 20) (v := nI 1) rfl rfl (by decide) ?_
    refine R_goto (t := 24) rfl rfl ?_
    refine R_zreturn rfl rfl (by first | exact Or.inl rfl | exact Or.inr rfl | assumption) ?_
    refine ⟨congrArg some (congrArg Value.int ?_), rfl⟩
    first | exact (zb_t h16).symm | exact (zb_f (fun q => q h16)).symm
theorem c74 {j : Nat} (h : OL M a n px py) (hj : j < n) : mm_R S (d + 1) 74 0 (mm_en 74 [.ref a, .int (nI j)]) [] M (fun v M' => v = some (.int (zb (decide (¬ py j = py (aft n j))))) ∧ M' = M) := by
  have hh := h
  obtain ⟨h1, h2, h3, h4⟩ := h
  have haf : aft n j < 24 := by unfold aft; split <;> omega
  show mm_R S (d + 1) 74 0 [some (.ref a), some (.int (nI j))] [] M _
  refine R_aload_n (q := 1) rfl rfl rfl ?_
  refine R_getf (q := 4) rfl rfl rfl (by first | assumption | exact mm_pe | (rw [mm_pn (by omega)]; first | assumption | exact mm_pe | (rw [mm_pn (by omega)]; first | assumption | exact mm_pe | (rw [mm_pn (by omega)]; first | assumption | exact mm_pe | (rw [mm_pn (by omega)]; first | assumption | exact mm_pe | (rw [mm_pn (by omega)]; first | assumption | exact mm_pe)))))) rfl ?_
  refine R_iload_n (q := 5) rfl rfl rfl ?_
  refine R_iaload (q := 6) rfl rfl (by first | assumption | exact mm_pe | (rw [mm_pn (by omega)]; first | assumption | exact mm_pe | (rw [mm_pn (by omega)]; first | assumption | exact mm_pe | (rw [mm_pn (by omega)]; first | assumption | exact mm_pe | (rw [mm_pn (by omega)]; first | assumption | exact mm_pe | (rw [mm_pn (by omega)]; first | assumption | exact mm_pe)))))) (by omega) (by first | assumption | exact in_nI (by omega) (by decide)) ?_
  refine R_aload_n (q := 7) rfl rfl rfl ?_
  refine R_getf (q := 10) rfl rfl rfl (by first | assumption | exact mm_pe | (rw [mm_pn (by omega)]; first | assumption | exact mm_pe | (rw [mm_pn (by omega)]; first | assumption | exact mm_pe | (rw [mm_pn (by omega)]; first | assumption | exact mm_pe | (rw [mm_pn (by omega)]; first | assumption | exact mm_pe | (rw [mm_pn (by omega)]; first | assumption | exact mm_pe)))))) rfl ?_
  refine R_aload_n (q := 11) rfl rfl rfl ?_
  refine R_iload_n (q := 12) rfl rfl rfl ?_
  refine R_callv1 (q := 15) rfl rfl rfl rfl (by first | assumption | exact mm_pe | (rw [mm_pn (by omega)]; first | assumption | exact mm_pe | (rw [mm_pn (by omega)]; first | assumption | exact mm_pe | (rw [mm_pn (by omega)]; first | assumption | exact mm_pe | (rw [mm_pn (by omega)]; first | assumption | exact mm_pe | (rw [mm_pn (by omega)]; first | assumption | exact mm_pe)))))) (Nat.le_of_ble_eq_true rfl) rfl ?_
  refine R_mono (c72 hh (by omega)) (fun v12 M12 hr12 => ?_)
  obtain ⟨rfl, hm12⟩ := hr12
  rw [hm12]
  dsimp only [Option.toList, List.cons_append, List.nil_append]
  refine R_iaload (q := 16) rfl rfl (by first | assumption | exact mm_pe | (rw [mm_pn (by omega)]; first | assumption | exact mm_pe | (rw [mm_pn (by omega)]; first | assumption | exact mm_pe | (rw [mm_pn (by omega)]; first | assumption | exact mm_pe | (rw [mm_pn (by omega)]; first | assumption | exact mm_pe | (rw [mm_pn (by omega)]; first | assumption | exact mm_pe)))))) (by omega) (by first | assumption | exact in_nI (by omega) (by decide)) ?_
  rw [cl_nI (by omega), cl_nI (by omega)]
  refine R_icmp_eq (q := 19) (t := 23) rfl rfl rfl (fun h16 => ?_) (fun h16 => ?_)
  · refine R_iconst (q := 24) (v := nI 0) rfl rfl (by decide) ?_
    refine R_zreturn rfl rfl (by first | exact Or.inl rfl | exact Or.inr rfl | assumption) ?_
    refine ⟨congrArg some (congrArg Value.int ?_), rfl⟩
    first | exact (zb_t h16).symm | exact (zb_f (fun q => q h16)).symm
  · refine R_iconst (q := 20) (v := nI 1) rfl rfl (by decide) ?_
    refine R_goto (t := 24) rfl rfl ?_
    refine R_zreturn rfl rfl (by first | exact Or.inl rfl | exact Or.inr rfl | assumption) ?_
    refine ⟨congrArg some (congrArg Value.int ?_), rfl⟩
    first | exact (zb_t h16).symm | exact (zb_f (fun q => q h16)).symm
end P18
end
section
theorem zb_inj {x y : Bool} : zb x = zb y ↔ x = y := by cases x <;> cases y <;> decide
def allr (g : Nat → Bool) : Nat → Nat → Bool
  | 0, _ => true
  | k + 1, i => g i && allr g k (i + 1)
theorem allr_iff {g : Nat → Bool} : ∀ k i, allr g k i = true ↔ ∀ j, i ≤ j → j < i + k → g j = true := by
  intro k
  induction k with
  | zero => intro i; exact ⟨fun _ j h1 h2 => absurd h2 (by omega), fun _ => rfl⟩
  | succ k ih =>
    intro i
    show (g i && allr g k (i + 1)) = true ↔ _
    rw [Bool.and_eq_true, ih]
    constructor
    · rintro ⟨h1, h2⟩ j h3 h4
      by_cases e : j = i
      · rw [e]; exact h1
      · exact h2 j (by omega) (by omega)
    · intro h
      exact ⟨h i (by omega) (by omega), fun j h1 h2 => h j (by omega) (by omega)⟩
section P19
variable {S : mm_S} {d : Nat} {M : mm_M} {a b n : Nat} {px py : Nat → Int32}
def lvb (n : Nat) (px : Nat → Int32) (i : Nat) : Bool := decide (¬ px i = px (aft n i))
def rok (n : Nat) (px py : Nat → Int32) (i : Nat) : Bool := !(lvb n px i == lvb n py i) && !(lvb n px i == lvb n px (aft n i))
def ringb (n : Nat) (px py : Nat → Int32) : Bool := decide (4 ≤ n ∧ n % 2 = 0) && allr (rok n px py) n 0
theorem c70_loop (h : OL M a n px py) (h0 : 4 ≤ n) : ∀ (k i : Nat), i + k = n → ∀ t : Option Value, mm_R S (d + 2) 70 21 [some (.ref a), some (.int (nI i)), t] [] M (fun v M' => v = some (.int (zb (allr (rok n px py) k i))) ∧ M' = M) := by
  have hh := h
  obtain ⟨h1, h2, h3, h4⟩ := h
  intro k
  induction k with
  | zero =>
    intro i hi t
    refine R_iload_n (q := 22) rfl rfl rfl ?_
    refine R_aload_n (q := 23) rfl rfl rfl ?_
    refine R_getf (q := 26) rfl rfl rfl (by first | assumption | exact mm_pe | (rw [mm_pn (by omega)]; first | assumption | exact mm_pe | (rw [mm_pn (by omega)]; first | assumption | exact mm_pe | (rw [mm_pn (by omega)]; first | assumption | exact mm_pe | (rw [mm_pn (by omega)]; first | assumption | exact mm_pe | (rw [mm_pn (by omega)]; first | assumption | exact mm_pe)))))) rfl ?_
    refine R_icmp_ge (q := 29) (t := 69) rfl rfl rfl (fun h26 => ?_) (fun h26 => absurd (nI_le (by omega) (by omega)) h26)
    refine R_iconst (q := 70) (v := nI 1) rfl rfl (by decide) ?_
    refine R_zreturn rfl rfl (by first | exact Or.inl rfl | exact Or.inr rfl | assumption) ?_
    exact ⟨rfl, rfl⟩
  | succ k ih =>
    intro i hi t
    have haf : aft n i < n := by unfold aft; split <;> omega
    have es : allr (rok n px py) (k + 1) i = (rok n px py i && allr (rok n px py) k (i + 1)) := rfl
    refine R_iload_n (q := 22) rfl rfl rfl ?_
    refine R_aload_n (q := 23) rfl rfl rfl ?_
    refine R_getf (q := 26) rfl rfl rfl (by first | assumption | exact mm_pe | (rw [mm_pn (by omega)]; first | assumption | exact mm_pe | (rw [mm_pn (by omega)]; first | assumption | exact mm_pe | (rw [mm_pn (by omega)]; first | assumption | exact mm_pe | (rw [mm_pn (by omega)]; first | assumption | exact mm_pe | (rw [mm_pn (by omega)]; first | assumption | exact mm_pe)))))) rfl ?_
    refine R_icmp_ge (q := 29) (t := 69) rfl rfl rfl (fun h26 => absurd h26 (nI_ge (by omega) (by omega))) (fun h26 => ?_)
    refine R_aload_n (q := 30) rfl rfl rfl ?_
    refine R_iload_n (q := 31) rfl rfl rfl ?_
    refine R_callv1 (q := 34) rfl rfl rfl rfl (by first | assumption | exact mm_pe | (rw [mm_pn (by omega)]; first | assumption | exact mm_pe | (rw [mm_pn (by omega)]; first | assumption | exact mm_pe | (rw [mm_pn (by omega)]; first | assumption | exact mm_pe | (rw [mm_pn (by omega)]; first | assumption | exact mm_pe | (rw [mm_pn (by omega)]; first | assumption | exact mm_pe)))))) (Nat.le_of_ble_eq_true rfl) rfl ?_
    refine R_mono (c72 hh (by omega)) (fun v31 M31 hr31 => ?_)
    obtain ⟨rfl, hm31⟩ := hr31
    rw [hm31]
    dsimp only [Option.toList, List.cons_append, List.nil_append]
    refine R_istore_n (q := 35) rfl rfl (Nat.le_of_ble_eq_true rfl) rfl ?_
    dsimp only [List.set]
    refine R_aload_n (q := 36) rfl rfl rfl ?_
    refine R_iload_n (q := 37) rfl rfl rfl ?_
    refine R_callv1 (q := 40) rfl rfl rfl rfl (by first | assumption | exact mm_pe | (rw [mm_pn (by omega)]; first | assumption | exact mm_pe | (rw [mm_pn (by omega)]; first | assumption | exact mm_pe | (rw [mm_pn (by omega)]; first | assumption | exact mm_pe | (rw [mm_pn (by omega)]; first | assumption | exact mm_pe | (rw [mm_pn (by omega)]; first | assumption | exact mm_pe)))))) (Nat.le_of_ble_eq_true rfl) rfl ?_
    refine R_mono (c73 hh (by first | omega | exact haf)) (fun v37 M37 hr37 => ?_)
    obtain ⟨rfl, hm37⟩ := hr37
    rw [hm37]
    dsimp only [Option.toList, List.cons_append, List.nil_append]
    refine R_aload_n (q := 41) rfl rfl rfl ?_
    refine R_iload_n (q := 42) rfl rfl rfl ?_
    refine R_callv1 (q := 45) rfl rfl rfl rfl (by first | assumption | exact mm_pe | (rw [mm_pn (by omega)]; first | assumption | exact mm_pe | (rw [mm_pn (by omega)]; first | assumption | exact mm_pe | (rw [mm_pn (by omega)]; first | assumption | exact mm_pe | (rw [mm_pn (by omega)]; first | assumption | exact mm_pe | (rw [mm_pn (by omega)]; first | assumption | exact mm_pe)))))) (Nat.le_of_ble_eq_true rfl) rfl ?_
    refine R_mono (c74 hh (by omega)) (fun v42 M42 hr42 => ?_)
    obtain ⟨rfl, hm42⟩ := hr42
    rw [hm42]
    dsimp only [Option.toList, List.cons_append, List.nil_append]
    refine R_icmp_eq (q := 48) (t := 61) rfl rfl rfl (fun h45 => ?_) (fun h45 => ?_)
    · refine R_iconst (q := 62) (v := nI 0) rfl rfl (by decide) ?_
      refine R_zreturn rfl rfl (by first | exact Or.inl rfl | exact Or.inr rfl | assumption) ?_
      have hr : rok n px py i = false := by
        unfold rok lvb
        first
          | (have e1 := zb_inj.mp h45
             rw [e1]; simp)
          | (have e2 := zb_inj.mp h58
             rw [e2]; simp)
      exact ⟨by rw [es, hr]; rfl, rfl⟩
    · refine R_aload_n (q := 49) rfl rfl rfl ?_
      refine R_iload_n (q := 50) rfl rfl rfl ?_
      refine R_callv1 (q := 53) rfl rfl rfl rfl (by first | assumption | exact mm_pe | (rw [mm_pn (by omega)]; first | assumption | exact mm_pe | (rw [mm_pn (by omega)]; first | assumption | exact mm_pe | (rw [mm_pn (by omega)]; first | assumption | exact mm_pe | (rw [mm_pn (by omega)]; first | assumption | exact mm_pe | (rw [mm_pn (by omega)]; first | assumption | exact mm_pe)))))) (Nat.le_of_ble_eq_true rfl) rfl ?_
      refine R_mono (c73 hh (by first | omega | exact haf)) (fun v50 M50 hr50 => ?_)
      obtain ⟨rfl, hm50⟩ := hr50
      rw [hm50]
      dsimp only [Option.toList, List.cons_append, List.nil_append]
      refine R_aload_n (q := 54) rfl rfl rfl ?_
      refine R_iload_n (q := 55) rfl rfl rfl ?_
      refine R_callv1 (q := 58) rfl rfl rfl rfl (by first | assumption | exact mm_pe | (rw [mm_pn (by omega)]; first | assumption | exact mm_pe | (rw [mm_pn (by omega)]; first | assumption | exact mm_pe | (rw [mm_pn (by omega)]; first | assumption | exact mm_pe | (rw [mm_pn (by omega)]; first | assumption | exact mm_pe | (rw [mm_pn (by omega)]; first | assumption | exact mm_pe)))))) (Nat.le_of_ble_eq_true rfl) rfl ?_
      refine R_mono (c73 hh (by first | omega | exact haf)) (fun v55 M55 hr55 => ?_)
      obtain ⟨rfl, hm55⟩ := hr55
      rw [hm55]
      dsimp only [Option.toList, List.cons_append, List.nil_append]
      refine R_icmp_ne (q := 61) (t := 63) rfl rfl rfl (fun h58 => ?_) (fun h58 => ?_)
      · refine R_iinc (q := 66) rfl rfl rfl (nI_i1 i) rfl ?_
        dsimp only [List.set]
        refine R_goto (t := 21) rfl rfl ?_
        have hr : rok n px py i = true := by
          unfold rok lvb
          have e1 := fun q => h45 (zb_inj.mpr q)
          have e2 := fun q => h58 (zb_inj.mpr q)
          simp only [Bool.and_eq_true, Bool.not_eq_true', beq_eq_false_iff_ne, ne_eq]
          exact ⟨e1, e2⟩
        rw [es, hr, Bool.true_and]
        exact ih (i + 1) (by omega) _
      · refine R_iconst (q := 62) (v := nI 0) rfl rfl (by decide) ?_
        refine R_zreturn rfl rfl (by first | exact Or.inl rfl | exact Or.inr rfl | assumption) ?_
        have hr : rok n px py i = false := by
          unfold rok lvb
          first
            | (have e1 := zb_inj.mp h45
               rw [e1]; simp)
            | (have e2 := zb_inj.mp h58
               rw [e2]; simp)
        exact ⟨by rw [es, hr]; rfl, rfl⟩
theorem c70 (h : OL M a n px py) : mm_R S (d + 2) 70 0 (mm_en 70 [.ref a]) [] M (fun v M' => v = some (.int (zb (ringb n px py))) ∧ M' = M) := by
  have hh := h
  obtain ⟨h1, h2, h3, h4⟩ := h
  show mm_R S (d + 2) 70 0 [some (.ref a), none, none] [] M _
  refine R_aload_n (q := 1) rfl rfl rfl ?_
  refine R_getf (q := 4) rfl rfl rfl (by first | assumption | exact mm_pe | (rw [mm_pn (by omega)]; first | assumption | exact mm_pe | (rw [mm_pn (by omega)]; first | assumption | exact mm_pe | (rw [mm_pn (by omega)]; first | assumption | exact mm_pe | (rw [mm_pn (by omega)]; first | assumption | exact mm_pe | (rw [mm_pn (by omega)]; first | assumption | exact mm_pe)))))) rfl ?_
  refine R_iconst (q := 5) (v := nI 4) rfl rfl (by decide) ?_
  refine R_icmp_lt (q := 8) (t := 17) rfl rfl rfl (fun h5 => ?_) (fun h5 => ?_)
  · refine R_iconst (q := 18) (v := nI 0) rfl rfl (by decide) ?_
    refine R_zreturn rfl rfl (by first | exact Or.inl rfl | exact Or.inr rfl | assumption) ?_
    refine ⟨congrArg some (congrArg Value.int ?_), rfl⟩
    unfold ringb
    rw [decide_eq_false (p := 4 ≤ n ∧ n % 2 = 0)]
    · rfl
    · rintro ⟨q1, q2⟩
      first
        | exact absurd h5 (nI_nlt q1 (by omega))
        | (rw [q2] at h14; exact h14 rfl)
  · refine R_aload_n (q := 9) rfl rfl rfl ?_
    refine R_getf (q := 12) rfl rfl rfl (by first | assumption | exact mm_pe | (rw [mm_pn (by omega)]; first | assumption | exact mm_pe | (rw [mm_pn (by omega)]; first | assumption | exact mm_pe | (rw [mm_pn (by omega)]; first | assumption | exact mm_pe | (rw [mm_pn (by omega)]; first | assumption | exact mm_pe | (rw [mm_pn (by omega)]; first | assumption | exact mm_pe)))))) rfl ?_
    refine R_iconst (q := 13) (v := nI 2) rfl rfl (by decide) ?_
    refine R_irem (q := 14) rfl rfl (by decide) ?_
    rw [pk_rem (by omega) (by decide) (by decide)]
    refine R_if_eq (q := 17) (t := 19) rfl rfl rfl (fun h14 => ?_) (fun h14 => ?_)
    · refine R_iconst (q := 20) (v := nI 0) rfl rfl (by decide) ?_
      refine R_istore_n (q := 21) rfl rfl (Nat.le_of_ble_eq_true rfl) rfl ?_
      dsimp only [List.set]
      have hc : 4 ≤ n ∧ n % 2 = 0 := by
        constructor
        · rcases Nat.lt_or_ge n 4 with q | q
          · exact absurd (nI_lt q (by decide)) h5
          · exact q
        · have := (nI_eq (a := n % 2) (b := 0) (by omega) (by decide)).mp h14
          exact this
      unfold ringb
      rw [decide_eq_true hc, Bool.true_and]
      exact c70_loop hh hc.1 n 0 (by omega) _
    · refine R_iconst (q := 18) (v := nI 0) rfl rfl (by decide) ?_
      refine R_zreturn rfl rfl (by first | exact Or.inl rfl | exact Or.inr rfl | assumption) ?_
      refine ⟨congrArg some (congrArg Value.int ?_), rfl⟩
      unfold ringb
      rw [decide_eq_false (p := 4 ≤ n ∧ n % 2 = 0)]
      · rfl
      · rintro ⟨q1, q2⟩
        first
          | exact absurd h5 (nI_nlt q1 (by omega))
          | (rw [q2] at h14; exact h14 rfl)
end P19
end
section
theorem OL_off {M : mm_M} {a n x : Nat} {px py : Nat → Int32} {c : mm_E} (h : OL M a n px py) (hx : x < a ∨ a + 2 < x) : OL (mm_put M x c) a n px py := ⟨by rw [mm_pn (by omega)]; exact h.1, by rw [mm_pn (by omega)]; exact h.2.1, by rw [mm_pn (by omega)]; exact h.2.2.1, h.2.2.2⟩
theorem mx_nI {x y : Nat} (hx : x < 2147483648) (hy : y < 2147483648) : (if nI x < nI y then nI y else nI x) = nI (max x y) := by
  by_cases h : x < y
  · rw [if_pos (nI_lt h hy), Nat.max_eq_right (Nat.le_of_lt h)]
  · rw [if_neg (nI_nlt (Nat.not_lt.mp h) hx), Nat.max_eq_left (Nat.not_lt.mp h)]
theorem mn_nI {x y : Nat} (hx : x < 2147483648) (hy : y < 2147483648) : (if nI y < nI x then nI y else nI x) = nI (min x y) := by
  by_cases h : y < x
  · rw [if_pos (nI_lt h hx), Nat.min_eq_right (Nat.le_of_lt h)]
  · rw [if_neg (nI_nlt (Nat.not_lt.mp h) hy), Nat.min_eq_left (Nat.not_lt.mp h)]
/-- the rows behind the first i edges of a ring -/
def gi (n : Nat) (X Y : Nat → Nat) (f : Nat → Int32) : Nat → Nat → Int32
  | 0 => f
  | i + 1 => ifr (fun y => (gi n X Y f i y ^^^ ((65535 : Int32) <<< (nI (X i) &&& 31))) &&& 65535) (gi n X Y f i) (min (Y i) (Y (aft n i))) (max (Y i) (Y (aft n i)))
section P20
variable {S : mm_S} {d : Nat} {M : mm_M} {a b n : Nat} {px py f : Nat → Int32}
set_option maxRecDepth 8000 in
theorem c71 {X Y : Nat → Nat} (h : OL M a n px py) (hb : CA M b f) (hab : a + 2 < b ∨ b + 1 < a) (hX : ∀ i, i < n → px i = nI (X i) ∧ X i ≤ 16) (hY : ∀ i, i < n → py i = nI (Y i) ∧ Y i ≤ 16) : mm_R S (d + 1) 71 0 (mm_en 71 [.ref a, .ref b]) [] M (fun v M' => v = none ∧ M' = mm_put M (b + 1) (ro (gi n X Y (ifl (fun _ => nI 0) f 16) n))) := by
  have h4 := h.2.2.2
  have hb1 := hb.1
  show mm_R S (d + 1) 71 0 [some (.ref a), some (.ref b), none, none, none, none] [] M _
  refine R_aload_n (q := 1) rfl rfl rfl ?_
  refine R_callv0 (q := 4) rfl rfl rfl rfl (by first | assumption | exact mm_pe | (rw [mm_pn (by omega)]; first | assumption | exact mm_pe | (rw [mm_pn (by omega)]; first | assumption | exact mm_pe | (rw [mm_pn (by omega)]; first | assumption | exact mm_pe | (rw [mm_pn (by omega)]; first | assumption | exact mm_pe | (rw [mm_pn (by omega)]; first | assumption | exact mm_pe)))))) (Nat.le_of_ble_eq_true rfl) rfl ?_
  refine R_mono (c7 hb) (fun v1 M1 hr1 => ?_)
  obtain ⟨rfl, hm1⟩ := hr1
  rw [hm1]
  dsimp only [Option.toList, List.cons_append, List.nil_append]
  refine R_iconst (q := 5) (v := nI 0) rfl rfl (by decide) ?_
  refine R_istore_n (q := 6) rfl rfl (Nat.le_of_ble_eq_true rfl) rfl ?_
  dsimp only [List.set]
  refine lpN (fun i => ∀ t3 t4 t5 : Option Value, mm_R S (d + 1) 71 6 [some (.ref a), some (.ref b), some (.int (nI i)), t3, t4, t5] [] (mm_put M (b + 1) (ro (gi n X Y (ifl (fun _ => nI 0) f 16) i))) (fun v M' => v = none ∧ M' = mm_put M (b + 1) (ro (gi n X Y (ifl (fun _ => nI 0) f 16) n)))) n (fun i hi ih t3 t4 t5 => ?_) (fun t3 t4 t5 => ?_) 0 (Nat.zero_le _) none none none
  · have hol : OL (mm_put M (b + 1) (ro (gi n X Y (ifl (fun _ => nI 0) f 16) i))) a n px py := OL_off h (by omega)
    obtain ⟨o1, o2, o3, o4⟩ := id hol
    have haf : aft n i < n := by unfold aft; split <;> omega
    have hii := in_nI (j := i) (n := 24) (by omega) (by decide)
    have hia := in_nI (j := aft n i) (n := 24) (by omega) (by decide)
    have hYi := hY i hi
    have hYa := hY _ haf
    refine R_iload_n (q := 7) rfl rfl rfl ?_
    refine R_aload_n (q := 8) rfl rfl rfl ?_
    refine R_getf (q := 11) rfl rfl rfl (by first | assumption | exact mm_pe | (rw [mm_pn (by omega)]; first | assumption | exact mm_pe | (rw [mm_pn (by omega)]; first | assumption | exact mm_pe | (rw [mm_pn (by omega)]; first | assumption | exact mm_pe | (rw [mm_pn (by omega)]; first | assumption | exact mm_pe | (rw [mm_pn (by omega)]; first | assumption | exact mm_pe)))))) rfl ?_
    refine R_icmp_ge (q := 14) (t := 95) rfl rfl rfl (fun h11 => absurd h11 (nI_ge hi (by omega))) (fun h11 => ?_)
    refine R_aload_n (q := 15) rfl rfl rfl ?_
    refine R_iload_n (q := 16) rfl rfl rfl ?_
    refine R_callv1 (q := 19) rfl rfl rfl rfl (by first | assumption | exact mm_pe | (rw [mm_pn (by omega)]; first | assumption | exact mm_pe | (rw [mm_pn (by omega)]; first | assumption | exact mm_pe | (rw [mm_pn (by omega)]; first | assumption | exact mm_pe | (rw [mm_pn (by omega)]; first | assumption | exact mm_pe | (rw [mm_pn (by omega)]; first | assumption | exact mm_pe)))))) (Nat.le_of_ble_eq_true rfl) rfl ?_
    refine R_mono (c72 hol (by omega)) (fun v16 M16 hr16 => ?_)
    obtain ⟨rfl, hm16⟩ := hr16
    rw [hm16]
    dsimp only [Option.toList, List.cons_append, List.nil_append]
    refine R_istore_n (q := 20) rfl rfl (Nat.le_of_ble_eq_true rfl) rfl ?_
    dsimp only [List.set]
    refine R_aload_n (q := 21) rfl rfl rfl ?_
    refine R_getf (q := 24) rfl rfl rfl (by first | assumption | exact mm_pe | (rw [mm_pn (by omega)]; first | assumption | exact mm_pe | (rw [mm_pn (by omega)]; first | assumption | exact mm_pe | (rw [mm_pn (by omega)]; first | assumption | exact mm_pe | (rw [mm_pn (by omega)]; first | assumption | exact mm_pe | (rw [mm_pn (by omega)]; first | assumption | exact mm_pe)))))) rfl ?_
    refine R_iload_n (q := 25) rfl rfl rfl ?_
    refine R_iaload (q := 26) rfl rfl (by first | assumption | exact mm_pe | (rw [mm_pn (by omega)]; first | assumption | exact mm_pe | (rw [mm_pn (by omega)]; first | assumption | exact mm_pe | (rw [mm_pn (by omega)]; first | assumption | exact mm_pe | (rw [mm_pn (by omega)]; first | assumption | exact mm_pe | (rw [mm_pn (by omega)]; first | assumption | exact mm_pe)))))) (by omega) (by first | assumption | exact in_nI (by omega) (by decide)) ?_
    refine R_aload_n (q := 27) rfl rfl rfl ?_
    refine R_getf (q := 30) rfl rfl rfl (by first | assumption | exact mm_pe | (rw [mm_pn (by omega)]; first | assumption | exact mm_pe | (rw [mm_pn (by omega)]; first | assumption | exact mm_pe | (rw [mm_pn (by omega)]; first | assumption | exact mm_pe | (rw [mm_pn (by omega)]; first | assumption | exact mm_pe | (rw [mm_pn (by omega)]; first | assumption | exact mm_pe)))))) rfl ?_
    refine R_iload_n (q := 31) rfl rfl rfl ?_
    refine R_iaload (q := 32) rfl rfl (by first | assumption | exact mm_pe | (rw [mm_pn (by omega)]; first | assumption | exact mm_pe | (rw [mm_pn (by omega)]; first | assumption | exact mm_pe | (rw [mm_pn (by omega)]; first | assumption | exact mm_pe | (rw [mm_pn (by omega)]; first | assumption | exact mm_pe | (rw [mm_pn (by omega)]; first | assumption | exact mm_pe)))))) (by omega) (by first | assumption | exact in_nI (by omega) (by decide)) ?_
    rw [cl_nI (by omega), cl_nI (by omega), hYi.1, hYa.1]
    refine R_mmax (q := 35) rfl rfl (by decide +kernel) rfl (by omega) (Nat.le_of_ble_eq_true rfl) ?_
    rw [mx_nI (by omega) (by omega)]
    refine R_istore (q := 37) rfl rfl (Nat.le_of_ble_eq_true rfl) rfl ?_
    dsimp only [List.set]
    refine R_aload_n (q := 38) rfl rfl rfl ?_
    refine R_getf (q := 41) rfl rfl rfl (by first | assumption | exact mm_pe | (rw [mm_pn (by omega)]; first | assumption | exact mm_pe | (rw [mm_pn (by omega)]; first | assumption | exact mm_pe | (rw [mm_pn (by omega)]; first | assumption | exact mm_pe | (rw [mm_pn (by omega)]; first | assumption | exact mm_pe | (rw [mm_pn (by omega)]; first | assumption | exact mm_pe)))))) rfl ?_
    refine R_iload_n (q := 42) rfl rfl rfl ?_
    refine R_iaload (q := 43) rfl rfl (by first | assumption | exact mm_pe | (rw [mm_pn (by omega)]; first | assumption | exact mm_pe | (rw [mm_pn (by omega)]; first | assumption | exact mm_pe | (rw [mm_pn (by omega)]; first | assumption | exact mm_pe | (rw [mm_pn (by omega)]; first | assumption | exact mm_pe | (rw [mm_pn (by omega)]; first | assumption | exact mm_pe)))))) (by omega) (by first | assumption | exact in_nI (by omega) (by decide)) ?_
    refine R_aload_n (q := 44) rfl rfl rfl ?_
    refine R_getf (q := 47) rfl rfl rfl (by first | assumption | exact mm_pe | (rw [mm_pn (by omega)]; first | assumption | exact mm_pe | (rw [mm_pn (by omega)]; first | assumption | exact mm_pe | (rw [mm_pn (by omega)]; first | assumption | exact mm_pe | (rw [mm_pn (by omega)]; first | assumption | exact mm_pe | (rw [mm_pn (by omega)]; first | assumption | exact mm_pe)))))) rfl ?_
    refine R_iload_n (q := 48) rfl rfl rfl ?_
    refine R_iaload (q := 49) rfl rfl (by first | assumption | exact mm_pe | (rw [mm_pn (by omega)]; first | assumption | exact mm_pe | (rw [mm_pn (by omega)]; first | assumption | exact mm_pe | (rw [mm_pn (by omega)]; first | assumption | exact mm_pe | (rw [mm_pn (by omega)]; first | assumption | exact mm_pe | (rw [mm_pn (by omega)]; first | assumption | exact mm_pe)))))) (by omega) (by first | assumption | exact in_nI (by omega) (by decide)) ?_
    rw [cl_nI (by omega), cl_nI (by omega), hYi.1, hYa.1]
    refine R_mmin (q := 52) rfl rfl (by decide +kernel) rfl (by omega) (Nat.le_of_ble_eq_true rfl) ?_
    rw [mn_nI (by omega) (by omega)]
    refine R_istore (q := 54) rfl rfl (Nat.le_of_ble_eq_true rfl) rfl ?_
    dsimp only [List.set]
    have hmm : min (Y i) (Y (aft n i)) ≤ max (Y i) (Y (aft n i)) := by omega
    refine R_atM (M' := mm_put M (b + 1) (ro (ifr (fun y => (gi n X Y (ifl (fun _ => nI 0) f 16) i y ^^^ ((65535 : Int32) <<< (nI (X i) &&& 31))) &&& 65535) (gi n X Y (ifl (fun _ => nI 0) f 16) i) (min (Y i) (Y (aft n i))) (min (Y i) (Y (aft n i)))))) (by rw [ifr_0]) ?_
    refine lpM (fun y => mm_R S (d + 1) 71 54 [some (.ref a), some (.ref b), some (.int (nI i)), some (.int (nI (aft n i))), some (.int (nI (max (Y i) (Y (aft n i))))), some (.int (nI y))] [] (mm_put M (b + 1) (ro (ifr (fun y => (gi n X Y (ifl (fun _ => nI 0) f 16) i y ^^^ ((65535 : Int32) <<< (nI (X i) &&& 31))) &&& 65535) (gi n X Y (ifl (fun _ => nI 0) f 16) i) (min (Y i) (Y (aft n i))) y))) (fun v M' => v = none ∧ M' = mm_put M (b + 1) (ro (gi n X Y (ifl (fun _ => nI 0) f 16) n)))) (min (Y i) (Y (aft n i))) (max (Y i) (Y (aft n i))) (fun y hy0 hy ihy => ?_) ?_ _ (Nat.le_refl _) hmm
    · have hol2 : OL (mm_put M (b + 1) (ro (ifr (fun y => (gi n X Y (ifl (fun _ => nI 0) f 16) i y ^^^ ((65535 : Int32) <<< (nI (X i) &&& 31))) &&& 65535) (gi n X Y (ifl (fun _ => nI 0) f 16) i) (min (Y i) (Y (aft n i))) y))) a n px py := OL_off h (by omega)
      obtain ⟨o1, o2, o3, o4⟩ := id hol2
      have hca : CA (mm_put M (b + 1) (ro (ifr (fun y => (gi n X Y (ifl (fun _ => nI 0) f 16) i y ^^^ ((65535 : Int32) <<< (nI (X i) &&& 31))) &&& 65535) (gi n X Y (ifl (fun _ => nI 0) f 16) i) (min (Y i) (Y (aft n i))) y))) b _ := CA_put hb
      have hca1 := hca.1
      refine R_iload (q := 56) rfl rfl rfl ?_
      refine R_iload (q := 58) rfl rfl rfl ?_
      refine R_icmp_ge (q := 61) (t := 89) rfl rfl rfl (fun h58 => absurd h58 (nI_ge hy (by omega))) (fun h58 => ?_)
      refine R_aload_n (q := 62) rfl rfl rfl ?_
      refine R_iload (q := 64) rfl rfl rfl ?_
      refine R_aload_n (q := 65) rfl rfl rfl ?_
      refine R_iload (q := 67) rfl rfl rfl ?_
      refine R_callv1 (q := 70) rfl rfl rfl rfl (by first | assumption | exact mm_pe | (rw [mm_pn (by omega)]; first | assumption | exact mm_pe | (rw [mm_pn (by omega)]; first | assumption | exact mm_pe | (rw [mm_pn (by omega)]; first | assumption | exact mm_pe | (rw [mm_pn (by omega)]; first | assumption | exact mm_pe | (rw [mm_pn (by omega)]; first | assumption | exact mm_pe)))))) (Nat.le_of_ble_eq_true rfl) rfl ?_
      refine R_mono (c2 hca) (fun v67 M67 hr67 => ?_)
      obtain ⟨rfl, hm67⟩ := hr67
      rw [hm67]
      dsimp only [Option.toList, List.cons_append, List.nil_append]
      rw [rowv_nI (by omega), ifr_ge]
      refine R_ldc (q := 72) (v := 65535) rfl rfl rfl ?_
      refine R_aload_n (q := 73) rfl rfl rfl ?_
      refine R_getf (q := 76) rfl rfl rfl (by first | assumption | exact mm_pe | (rw [mm_pn (by omega)]; first | assumption | exact mm_pe | (rw [mm_pn (by omega)]; first | assumption | exact mm_pe | (rw [mm_pn (by omega)]; first | assumption | exact mm_pe | (rw [mm_pn (by omega)]; first | assumption | exact mm_pe | (rw [mm_pn (by omega)]; first | assumption | exact mm_pe)))))) rfl ?_
      refine R_iload_n (q := 77) rfl rfl rfl ?_
      refine R_iaload (q := 78) rfl rfl (by first | assumption | exact mm_pe | (rw [mm_pn (by omega)]; first | assumption | exact mm_pe | (rw [mm_pn (by omega)]; first | assumption | exact mm_pe | (rw [mm_pn (by omega)]; first | assumption | exact mm_pe | (rw [mm_pn (by omega)]; first | assumption | exact mm_pe | (rw [mm_pn (by omega)]; first | assumption | exact mm_pe)))))) (by omega) (by first | assumption | exact in_nI (by omega) (by decide)) ?_
      rw [cl_nI (by omega), (hX i hi).1]
      refine R_ishl (q := 79) rfl rfl ?_
      refine R_ixor (q := 80) rfl rfl ?_
      refine R_callv2 (q := 83) rfl rfl rfl rfl (by first | assumption | exact mm_pe | (rw [mm_pn (by omega)]; first | assumption | exact mm_pe | (rw [mm_pn (by omega)]; first | assumption | exact mm_pe | (rw [mm_pn (by omega)]; first | assumption | exact mm_pe | (rw [mm_pn (by omega)]; first | assumption | exact mm_pe | (rw [mm_pn (by omega)]; first | assumption | exact mm_pe)))))) (Nat.le_of_ble_eq_true rfl) rfl ?_
      refine R_mono (c6 hca) (fun v80 M80 hr80 => ?_)
      obtain ⟨rfl, hm80⟩ := hr80
      rw [if_pos (by rw [i_n y (by omega)]; omega), mm_pp, cl_nI (by omega)] at hm80
      rw [hm80]
      dsimp only [Option.toList, List.cons_append, List.nil_append]
      refine R_iinc (q := 86) rfl rfl rfl (nI_i1 y) rfl ?_
      dsimp only [List.set]
      refine R_goto (t := 54) rfl rfl ?_
      refine R_atM ?_ ihy
      exact (congrArg (fun z => mm_put M (b + 1) (ro z)) (ifr_s (n := (fun y => (gi n X Y (ifl (fun _ => nI 0) f 16) i y ^^^ ((65535 : Int32) <<< (nI (X i) &&& 31))) &&& 65535)) hy0)).symm
    · refine R_iload (q := 56) rfl rfl rfl ?_
      refine R_iload (q := 58) rfl rfl rfl ?_
      refine R_icmp_ge (q := 61) (t := 89) rfl rfl rfl (fun h58 => ?_) (fun h58 => absurd (nI_le (Nat.le_refl _) (by omega)) h58)
      refine R_iinc (q := 92) rfl rfl rfl (nI_i1 i) rfl ?_
      dsimp only [List.set]
      refine R_goto (t := 6) rfl rfl ?_
      exact ih _ _ _
  · refine R_iload_n (q := 7) rfl rfl rfl ?_
    refine R_aload_n (q := 8) rfl rfl rfl ?_
    refine R_getf (q := 11) rfl rfl rfl (OL_off h (by omega)).1 rfl ?_
    refine R_icmp_ge (q := 14) (t := 95) rfl rfl rfl (fun h11 => ?_) (fun h11 => absurd (nI_le (Nat.le_refl _) (by omega)) h11)
    refine R_return rfl rfl ?_
    exact ⟨rfl, rfl⟩
end P20
/-! ===== Part ===== -/
def PT (M : mm_M) (a nb np : Nat) (bx pl : Nat → Int32) : Prop := M.1 a = some (.inr (6, [.ref (a + 1), .ref (a + 2), .int (nI nb), .int (nI np)])) ∧ M.1 (a + 1) = some (.inl (0, 24, .inl bx)) ∧ M.1 (a + 2) = some (.inl (0, 32, .inl pl)) ∧ nb ≤ 6 ∧ np ≤ 4
section P20b
variable {S : mm_S} {d : Nat} {M : mm_M} {a nb np : Nat} {bx pl : Nat → Int32}
set_option maxRecDepth 8000 in
theorem c76 (h : PT M a nb np bx pl) : mm_R S d 76 0 (mm_en 76 [.ref a]) [] M (fun v M' => v = none ∧ M' = mm_put M a (.inr (6, [.ref (a + 1), .ref (a + 2), .int (nI 0), .int (nI 0)]))) := by
  obtain ⟨h1, h2, h3, h4, h5⟩ := h
  show mm_R S d 76 0 [some (.ref a)] [] M _
  refine R_aload_n (q := 1) rfl rfl rfl ?_
  refine R_iconst (q := 2) (v := nI 0) rfl rfl (by decide) ?_
  refine R_putf (q := 5) rfl rfl rfl (by first | assumption | exact mm_pe | (rw [mm_pn (by omega)]; first | assumption | exact mm_pe | (rw [mm_pn (by omega)]; first | assumption | exact mm_pe | (rw [mm_pn (by omega)]; first | assumption | exact mm_pe | (rw [mm_pn (by omega)]; first | assumption | exact mm_pe | (rw [mm_pn (by omega)]; first | assumption | exact mm_pe)))))) (Nat.le_of_ble_eq_true rfl) rfl (fun hf => absurd hf (by decide)) rfl ?_
  dsimp only [List.set]
  refine R_aload_n (q := 6) rfl rfl rfl ?_
  refine R_iconst (q := 7) (v := nI 0) rfl rfl (by decide) ?_
  refine R_putf (q := 10) rfl rfl rfl (by first | assumption | exact mm_pe | (rw [mm_pn (by omega)]; first | assumption | exact mm_pe | (rw [mm_pn (by omega)]; first | assumption | exact mm_pe | (rw [mm_pn (by omega)]; first | assumption | exact mm_pe | (rw [mm_pn (by omega)]; first | assumption | exact mm_pe | (rw [mm_pn (by omega)]; first | assumption | exact mm_pe)))))) (Nat.le_of_ble_eq_true rfl) rfl (fun hf => absurd hf (by decide)) rfl ?_
  dsimp only [List.set]
  refine R_return rfl rfl ?_
  exact ⟨rfl, mm_pp⟩
set_option maxRecDepth 8000 in
theorem c77 (h : PT M a nb np bx pl) : mm_R S d 77 0 (mm_en 77 [.ref a]) [] M (fun v M' => v = some (.int (nI nb)) ∧ M' = M) := by
  obtain ⟨h1, h2, h3, h4, h5⟩ := h
  show mm_R S d 77 0 [some (.ref a)] [] M _
  refine R_aload_n (q := 1) rfl rfl rfl ?_
  refine R_getf (q := 4) rfl rfl rfl (by first | assumption | exact mm_pe | (rw [mm_pn (by omega)]; first | assumption | exact mm_pe | (rw [mm_pn (by omega)]; first | assumption | exact mm_pe | (rw [mm_pn (by omega)]; first | assumption | exact mm_pe | (rw [mm_pn (by omega)]; first | assumption | exact mm_pe | (rw [mm_pn (by omega)]; first | assumption | exact mm_pe)))))) rfl ?_
  refine R_ireturn rfl rfl ?_
  exact ⟨rfl, rfl⟩
set_option maxRecDepth 8000 in
theorem c78 (h : PT M a nb np bx pl) : mm_R S d 78 0 (mm_en 78 [.ref a]) [] M (fun v M' => v = some (.int (nI np)) ∧ M' = M) := by
  obtain ⟨h1, h2, h3, h4, h5⟩ := h
  show mm_R S d 78 0 [some (.ref a)] [] M _
  refine R_aload_n (q := 1) rfl rfl rfl ?_
  refine R_getf (q := 4) rfl rfl rfl (by first | assumption | exact mm_pe | (rw [mm_pn (by omega)]; first | assumption | exact mm_pe | (rw [mm_pn (by omega)]; first | assumption | exact mm_pe | (rw [mm_pn (by omega)]; first | assumption | exact mm_pe | (rw [mm_pn (by omega)]; first | assumption | exact mm_pe | (rw [mm_pn (by omega)]; first | assumption | exact mm_pe)))))) rfl ?_
  refine R_ireturn rfl rfl ?_
  exact ⟨rfl, rfl⟩
set_option maxRecDepth 8000 in
theorem c79_full {x y w h : Int32} (hp : PT M a nb np bx pl) (hn : nb = 6) : mm_R S d 79 0 (mm_en 79 [.ref a, .int x, .int y, .int w, .int h]) [] M (fun v M' => v = some (.int (nI 0)) ∧ M' = M) := by
  obtain ⟨h1, h2, h3, h4, h5⟩ := hp
  subst hn
  show mm_R S d 79 0 [some (.ref a), some (.int x), some (.int y), some (.int w), some (.int h), none] [] M _
  refine R_aload_n (q := 1) rfl rfl rfl ?_
  refine R_getf (q := 4) rfl rfl rfl (by first | assumption | exact mm_pe | (rw [mm_pn (by omega)]; first | assumption | exact mm_pe | (rw [mm_pn (by omega)]; first | assumption | exact mm_pe | (rw [mm_pn (by omega)]; first | assumption | exact mm_pe | (rw [mm_pn (by omega)]; first | assumption | exact mm_pe | (rw [mm_pn (by omega)]; first | assumption | exact mm_pe)))))) rfl ?_
  refine R_bipush (q := 6) (v := nI 6) rfl rfl (by decide) ?_
  refine R_icmp_lt (q := 9) (t := 11) rfl rfl rfl (fun h6 => absurd h6 (by decide)) (fun h6 => ?_)
  refine R_iconst (q := 10) (v := nI 0) rfl rfl (by decide) ?_
  refine R_zreturn rfl rfl (by first | exact Or.inl rfl | exact Or.inr rfl | assumption) ?_
  exact ⟨rfl, rfl⟩
def up4 (p : Nat → Int32) (k : Nat) (x y w h : Int32) : Nat → Int32 := upd (upd (upd (upd p k x) (k + 1) y) (k + 2) w) (k + 3) h
set_option maxRecDepth 8000 in
theorem c79 {x y w h : Int32} (hp : PT M a nb np bx pl) (hn : nb < 6) : mm_R S d 79 0 (mm_en 79 [.ref a, .int x, .int y, .int w, .int h]) [] M (fun v M' => v = some (.int (nI 1)) ∧ M' = mm_put (mm_put M (a + 1) (.inl (0, 24, .inl (up4 bx (nb * 4) x y w h)))) a (.inr (6, [.ref (a + 1), .ref (a + 2), .int (nI (nb + 1)), .int (nI np)]))) := by
  obtain ⟨h1, h2, h3, h4, h5⟩ := hp
  show mm_R S d 79 0 [some (.ref a), some (.int x), some (.int y), some (.int w), some (.int h), none] [] M _
  refine R_aload_n (q := 1) rfl rfl rfl ?_
  refine R_getf (q := 4) rfl rfl rfl (by first | assumption | exact mm_pe | (rw [mm_pn (by omega)]; first | assumption | exact mm_pe | (rw [mm_pn (by omega)]; first | assumption | exact mm_pe | (rw [mm_pn (by omega)]; first | assumption | exact mm_pe | (rw [mm_pn (by omega)]; first | assumption | exact mm_pe | (rw [mm_pn (by omega)]; first | assumption | exact mm_pe)))))) rfl ?_
  refine R_bipush (q := 6) (v := nI 6) rfl rfl (by decide) ?_
  refine R_icmp_lt (q := 9) (t := 11) rfl rfl rfl (fun h6 => ?_) (fun h6 => absurd (nI_lt hn (by decide)) h6)
  refine R_aload_n (q := 12) rfl rfl rfl ?_
  refine R_getf (q := 15) rfl rfl rfl (by first | assumption | exact mm_pe | (rw [mm_pn (by omega)]; first | assumption | exact mm_pe | (rw [mm_pn (by omega)]; first | assumption | exact mm_pe | (rw [mm_pn (by omega)]; first | assumption | exact mm_pe | (rw [mm_pn (by omega)]; first | assumption | exact mm_pe | (rw [mm_pn (by omega)]; first | assumption | exact mm_pe)))))) rfl ?_
  refine R_iconst (q := 16) (v := nI 4) rfl rfl (by decide) ?_
  refine R_imul (q := 17) rfl rfl ?_
  rw [pk_mul]
  refine R_istore (q := 19) rfl rfl (Nat.le_of_ble_eq_true rfl) rfl ?_
  dsimp only [List.set]
  refine R_aload_n (q := 20) rfl rfl rfl ?_
  refine R_getf (q := 23) rfl rfl rfl (by first | assumption | exact mm_pe | (rw [mm_pn (by omega)]; first | assumption | exact mm_pe | (rw [mm_pn (by omega)]; first | assumption | exact mm_pe | (rw [mm_pn (by omega)]; first | assumption | exact mm_pe | (rw [mm_pn (by omega)]; first | assumption | exact mm_pe | (rw [mm_pn (by omega)]; first | assumption | exact mm_pe)))))) rfl ?_
  refine R_iload (q := 25) rfl rfl rfl ?_
  refine R_iload_n (q := 26) rfl rfl rfl ?_
  refine R_iastore (q := 27) rfl rfl (by first | assumption | exact mm_pe | (rw [mm_pn (by omega)]; first | assumption | exact mm_pe | (rw [mm_pn (by omega)]; first | assumption | exact mm_pe | (rw [mm_pn (by omega)]; first | assumption | exact mm_pe | (rw [mm_pn (by omega)]; first | assumption | exact mm_pe | (rw [mm_pn (by omega)]; first | assumption | exact mm_pe)))))) (by first | assumption | exact in_nI (by omega) (by decide)) ?_
  rw [cl_nI (by omega)]
  refine R_aload_n (q := 28) rfl rfl rfl ?_
  refine R_getf (q := 31) rfl rfl rfl (by first | assumption | exact mm_pe | (rw [mm_pn (by omega)]; first | assumption | exact mm_pe | (rw [mm_pn (by omega)]; first | assumption | exact mm_pe | (rw [mm_pn (by omega)]; first | assumption | exact mm_pe | (rw [mm_pn (by omega)]; first | assumption | exact mm_pe | (rw [mm_pn (by omega)]; first | assumption | exact mm_pe)))))) rfl ?_
  refine R_iload (q := 33) rfl rfl rfl ?_
  refine R_iconst (q := 34) (v := nI 1) rfl rfl (by decide) ?_
  refine R_iadd (q := 35) rfl rfl ?_
  rw [nI_add]
  refine R_iload_n (q := 36) rfl rfl rfl ?_
  refine R_iastore (q := 37) rfl rfl (by first | assumption | exact mm_pe | (rw [mm_pn (by omega)]; first | assumption | exact mm_pe | (rw [mm_pn (by omega)]; first | assumption | exact mm_pe | (rw [mm_pn (by omega)]; first | assumption | exact mm_pe | (rw [mm_pn (by omega)]; first | assumption | exact mm_pe | (rw [mm_pn (by omega)]; first | assumption | exact mm_pe)))))) (by first | assumption | exact in_nI (by omega) (by decide)) ?_
  rw [cl_nI (by omega), mm_pp]
  refine R_aload_n (q := 38) rfl rfl rfl ?_
  refine R_getf (q := 41) rfl rfl rfl (by first | assumption | exact mm_pe | (rw [mm_pn (by omega)]; first | assumption | exact mm_pe | (rw [mm_pn (by omega)]; first | assumption | exact mm_pe | (rw [mm_pn (by omega)]; first | assumption | exact mm_pe | (rw [mm_pn (by omega)]; first | assumption | exact mm_pe | (rw [mm_pn (by omega)]; first | assumption | exact mm_pe)))))) rfl ?_
  refine R_iload (q := 43) rfl rfl rfl ?_
  refine R_iconst (q := 44) (v := nI 2) rfl rfl (by decide) ?_
  refine R_iadd (q := 45) rfl rfl ?_
  rw [nI_add]
  refine R_iload_n (q := 46) rfl rfl rfl ?_
  refine R_iastore (q := 47) rfl rfl (by first | assumption | exact mm_pe | (rw [mm_pn (by omega)]; first | assumption | exact mm_pe | (rw [mm_pn (by omega)]; first | assumption | exact mm_pe | (rw [mm_pn (by omega)]; first | assumption | exact mm_pe | (rw [mm_pn (by omega)]; first | assumption | exact mm_pe | (rw [mm_pn (by omega)]; first | assumption | exact mm_pe)))))) (by first | assumption | exact in_nI (by omega) (by decide)) ?_
  rw [cl_nI (by omega), mm_pp]
  refine R_aload_n (q := 48) rfl rfl rfl ?_
  refine R_getf (q := 51) rfl rfl rfl (by first | assumption | exact mm_pe | (rw [mm_pn (by omega)]; first | assumption | exact mm_pe | (rw [mm_pn (by omega)]; first | assumption | exact mm_pe | (rw [mm_pn (by omega)]; first | assumption | exact mm_pe | (rw [mm_pn (by omega)]; first | assumption | exact mm_pe | (rw [mm_pn (by omega)]; first | assumption | exact mm_pe)))))) rfl ?_
  refine R_iload (q := 53) rfl rfl rfl ?_
  refine R_iconst (q := 54) (v := nI 3) rfl rfl (by decide) ?_
  refine R_iadd (q := 55) rfl rfl ?_
  rw [nI_add]
  refine R_iload (q := 57) rfl rfl rfl ?_
  refine R_iastore (q := 58) rfl rfl (by first | assumption | exact mm_pe | (rw [mm_pn (by omega)]; first | assumption | exact mm_pe | (rw [mm_pn (by omega)]; first | assumption | exact mm_pe | (rw [mm_pn (by omega)]; first | assumption | exact mm_pe | (rw [mm_pn (by omega)]; first | assumption | exact mm_pe | (rw [mm_pn (by omega)]; first | assumption | exact mm_pe)))))) (by first | assumption | exact in_nI (by omega) (by decide)) ?_
  rw [cl_nI (by omega), mm_pp]
  refine R_aload_n (q := 59) rfl rfl rfl ?_
  first | refine R_dupa (q := 60) rfl rfl ?_ | refine R_dupi (q := 60) rfl rfl ?_
  refine R_getf (q := 63) rfl rfl rfl (by first | assumption | exact mm_pe | (rw [mm_pn (by omega)]; first | assumption | exact mm_pe | (rw [mm_pn (by omega)]; first | assumption | exact mm_pe | (rw [mm_pn (by omega)]; first | assumption | exact mm_pe | (rw [mm_pn (by omega)]; first | assumption | exact mm_pe | (rw [mm_pn (by omega)]; first | assumption | exact mm_pe)))))) rfl ?_
  refine R_iconst (q := 64) (v := nI 1) rfl rfl (by decide) ?_
  refine R_iadd (q := 65) rfl rfl ?_
  rw [nI_add]
  refine R_putf (q := 68) rfl rfl rfl (by first | assumption | exact mm_pe | (rw [mm_pn (by omega)]; first | assumption | exact mm_pe | (rw [mm_pn (by omega)]; first | assumption | exact mm_pe | (rw [mm_pn (by omega)]; first | assumption | exact mm_pe | (rw [mm_pn (by omega)]; first | assumption | exact mm_pe | (rw [mm_pn (by omega)]; first | assumption | exact mm_pe)))))) (Nat.le_of_ble_eq_true rfl) rfl (fun hf => absurd hf (by decide)) rfl ?_
  dsimp only [List.set]
  refine R_iconst (q := 69) (v := nI 1) rfl rfl (by decide) ?_
  refine R_zreturn rfl rfl (by first | exact Or.inl rfl | exact Or.inr rfl | assumption) ?_
  exact ⟨rfl, rfl⟩
set_option maxRecDepth 8000 in
theorem c80_full {q : Nat} (hp : PT M a nb np bx pl) (hn : np = 4) : mm_R S d 80 0 (mm_en 80 [.ref a, .ref q]) [] M (fun v M' => v = some (.int (nI 0)) ∧ M' = M) := by
  obtain ⟨h1, h2, h3, h4, h5⟩ := hp
  subst hn
  show mm_R S d 80 0 [some (.ref a), some (.ref q), none, none] [] M _
  refine R_aload_n (q := 1) rfl rfl rfl ?_
  refine R_getf (q := 4) rfl rfl rfl (by first | assumption | exact mm_pe | (rw [mm_pn (by omega)]; first | assumption | exact mm_pe | (rw [mm_pn (by omega)]; first | assumption | exact mm_pe | (rw [mm_pn (by omega)]; first | assumption | exact mm_pe | (rw [mm_pn (by omega)]; first | assumption | exact mm_pe | (rw [mm_pn (by omega)]; first | assumption | exact mm_pe)))))) rfl ?_
  refine R_iconst (q := 5) (v := nI 4) rfl rfl (by decide) ?_
  refine R_icmp_ge (q := 8) (t := 15) rfl rfl rfl (fun h5 => ?_) (fun h5 => absurd (by decide) h5)
  refine R_iconst (q := 16) (v := nI 0) rfl rfl (by decide) ?_
  refine R_zreturn rfl rfl (by first | exact Or.inl rfl | exact Or.inr rfl | assumption) ?_
  exact ⟨rfl, rfl⟩
/-- the fields g put at k .. k + j - 1 -/
def upn (p g : Nat → Int32) (k : Nat) : Nat → Nat → Int32
  | 0 => p
  | j + 1 => upd (upn p g k j) (k + j) (g j)
set_option maxRecDepth 8000 in
theorem c80 {q : Nat} {g : Nat → Int32} (hp : PT M a nb np bx pl) (hn : np < 4) (hq : M.1 (q + 1) = some (.inl (0, 8, .inl g))) (hqa : q + 1 < a ∨ a + 2 < q + 1) : mm_R S d 80 0 (mm_en 80 [.ref a, .ref (q + 1)]) [] M (fun v M' => v = some (.int (nI 1)) ∧ M' = mm_put (mm_put M (a + 2) (.inl (0, 32, .inl (upn pl g (np * 8) 8)))) a (.inr (6, [.ref (a + 1), .ref (a + 2), .int (nI nb), .int (nI (np + 1))]))) := by
  obtain ⟨h1, h2, h3, h4, h5⟩ := hp
  show mm_R S d 80 0 [some (.ref a), some (.ref (q + 1)), none, none] [] M _
  refine R_aload_n (q := 1) rfl rfl rfl ?_
  refine R_getf (q := 4) rfl rfl rfl (by first | assumption | exact mm_pe | (rw [mm_pn (by omega)]; first | assumption | exact mm_pe | (rw [mm_pn (by omega)]; first | assumption | exact mm_pe | (rw [mm_pn (by omega)]; first | assumption | exact mm_pe | (rw [mm_pn (by omega)]; first | assumption | exact mm_pe | (rw [mm_pn (by omega)]; first | assumption | exact mm_pe)))))) rfl ?_
  refine R_iconst (q := 5) (v := nI 4) rfl rfl (by decide) ?_
  refine R_icmp_ge (q := 8) (t := 15) rfl rfl rfl (fun h5 => absurd h5 (nI_ge hn (by decide))) (fun h5 => ?_)
  refine R_aload_n (q := 9) rfl rfl rfl ?_
  refine R_alen (q := 10) rfl rfl hq (by decide) ?_
  refine R_bipush (q := 12) (v := nI 8) rfl rfl (by decide) ?_
  refine R_icmp_ge (q := 15) (t := 17) rfl rfl rfl (fun h12 => ?_) (fun h12 => absurd (by decide) h12)
  refine R_aload_n (q := 18) rfl rfl rfl ?_
  refine R_getf (q := 21) rfl rfl rfl (by first | assumption | exact mm_pe | (rw [mm_pn (by omega)]; first | assumption | exact mm_pe | (rw [mm_pn (by omega)]; first | assumption | exact mm_pe | (rw [mm_pn (by omega)]; first | assumption | exact mm_pe | (rw [mm_pn (by omega)]; first | assumption | exact mm_pe | (rw [mm_pn (by omega)]; first | assumption | exact mm_pe)))))) rfl ?_
  refine R_bipush (q := 23) (v := nI 8) rfl rfl (by decide) ?_
  refine R_imul (q := 24) rfl rfl ?_
  rw [pk_mul]
  refine R_istore_n (q := 25) rfl rfl (Nat.le_of_ble_eq_true rfl) rfl ?_
  dsimp only [List.set]
  refine R_iconst (q := 26) (v := nI 0) rfl rfl (by decide) ?_
  refine R_istore_n (q := 27) rfl rfl (Nat.le_of_ble_eq_true rfl) rfl ?_
  dsimp only [List.set]
  refine R_atM (M' := mm_put M (a + 2) (.inl (0, 32, .inl (upn pl g (np * 8) 0)))) (mm_pself h3) ?_
  refine lpN (fun j => mm_R S d 80 27 [some (.ref a), some (.ref (q + 1)), some (.int (nI (np * 8))), some (.int (nI j))] [] (mm_put M (a + 2) (.inl (0, 32, .inl (upn pl g (np * 8) j)))) (fun v M' => v = some (.int (nI 1)) ∧ M' = mm_put (mm_put M (a + 2) (.inl (0, 32, .inl (upn pl g (np * 8) 8)))) a (.inr (6, [.ref (a + 1), .ref (a + 2), .int (nI nb), .int (nI (np + 1))])))) 8 (fun j hj ih => ?_) ?_ 0 (Nat.zero_le _)
  · skip
    refine R_iload_n (q := 28) rfl rfl rfl ?_
    refine R_bipush (q := 30) (v := nI 8) rfl rfl (by decide) ?_
    refine R_icmp_ge (q := 33) (t := 50) rfl rfl rfl (fun h30 => absurd h30 (nI_ge hj (by decide))) (fun h30 => ?_)
    refine R_aload_n (q := 34) rfl rfl rfl ?_
    refine R_getf (q := 37) rfl rfl rfl (by first | assumption | exact mm_pe | (rw [mm_pn (by omega)]; first | assumption | exact mm_pe | (rw [mm_pn (by omega)]; first | assumption | exact mm_pe | (rw [mm_pn (by omega)]; first | assumption | exact mm_pe | (rw [mm_pn (by omega)]; first | assumption | exact mm_pe | (rw [mm_pn (by omega)]; first | assumption | exact mm_pe)))))) rfl ?_
    refine R_iload_n (q := 38) rfl rfl rfl ?_
    refine R_iload_n (q := 39) rfl rfl rfl ?_
    refine R_iadd (q := 40) rfl rfl ?_
    rw [nI_add]
    refine R_aload_n (q := 41) rfl rfl rfl ?_
    refine R_iload_n (q := 42) rfl rfl rfl ?_
    refine R_iaload (q := 43) rfl rfl (by first | assumption | exact mm_pe | (rw [mm_pn (by omega)]; first | assumption | exact mm_pe | (rw [mm_pn (by omega)]; first | assumption | exact mm_pe | (rw [mm_pn (by omega)]; first | assumption | exact mm_pe | (rw [mm_pn (by omega)]; first | assumption | exact mm_pe | (rw [mm_pn (by omega)]; first | assumption | exact mm_pe)))))) (by omega) (by first | assumption | exact in_nI (by omega) (by decide)) ?_
    refine R_iastore (q := 44) rfl rfl (by first | assumption | exact mm_pe | (rw [mm_pn (by omega)]; first | assumption | exact mm_pe | (rw [mm_pn (by omega)]; first | assumption | exact mm_pe | (rw [mm_pn (by omega)]; first | assumption | exact mm_pe | (rw [mm_pn (by omega)]; first | assumption | exact mm_pe | (rw [mm_pn (by omega)]; first | assumption | exact mm_pe)))))) (by first | assumption | exact in_nI (by omega) (by decide)) ?_
    rw [cl_nI (by omega), cl_nI (by omega), mm_pp]
    refine R_iinc (q := 47) rfl rfl rfl (nI_i1 j) rfl ?_
    dsimp only [List.set]
    refine R_goto (t := 27) rfl rfl ?_
    exact ih
  · refine R_iload_n (q := 28) rfl rfl rfl ?_
    refine R_bipush (q := 30) (v := nI 8) rfl rfl (by decide) ?_
    refine R_icmp_ge (q := 33) (t := 50) rfl rfl rfl (fun h30 => ?_) (fun h30 => absurd (nI_le (Nat.le_refl _) (by decide)) h30)
    refine R_aload_n (q := 51) rfl rfl rfl ?_
    first | refine R_dupa (q := 52) rfl rfl ?_ | refine R_dupi (q := 52) rfl rfl ?_
    refine R_getf (q := 55) rfl rfl rfl (by first | assumption | exact mm_pe | (rw [mm_pn (by omega)]; first | assumption | exact mm_pe | (rw [mm_pn (by omega)]; first | assumption | exact mm_pe | (rw [mm_pn (by omega)]; first | assumption | exact mm_pe | (rw [mm_pn (by omega)]; first | assumption | exact mm_pe | (rw [mm_pn (by omega)]; first | assumption | exact mm_pe)))))) rfl ?_
    refine R_iconst (q := 56) (v := nI 1) rfl rfl (by decide) ?_
    refine R_iadd (q := 57) rfl rfl ?_
    rw [nI_add]
    refine R_putf (q := 60) rfl rfl rfl (by first | assumption | exact mm_pe | (rw [mm_pn (by omega)]; first | assumption | exact mm_pe | (rw [mm_pn (by omega)]; first | assumption | exact mm_pe | (rw [mm_pn (by omega)]; first | assumption | exact mm_pe | (rw [mm_pn (by omega)]; first | assumption | exact mm_pe | (rw [mm_pn (by omega)]; first | assumption | exact mm_pe)))))) (Nat.le_of_ble_eq_true rfl) rfl (fun hf => absurd hf (by decide)) rfl ?_
    dsimp only [List.set]
    refine R_iconst (q := 61) (v := nI 1) rfl rfl (by decide) ?_
    refine R_zreturn rfl rfl (by first | exact Or.inl rfl | exact Or.inr rfl | assumption) ?_
    exact ⟨rfl, rfl⟩
set_option maxRecDepth 8000 in
theorem c81 {i q : Nat} (hp : PT M a nb np bx pl) (hi : i * 4 + q < 24) : mm_R S d 81 0 (mm_en 81 [.ref a, .int (nI i), .int (nI q)]) [] M (fun v M' => v = some (.int (bx (i * 4 + q))) ∧ M' = M) := by
  obtain ⟨h1, h2, h3, h4, h5⟩ := hp
  show mm_R S d 81 0 [some (.ref a), some (.int (nI i)), some (.int (nI q))] [] M _
  refine R_aload_n (q := 1) rfl rfl rfl ?_
  refine R_getf (q := 4) rfl rfl rfl (by first | assumption | exact mm_pe | (rw [mm_pn (by omega)]; first | assumption | exact mm_pe | (rw [mm_pn (by omega)]; first | assumption | exact mm_pe | (rw [mm_pn (by omega)]; first | assumption | exact mm_pe | (rw [mm_pn (by omega)]; first | assumption | exact mm_pe | (rw [mm_pn (by omega)]; first | assumption | exact mm_pe)))))) rfl ?_
  refine R_iload_n (q := 5) rfl rfl rfl ?_
  refine R_iconst (q := 6) (v := nI 4) rfl rfl (by decide) ?_
  refine R_imul (q := 7) rfl rfl ?_
  rw [pk_mul]
  refine R_iload_n (q := 8) rfl rfl rfl ?_
  refine R_iadd (q := 9) rfl rfl ?_
  rw [nI_add]
  refine R_iaload (q := 10) rfl rfl (by first | assumption | exact mm_pe | (rw [mm_pn (by omega)]; first | assumption | exact mm_pe | (rw [mm_pn (by omega)]; first | assumption | exact mm_pe | (rw [mm_pn (by omega)]; first | assumption | exact mm_pe | (rw [mm_pn (by omega)]; first | assumption | exact mm_pe | (rw [mm_pn (by omega)]; first | assumption | exact mm_pe)))))) (by omega) (by first | assumption | exact in_nI (by omega) (by decide)) ?_
  rw [cl_nI (by omega)]
  refine R_ireturn rfl rfl ?_
  exact ⟨rfl, rfl⟩
set_option maxRecDepth 8000 in
theorem c82 {i q : Nat} (hp : PT M a nb np bx pl) (hi : i * 8 + q < 32) : mm_R S d 82 0 (mm_en 82 [.ref a, .int (nI i), .int (nI q)]) [] M (fun v M' => v = some (.int (pl (i * 8 + q))) ∧ M' = M) := by
  obtain ⟨h1, h2, h3, h4, h5⟩ := hp
  show mm_R S d 82 0 [some (.ref a), some (.int (nI i)), some (.int (nI q))] [] M _
  refine R_aload_n (q := 1) rfl rfl rfl ?_
  refine R_getf (q := 4) rfl rfl rfl (by first | assumption | exact mm_pe | (rw [mm_pn (by omega)]; first | assumption | exact mm_pe | (rw [mm_pn (by omega)]; first | assumption | exact mm_pe | (rw [mm_pn (by omega)]; first | assumption | exact mm_pe | (rw [mm_pn (by omega)]; first | assumption | exact mm_pe | (rw [mm_pn (by omega)]; first | assumption | exact mm_pe)))))) rfl ?_
  refine R_iload_n (q := 5) rfl rfl rfl ?_
  refine R_bipush (q := 7) (v := nI 8) rfl rfl (by decide) ?_
  refine R_imul (q := 8) rfl rfl ?_
  rw [pk_mul]
  refine R_iload_n (q := 9) rfl rfl rfl ?_
  refine R_iadd (q := 10) rfl rfl ?_
  rw [nI_add]
  refine R_iaload (q := 11) rfl rfl (by first | assumption | exact mm_pe | (rw [mm_pn (by omega)]; first | assumption | exact mm_pe | (rw [mm_pn (by omega)]; first | assumption | exact mm_pe | (rw [mm_pn (by omega)]; first | assumption | exact mm_pe | (rw [mm_pn (by omega)]; first | assumption | exact mm_pe | (rw [mm_pn (by omega)]; first | assumption | exact mm_pe)))))) (by omega) (by first | assumption | exact in_nI (by omega) (by decide)) ?_
  rw [cl_nI (by omega)]
  refine R_ireturn rfl rfl ?_
  exact ⟨rfl, rfl⟩
end P20b
end
section
/-! ===== Layout: the object at 8, its parts' row at 9, totals at 10, what comes at 11, the parts from 12 on, three cells each ===== -/
def LYH (M : mm_M) : Prop := M.1 8 = some (.inr (4, [.ref 9, .ref 10, .ref 11])) ∧ ∃ pf, M.1 9 = some (.inl (3, 6, .inr (.inr (.inr (.inr pf))))) ∧ ∀ c, c < 6 → pf c = some (12 + 3 * c)
def LYP (M : mm_M) (nb np : Nat → Nat) (bx pl : Nat → Nat → Int32) : Prop := ∀ c, c < 6 → PT M (12 + 3 * c) (nb c) (np c) (bx c) (pl c)
theorem PT_off {M : mm_M} {a nb np x : Nat} {bx pl : Nat → Int32} {c : mm_E} (h : PT M a nb np bx pl) (hx : x < a ∨ a + 2 < x) : PT (mm_put M x c) a nb np bx pl := ⟨by rw [mm_pn (by omega)]; exact h.1, by rw [mm_pn (by omega)]; exact h.2.1, by rw [mm_pn (by omega)]; exact h.2.2.1, h.2.2.2⟩
theorem LYH_off {M : mm_M} {x : Nat} {c : mm_E} (h : LYH M) (hx : x < 8 ∨ 9 < x) : LYH (mm_put M x c) := by
  obtain ⟨h1, pf, h2, h3⟩ := h
  exact ⟨by rw [mm_pn (by omega)]; exact h1, pf, by rw [mm_pn (by omega)]; exact h2, h3⟩
theorem LYP_off {M : mm_M} {nb np : Nat → Nat} {bx pl : Nat → Nat → Int32} {x : Nat} {c : mm_E} (h : LYP M nb np bx pl) (hx : x < 12 ∨ 29 < x) : LYP (mm_put M x c) nb np bx pl := fun k hk => PT_off (h k hk) (by omega)
def pq (p : Nat → Int32) (k f : Nat) : Nat := (p (k * 8 + f)).toNatClampNeg
def sm (x : Int32) : Prop := -16 ≤ x.toInt ∧ x.toInt ≤ 16
def plok (c : Nat) (p : Nat → Int32) (k : Nat) : Prop := (p (k * 8 + 0) = nI (pq p k 0) ∧ pq p k 0 < c) ∧ (p (k * 8 + 1) = nI (pq p k 1) ∧ pq p k 1 < 8) ∧ (sm (p (k * 8 + 2)) ∧ sm (p (k * 8 + 3))) ∧ (sm (p (k * 8 + 4)) ∧ sm (p (k * 8 + 5))) ∧ (p (k * 8 + 6) = nI (pq p k 6) ∧ 1 ≤ pq p k 6 ∧ pq p k 6 ≤ 4) ∧ (p (k * 8 + 7) = nI (pq p k 7) ∧ 1 ≤ pq p k 7 ∧ pq p k 7 ≤ 4)
def bxok (p : Nat → Int32) (k : Nat) : Prop := (sm (p (k * 4 + 0)) ∧ sm (p (k * 4 + 1))) ∧ (1 ≤ (p (k * 4 + 2)).toInt ∧ (p (k * 4 + 2)).toInt ≤ 16) ∧ (1 ≤ (p (k * 4 + 3)).toInt ∧ (p (k * 4 + 3)).toInt ≤ 16)
def LYV (nb np : Nat → Nat) (bx pl : Nat → Nat → Int32) : Prop := ∀ c, c < 6 → (∀ k, k < nb c → bxok (bx c) k) ∧ ∀ k, k < np c → plok c (pl c) k
section P21
variable {S : mm_S} {d : Nat} {M : mm_M} {nb np : Nat → Nat} {bx pl : Nat → Nat → Int32}
set_option maxRecDepth 8000 in
theorem c54_full {c : Nat} {x y w h1 : Int32} (h : LYH M) (hp : LYP M nb np bx pl) (hc : c < 6) (hn : nb c = 6) : mm_R S (d + 1) 54 0 (mm_en 54 [.ref 8, .int (nI c), .int x, .int y, .int w, .int h1]) [] M (fun v M' => v = some (.int (nI 0)) ∧ M' = M) := by
  obtain ⟨hh1, pf, h2, hpf⟩ := h
  have hp1 := hp c hc
  obtain ⟨p1, p2, p3, p4, p5⟩ := id hp1
  have hci := in_nI hc (by decide)
  show mm_R S (d + 1) 54 0 [some (.ref 8), some (.int (nI c)), some (.int x), some (.int y), some (.int w), some (.int h1)] [] M _
  refine R_aload_n (q := 1) rfl rfl rfl ?_
  refine R_getf (q := 4) rfl rfl rfl (by first | assumption | exact mm_pe | (rw [mm_pn (by omega)]; first | assumption | exact mm_pe | (rw [mm_pn (by omega)]; first | assumption | exact mm_pe | (rw [mm_pn (by omega)]; first | assumption | exact mm_pe | (rw [mm_pn (by omega)]; first | assumption | exact mm_pe | (rw [mm_pn (by omega)]; first | assumption | exact mm_pe)))))) rfl ?_
  refine R_iload_n (q := 5) rfl rfl rfl ?_
  refine R_aaload (q := 6) rfl rfl (by first | assumption | exact mm_pe | (rw [mm_pn (by omega)]; first | assumption | exact mm_pe | (rw [mm_pn (by omega)]; first | assumption | exact mm_pe | (rw [mm_pn (by omega)]; first | assumption | exact mm_pe | (rw [mm_pn (by omega)]; first | assumption | exact mm_pe | (rw [mm_pn (by omega)]; first | assumption | exact mm_pe)))))) rfl (by first | assumption | exact in_nI (by omega) (by decide)) (by rw [cl_nI (by omega)]; exact hpf c hc) ?_
  refine R_iload_n (q := 7) rfl rfl rfl ?_
  refine R_iload_n (q := 8) rfl rfl rfl ?_
  refine R_iload (q := 10) rfl rfl rfl ?_
  refine R_iload (q := 12) rfl rfl rfl ?_
  refine R_callv4 (q := 15) rfl rfl rfl rfl p1 (Nat.le_of_ble_eq_true rfl) rfl ?_
  refine R_mono (c79_full hp1 hn) (fun v12 M12 hr12 => ?_)
  obtain ⟨rfl, hm12⟩ := hr12
  rw [hm12]
  dsimp only [Option.toList, List.cons_append, List.nil_append]
  refine R_zreturn rfl rfl (Or.inl rfl) ?_
  exact ⟨rfl, rfl⟩
set_option maxRecDepth 8000 in
theorem c54 {c : Nat} {x y w h1 : Int32} (h : LYH M) (hp : LYP M nb np bx pl) (hc : c < 6) (hn : nb c < 6) : mm_R S (d + 1) 54 0 (mm_en 54 [.ref 8, .int (nI c), .int x, .int y, .int w, .int h1]) [] M (fun v M' => v = some (.int (nI 1)) ∧ M' = mm_put (mm_put M (12 + 3 * c + 1) (.inl (0, 24, .inl (up4 (bx c) (nb c * 4) x y w h1)))) (12 + 3 * c) (.inr (6, [.ref (12 + 3 * c + 1), .ref (12 + 3 * c + 2), .int (nI (nb c + 1)), .int (nI (np c))]))) := by
  obtain ⟨hh1, pf, h2, hpf⟩ := h
  have hp1 := hp c hc
  obtain ⟨p1, p2, p3, p4, p5⟩ := id hp1
  have hci := in_nI hc (by decide)
  show mm_R S (d + 1) 54 0 [some (.ref 8), some (.int (nI c)), some (.int x), some (.int y), some (.int w), some (.int h1)] [] M _
  refine R_aload_n (q := 1) rfl rfl rfl ?_
  refine R_getf (q := 4) rfl rfl rfl (by first | assumption | exact mm_pe | (rw [mm_pn (by omega)]; first | assumption | exact mm_pe | (rw [mm_pn (by omega)]; first | assumption | exact mm_pe | (rw [mm_pn (by omega)]; first | assumption | exact mm_pe | (rw [mm_pn (by omega)]; first | assumption | exact mm_pe | (rw [mm_pn (by omega)]; first | assumption | exact mm_pe)))))) rfl ?_
  refine R_iload_n (q := 5) rfl rfl rfl ?_
  refine R_aaload (q := 6) rfl rfl (by first | assumption | exact mm_pe | (rw [mm_pn (by omega)]; first | assumption | exact mm_pe | (rw [mm_pn (by omega)]; first | assumption | exact mm_pe | (rw [mm_pn (by omega)]; first | assumption | exact mm_pe | (rw [mm_pn (by omega)]; first | assumption | exact mm_pe | (rw [mm_pn (by omega)]; first | assumption | exact mm_pe)))))) rfl (by first | assumption | exact in_nI (by omega) (by decide)) (by rw [cl_nI (by omega)]; exact hpf c hc) ?_
  refine R_iload_n (q := 7) rfl rfl rfl ?_
  refine R_iload_n (q := 8) rfl rfl rfl ?_
  refine R_iload (q := 10) rfl rfl rfl ?_
  refine R_iload (q := 12) rfl rfl rfl ?_
  refine R_callv4 (q := 15) rfl rfl rfl rfl p1 (Nat.le_of_ble_eq_true rfl) rfl ?_
  refine R_mono (c79 hp1 hn) (fun v12 M12 hr12 => ?_)
  obtain ⟨rfl, hm12⟩ := hr12
  rw [hm12]
  dsimp only [Option.toList, List.cons_append, List.nil_append]
  refine R_zreturn rfl rfl (Or.inr rfl) ?_
  exact ⟨rfl, rfl⟩
set_option maxRecDepth 8000 in
theorem c58 {c : Nat} (h : LYH M) (hp : LYP M nb np bx pl) (hc : c < 6) : mm_R S (d + 1) 58 0 (mm_en 58 [.ref 8, .int (nI c)]) [] M (fun v M' => v = none ∧ M' = mm_put M (12 + 3 * c) (.inr (6, [.ref (12 + 3 * c + 1), .ref (12 + 3 * c + 2), .int (nI 0), .int (nI 0)]))) := by
  obtain ⟨h1, pf, h2, hpf⟩ := h
  have hp1 := hp c hc
  obtain ⟨p1, p2, p3, p4, p5⟩ := id hp1
  have hci := in_nI hc (by decide)
  show mm_R S (d + 1) 58 0 [some (.ref 8), some (.int (nI c))] [] M _
  refine R_aload_n (q := 1) rfl rfl rfl ?_
  refine R_getf (q := 4) rfl rfl rfl (by first | assumption | exact mm_pe | (rw [mm_pn (by omega)]; first | assumption | exact mm_pe | (rw [mm_pn (by omega)]; first | assumption | exact mm_pe | (rw [mm_pn (by omega)]; first | assumption | exact mm_pe | (rw [mm_pn (by omega)]; first | assumption | exact mm_pe | (rw [mm_pn (by omega)]; first | assumption | exact mm_pe)))))) rfl ?_
  refine R_iload_n (q := 5) rfl rfl rfl ?_
  refine R_aaload (q := 6) rfl rfl (by first | assumption | exact mm_pe | (rw [mm_pn (by omega)]; first | assumption | exact mm_pe | (rw [mm_pn (by omega)]; first | assumption | exact mm_pe | (rw [mm_pn (by omega)]; first | assumption | exact mm_pe | (rw [mm_pn (by omega)]; first | assumption | exact mm_pe | (rw [mm_pn (by omega)]; first | assumption | exact mm_pe)))))) rfl (by first | assumption | exact in_nI (by omega) (by decide)) (by rw [cl_nI (by omega)]; exact hpf c hc) ?_
  refine R_callv0 (q := 9) rfl rfl rfl rfl p1 (Nat.le_of_ble_eq_true rfl) rfl ?_
  refine R_mono (c76 hp1) (fun v6 M6 hr6 => ?_)
  obtain ⟨rfl, hm6⟩ := hr6
  rw [hm6]
  dsimp only [Option.toList, List.cons_append, List.nil_append]
  refine R_return rfl rfl ?_
  exact ⟨rfl, rfl⟩
set_option maxRecDepth 8000 in
theorem c55 {x y t : Int32} {cm : Nat → Int32} (h : LYH M) (hm : M.1 11 = some (.inl (0, 8, .inl cm))) : mm_R S d 55 0 (mm_en 55 [.ref 8, .int x, .int y, .int t]) [] M (fun v M' => v = none ∧ M' = mm_put M 11 (.inl (0, 8, .inl (upd (upd (upd cm 2 x) 3 y) 1 t)))) := by
  obtain ⟨h1, pf, h2, hpf⟩ := h
  show mm_R S d 55 0 [some (.ref 8), some (.int x), some (.int y), some (.int t)] [] M _
  refine R_aload_n (q := 1) rfl rfl rfl ?_
  refine R_getf (q := 4) rfl rfl rfl (by first | assumption | exact mm_pe | (rw [mm_pn (by omega)]; first | assumption | exact mm_pe | (rw [mm_pn (by omega)]; first | assumption | exact mm_pe | (rw [mm_pn (by omega)]; first | assumption | exact mm_pe | (rw [mm_pn (by omega)]; first | assumption | exact mm_pe | (rw [mm_pn (by omega)]; first | assumption | exact mm_pe)))))) rfl ?_
  refine R_iconst (q := 5) (v := nI 2) rfl rfl (by decide) ?_
  refine R_iload_n (q := 6) rfl rfl rfl ?_
  refine R_iastore (q := 7) rfl rfl (by first | assumption | exact mm_pe | (rw [mm_pn (by omega)]; first | assumption | exact mm_pe | (rw [mm_pn (by omega)]; first | assumption | exact mm_pe | (rw [mm_pn (by omega)]; first | assumption | exact mm_pe | (rw [mm_pn (by omega)]; first | assumption | exact mm_pe | (rw [mm_pn (by omega)]; first | assumption | exact mm_pe)))))) (by first | assumption | exact in_nI (by omega) (by decide)) ?_
  rw [cl_nI (by omega)]
  refine R_aload_n (q := 8) rfl rfl rfl ?_
  refine R_getf (q := 11) rfl rfl rfl (by first | assumption | exact mm_pe | (rw [mm_pn (by omega)]; first | assumption | exact mm_pe | (rw [mm_pn (by omega)]; first | assumption | exact mm_pe | (rw [mm_pn (by omega)]; first | assumption | exact mm_pe | (rw [mm_pn (by omega)]; first | assumption | exact mm_pe | (rw [mm_pn (by omega)]; first | assumption | exact mm_pe)))))) rfl ?_
  refine R_iconst (q := 12) (v := nI 3) rfl rfl (by decide) ?_
  refine R_iload_n (q := 13) rfl rfl rfl ?_
  refine R_iastore (q := 14) rfl rfl (by first | assumption | exact mm_pe | (rw [mm_pn (by omega)]; first | assumption | exact mm_pe | (rw [mm_pn (by omega)]; first | assumption | exact mm_pe | (rw [mm_pn (by omega)]; first | assumption | exact mm_pe | (rw [mm_pn (by omega)]; first | assumption | exact mm_pe | (rw [mm_pn (by omega)]; first | assumption | exact mm_pe)))))) (by first | assumption | exact in_nI (by omega) (by decide)) ?_
  rw [cl_nI (by omega), mm_pp]
  refine R_aload_n (q := 15) rfl rfl rfl ?_
  refine R_getf (q := 18) rfl rfl rfl (by first | assumption | exact mm_pe | (rw [mm_pn (by omega)]; first | assumption | exact mm_pe | (rw [mm_pn (by omega)]; first | assumption | exact mm_pe | (rw [mm_pn (by omega)]; first | assumption | exact mm_pe | (rw [mm_pn (by omega)]; first | assumption | exact mm_pe | (rw [mm_pn (by omega)]; first | assumption | exact mm_pe)))))) rfl ?_
  refine R_iconst (q := 19) (v := nI 1) rfl rfl (by decide) ?_
  refine R_iload_n (q := 20) rfl rfl rfl ?_
  refine R_iastore (q := 21) rfl rfl (by first | assumption | exact mm_pe | (rw [mm_pn (by omega)]; first | assumption | exact mm_pe | (rw [mm_pn (by omega)]; first | assumption | exact mm_pe | (rw [mm_pn (by omega)]; first | assumption | exact mm_pe | (rw [mm_pn (by omega)]; first | assumption | exact mm_pe | (rw [mm_pn (by omega)]; first | assumption | exact mm_pe)))))) (by first | assumption | exact in_nI (by omega) (by decide)) ?_
  rw [cl_nI (by omega), mm_pp]
  refine R_return rfl rfl ?_
  exact ⟨rfl, rfl⟩
set_option maxRecDepth 8000 in
theorem c56 {x y : Int32} {cm : Nat → Int32} (h : LYH M) (hm : M.1 11 = some (.inl (0, 8, .inl cm))) : mm_R S d 56 0 (mm_en 56 [.ref 8, .int x, .int y]) [] M (fun v M' => v = none ∧ M' = mm_put M 11 (.inl (0, 8, .inl (upd (upd cm 4 x) 5 y)))) := by
  obtain ⟨h1, pf, h2, hpf⟩ := h
  show mm_R S d 56 0 [some (.ref 8), some (.int x), some (.int y)] [] M _
  refine R_aload_n (q := 1) rfl rfl rfl ?_
  refine R_getf (q := 4) rfl rfl rfl (by first | assumption | exact mm_pe | (rw [mm_pn (by omega)]; first | assumption | exact mm_pe | (rw [mm_pn (by omega)]; first | assumption | exact mm_pe | (rw [mm_pn (by omega)]; first | assumption | exact mm_pe | (rw [mm_pn (by omega)]; first | assumption | exact mm_pe | (rw [mm_pn (by omega)]; first | assumption | exact mm_pe)))))) rfl ?_
  refine R_iconst (q := 5) (v := nI 4) rfl rfl (by decide) ?_
  refine R_iload_n (q := 6) rfl rfl rfl ?_
  refine R_iastore (q := 7) rfl rfl (by first | assumption | exact mm_pe | (rw [mm_pn (by omega)]; first | assumption | exact mm_pe | (rw [mm_pn (by omega)]; first | assumption | exact mm_pe | (rw [mm_pn (by omega)]; first | assumption | exact mm_pe | (rw [mm_pn (by omega)]; first | assumption | exact mm_pe | (rw [mm_pn (by omega)]; first | assumption | exact mm_pe)))))) (by first | assumption | exact in_nI (by omega) (by decide)) ?_
  rw [cl_nI (by omega)]
  refine R_aload_n (q := 8) rfl rfl rfl ?_
  refine R_getf (q := 11) rfl rfl rfl (by first | assumption | exact mm_pe | (rw [mm_pn (by omega)]; first | assumption | exact mm_pe | (rw [mm_pn (by omega)]; first | assumption | exact mm_pe | (rw [mm_pn (by omega)]; first | assumption | exact mm_pe | (rw [mm_pn (by omega)]; first | assumption | exact mm_pe | (rw [mm_pn (by omega)]; first | assumption | exact mm_pe)))))) rfl ?_
  refine R_iconst (q := 12) (v := nI 5) rfl rfl (by decide) ?_
  refine R_iload_n (q := 13) rfl rfl rfl ?_
  refine R_iastore (q := 14) rfl rfl (by first | assumption | exact mm_pe | (rw [mm_pn (by omega)]; first | assumption | exact mm_pe | (rw [mm_pn (by omega)]; first | assumption | exact mm_pe | (rw [mm_pn (by omega)]; first | assumption | exact mm_pe | (rw [mm_pn (by omega)]; first | assumption | exact mm_pe | (rw [mm_pn (by omega)]; first | assumption | exact mm_pe)))))) (by first | assumption | exact in_nI (by omega) (by decide)) ?_
  rw [cl_nI (by omega), mm_pp]
  refine R_return rfl rfl ?_
  exact ⟨rfl, rfl⟩
set_option maxRecDepth 8000 in
theorem c57_full {c : Nat} {z x y : Int32} {cm : Nat → Int32} (h : LYH M) (hp : LYP M nb np bx pl) (hm : M.1 11 = some (.inl (0, 8, .inl cm))) (hc : c < 6) (hn : np c = 4) : mm_R S (d + 1) 57 0 (mm_en 57 [.ref 8, .int (nI c), .int z, .int x, .int y]) [] M (fun v M' => v = some (.int (nI 0)) ∧ M' = (mm_put M 11 (.inl (0, 8, .inl (upd (upd (upd cm 0 z) 6 x) 7 y))))) := by
  have hp1 := LYP_off (x := 11) (c := .inl (0, 8, .inl (upd (upd (upd cm 0 z) 6 x) 7 y))) hp (by omega) c hc
  obtain ⟨h1, pf, h2, hpf⟩ := h
  obtain ⟨p1, p2, p3, p4, p5⟩ := id hp1
  have hci := in_nI hc (by decide)
  show mm_R S (d + 1) 57 0 [some (.ref 8), some (.int (nI c)), some (.int z), some (.int x), some (.int y)] [] M _
  refine R_aload_n (q := 1) rfl rfl rfl ?_
  refine R_getf (q := 4) rfl rfl rfl (by first | assumption | exact mm_pe | (rw [mm_pn (by omega)]; first | assumption | exact mm_pe | (rw [mm_pn (by omega)]; first | assumption | exact mm_pe | (rw [mm_pn (by omega)]; first | assumption | exact mm_pe | (rw [mm_pn (by omega)]; first | assumption | exact mm_pe | (rw [mm_pn (by omega)]; first | assumption | exact mm_pe)))))) rfl ?_
  refine R_iconst (q := 5) (v := nI 0) rfl rfl (by decide) ?_
  refine R_iload_n (q := 6) rfl rfl rfl ?_
  refine R_iastore (q := 7) rfl rfl (by first | assumption | exact mm_pe | (rw [mm_pn (by omega)]; first | assumption | exact mm_pe | (rw [mm_pn (by omega)]; first | assumption | exact mm_pe | (rw [mm_pn (by omega)]; first | assumption | exact mm_pe | (rw [mm_pn (by omega)]; first | assumption | exact mm_pe | (rw [mm_pn (by omega)]; first | assumption | exact mm_pe)))))) (by first | assumption | exact in_nI (by omega) (by decide)) ?_
  rw [cl_nI (by omega)]
  refine R_aload_n (q := 8) rfl rfl rfl ?_
  refine R_getf (q := 11) rfl rfl rfl (by first | assumption | exact mm_pe | (rw [mm_pn (by omega)]; first | assumption | exact mm_pe | (rw [mm_pn (by omega)]; first | assumption | exact mm_pe | (rw [mm_pn (by omega)]; first | assumption | exact mm_pe | (rw [mm_pn (by omega)]; first | assumption | exact mm_pe | (rw [mm_pn (by omega)]; first | assumption | exact mm_pe)))))) rfl ?_
  refine R_bipush (q := 13) (v := nI 6) rfl rfl (by decide) ?_
  refine R_iload_n (q := 14) rfl rfl rfl ?_
  refine R_iastore (q := 15) rfl rfl (by first | assumption | exact mm_pe | (rw [mm_pn (by omega)]; first | assumption | exact mm_pe | (rw [mm_pn (by omega)]; first | assumption | exact mm_pe | (rw [mm_pn (by omega)]; first | assumption | exact mm_pe | (rw [mm_pn (by omega)]; first | assumption | exact mm_pe | (rw [mm_pn (by omega)]; first | assumption | exact mm_pe)))))) (by first | assumption | exact in_nI (by omega) (by decide)) ?_
  rw [cl_nI (by omega), mm_pp]
  refine R_aload_n (q := 16) rfl rfl rfl ?_
  refine R_getf (q := 19) rfl rfl rfl (by first | assumption | exact mm_pe | (rw [mm_pn (by omega)]; first | assumption | exact mm_pe | (rw [mm_pn (by omega)]; first | assumption | exact mm_pe | (rw [mm_pn (by omega)]; first | assumption | exact mm_pe | (rw [mm_pn (by omega)]; first | assumption | exact mm_pe | (rw [mm_pn (by omega)]; first | assumption | exact mm_pe)))))) rfl ?_
  refine R_bipush (q := 21) (v := nI 7) rfl rfl (by decide) ?_
  refine R_iload (q := 23) rfl rfl rfl ?_
  refine R_iastore (q := 24) rfl rfl (by first | assumption | exact mm_pe | (rw [mm_pn (by omega)]; first | assumption | exact mm_pe | (rw [mm_pn (by omega)]; first | assumption | exact mm_pe | (rw [mm_pn (by omega)]; first | assumption | exact mm_pe | (rw [mm_pn (by omega)]; first | assumption | exact mm_pe | (rw [mm_pn (by omega)]; first | assumption | exact mm_pe)))))) (by first | assumption | exact in_nI (by omega) (by decide)) ?_
  rw [cl_nI (by omega), mm_pp]
  refine R_aload_n (q := 25) rfl rfl rfl ?_
  refine R_getf (q := 28) rfl rfl rfl (by first | assumption | exact mm_pe | (rw [mm_pn (by omega)]; first | assumption | exact mm_pe | (rw [mm_pn (by omega)]; first | assumption | exact mm_pe | (rw [mm_pn (by omega)]; first | assumption | exact mm_pe | (rw [mm_pn (by omega)]; first | assumption | exact mm_pe | (rw [mm_pn (by omega)]; first | assumption | exact mm_pe)))))) rfl ?_
  refine R_iload_n (q := 29) rfl rfl rfl ?_
  refine R_aaload (q := 30) rfl rfl (by first | assumption | exact mm_pe | (rw [mm_pn (by omega)]; first | assumption | exact mm_pe | (rw [mm_pn (by omega)]; first | assumption | exact mm_pe | (rw [mm_pn (by omega)]; first | assumption | exact mm_pe | (rw [mm_pn (by omega)]; first | assumption | exact mm_pe | (rw [mm_pn (by omega)]; first | assumption | exact mm_pe)))))) rfl (by first | assumption | exact in_nI (by omega) (by decide)) (by rw [cl_nI (by omega)]; exact hpf c hc) ?_
  refine R_aload_n (q := 31) rfl rfl rfl ?_
  refine R_getf (q := 34) rfl rfl rfl (by first | assumption | exact mm_pe | (rw [mm_pn (by omega)]; first | assumption | exact mm_pe | (rw [mm_pn (by omega)]; first | assumption | exact mm_pe | (rw [mm_pn (by omega)]; first | assumption | exact mm_pe | (rw [mm_pn (by omega)]; first | assumption | exact mm_pe | (rw [mm_pn (by omega)]; first | assumption | exact mm_pe)))))) rfl ?_
  refine R_callv1 (q := 37) rfl rfl rfl rfl p1 (Nat.le_of_ble_eq_true rfl) rfl ?_
  refine R_mono (c80_full hp1 hn) (fun v34 M34 hr34 => ?_)
  obtain ⟨rfl, hm34⟩ := hr34
  rw [hm34]
  dsimp only [Option.toList, List.cons_append, List.nil_append]
  refine R_zreturn rfl rfl (Or.inl rfl) ?_
  exact ⟨rfl, rfl⟩
set_option maxRecDepth 8000 in
theorem c57 {c : Nat} {z x y : Int32} {cm : Nat → Int32} (h : LYH M) (hp : LYP M nb np bx pl) (hm : M.1 11 = some (.inl (0, 8, .inl cm))) (hc : c < 6) (hn : np c < 4) : mm_R S (d + 1) 57 0 (mm_en 57 [.ref 8, .int (nI c), .int z, .int x, .int y]) [] M (fun v M' => v = some (.int (nI 1)) ∧ M' = mm_put (mm_put (mm_put M 11 (.inl (0, 8, .inl (upd (upd (upd cm 0 z) 6 x) 7 y)))) (12 + 3 * c + 2) (.inl (0, 32, .inl (upn (pl c) (upd (upd (upd cm 0 z) 6 x) 7 y) (np c * 8) 8)))) (12 + 3 * c) (.inr (6, [.ref (12 + 3 * c + 1), .ref (12 + 3 * c + 2), .int (nI (nb c)), .int (nI (np c + 1))]))) := by
  have hp1 := LYP_off (x := 11) (c := .inl (0, 8, .inl (upd (upd (upd cm 0 z) 6 x) 7 y))) hp (by omega) c hc
  obtain ⟨h1, pf, h2, hpf⟩ := h
  obtain ⟨p1, p2, p3, p4, p5⟩ := id hp1
  have hci := in_nI hc (by decide)
  show mm_R S (d + 1) 57 0 [some (.ref 8), some (.int (nI c)), some (.int z), some (.int x), some (.int y)] [] M _
  refine R_aload_n (q := 1) rfl rfl rfl ?_
  refine R_getf (q := 4) rfl rfl rfl (by first | assumption | exact mm_pe | (rw [mm_pn (by omega)]; first | assumption | exact mm_pe | (rw [mm_pn (by omega)]; first | assumption | exact mm_pe | (rw [mm_pn (by omega)]; first | assumption | exact mm_pe | (rw [mm_pn (by omega)]; first | assumption | exact mm_pe | (rw [mm_pn (by omega)]; first | assumption | exact mm_pe)))))) rfl ?_
  refine R_iconst (q := 5) (v := nI 0) rfl rfl (by decide) ?_
  refine R_iload_n (q := 6) rfl rfl rfl ?_
  refine R_iastore (q := 7) rfl rfl (by first | assumption | exact mm_pe | (rw [mm_pn (by omega)]; first | assumption | exact mm_pe | (rw [mm_pn (by omega)]; first | assumption | exact mm_pe | (rw [mm_pn (by omega)]; first | assumption | exact mm_pe | (rw [mm_pn (by omega)]; first | assumption | exact mm_pe | (rw [mm_pn (by omega)]; first | assumption | exact mm_pe)))))) (by first | assumption | exact in_nI (by omega) (by decide)) ?_
  rw [cl_nI (by omega)]
  refine R_aload_n (q := 8) rfl rfl rfl ?_
  refine R_getf (q := 11) rfl rfl rfl (by first | assumption | exact mm_pe | (rw [mm_pn (by omega)]; first | assumption | exact mm_pe | (rw [mm_pn (by omega)]; first | assumption | exact mm_pe | (rw [mm_pn (by omega)]; first | assumption | exact mm_pe | (rw [mm_pn (by omega)]; first | assumption | exact mm_pe | (rw [mm_pn (by omega)]; first | assumption | exact mm_pe)))))) rfl ?_
  refine R_bipush (q := 13) (v := nI 6) rfl rfl (by decide) ?_
  refine R_iload_n (q := 14) rfl rfl rfl ?_
  refine R_iastore (q := 15) rfl rfl (by first | assumption | exact mm_pe | (rw [mm_pn (by omega)]; first | assumption | exact mm_pe | (rw [mm_pn (by omega)]; first | assumption | exact mm_pe | (rw [mm_pn (by omega)]; first | assumption | exact mm_pe | (rw [mm_pn (by omega)]; first | assumption | exact mm_pe | (rw [mm_pn (by omega)]; first | assumption | exact mm_pe)))))) (by first | assumption | exact in_nI (by omega) (by decide)) ?_
  rw [cl_nI (by omega), mm_pp]
  refine R_aload_n (q := 16) rfl rfl rfl ?_
  refine R_getf (q := 19) rfl rfl rfl (by first | assumption | exact mm_pe | (rw [mm_pn (by omega)]; first | assumption | exact mm_pe | (rw [mm_pn (by omega)]; first | assumption | exact mm_pe | (rw [mm_pn (by omega)]; first | assumption | exact mm_pe | (rw [mm_pn (by omega)]; first | assumption | exact mm_pe | (rw [mm_pn (by omega)]; first | assumption | exact mm_pe)))))) rfl ?_
  refine R_bipush (q := 21) (v := nI 7) rfl rfl (by decide) ?_
  refine R_iload (q := 23) rfl rfl rfl ?_
  refine R_iastore (q := 24) rfl rfl (by first | assumption | exact mm_pe | (rw [mm_pn (by omega)]; first | assumption | exact mm_pe | (rw [mm_pn (by omega)]; first | assumption | exact mm_pe | (rw [mm_pn (by omega)]; first | assumption | exact mm_pe | (rw [mm_pn (by omega)]; first | assumption | exact mm_pe | (rw [mm_pn (by omega)]; first | assumption | exact mm_pe)))))) (by first | assumption | exact in_nI (by omega) (by decide)) ?_
  rw [cl_nI (by omega), mm_pp]
  refine R_aload_n (q := 25) rfl rfl rfl ?_
  refine R_getf (q := 28) rfl rfl rfl (by first | assumption | exact mm_pe | (rw [mm_pn (by omega)]; first | assumption | exact mm_pe | (rw [mm_pn (by omega)]; first | assumption | exact mm_pe | (rw [mm_pn (by omega)]; first | assumption | exact mm_pe | (rw [mm_pn (by omega)]; first | assumption | exact mm_pe | (rw [mm_pn (by omega)]; first | assumption | exact mm_pe)))))) rfl ?_
  refine R_iload_n (q := 29) rfl rfl rfl ?_
  refine R_aaload (q := 30) rfl rfl (by first | assumption | exact mm_pe | (rw [mm_pn (by omega)]; first | assumption | exact mm_pe | (rw [mm_pn (by omega)]; first | assumption | exact mm_pe | (rw [mm_pn (by omega)]; first | assumption | exact mm_pe | (rw [mm_pn (by omega)]; first | assumption | exact mm_pe | (rw [mm_pn (by omega)]; first | assumption | exact mm_pe)))))) rfl (by first | assumption | exact in_nI (by omega) (by decide)) (by rw [cl_nI (by omega)]; exact hpf c hc) ?_
  refine R_aload_n (q := 31) rfl rfl rfl ?_
  refine R_getf (q := 34) rfl rfl rfl (by first | assumption | exact mm_pe | (rw [mm_pn (by omega)]; first | assumption | exact mm_pe | (rw [mm_pn (by omega)]; first | assumption | exact mm_pe | (rw [mm_pn (by omega)]; first | assumption | exact mm_pe | (rw [mm_pn (by omega)]; first | assumption | exact mm_pe | (rw [mm_pn (by omega)]; first | assumption | exact mm_pe)))))) rfl ?_
  refine R_callv1 (q := 37) rfl rfl rfl rfl p1 (Nat.le_of_ble_eq_true rfl) rfl ?_
  refine R_mono (c80 (q := 10) hp1 hn mm_pe (by omega)) (fun v34 M34 hr34 => ?_)
  obtain ⟨rfl, hm34⟩ := hr34
  rw [hm34]
  dsimp only [Option.toList, List.cons_append, List.nil_append]
  refine R_zreturn rfl rfl (Or.inr rfl) ?_
  exact ⟨rfl, rfl⟩
def tsum (p : Nat → Int32) (T : Nat → Nat) : Nat → Nat
  | 0 => 0
  | k + 1 => tsum p T k + pq p k 6 * pq p k 7 * T (pq p k 0)
def totL (nb np : Nat → Nat) (pl : Nat → Nat → Int32) : Nat → Nat → Nat
  | 0 => fun _ => 0
  | p + 1 => fun i => if i = p then min (nb p + tsum (pl p) (totL nb np pl p) (np p)) 201 else totL nb np pl p i
theorem totL_le : ∀ p i, totL nb np pl p i ≤ 201 := by
  intro p
  induction p with
  | zero => intro i; exact Nat.zero_le _
  | succ p ih =>
    intro i
    show (if i = p then min _ 201 else totL nb np pl p i) ≤ 201
    split
    · omega
    · exact ih i
theorem tsum_le {p : Nat → Int32} {T : Nat → Nat} {c n : Nat} (hp : ∀ k, k < n → plok c p k) (hT : ∀ i, T i ≤ 201) : ∀ k, k ≤ n → tsum p T k ≤ k * 3216 := by
  intro k
  induction k with
  | zero => intro _; exact Nat.le_refl _
  | succ k ih =>
    intro hk
    obtain ⟨-, -, -, -, ⟨-, -, h6⟩, -, -, h7⟩ := hp k (by omega)
    have h1 := ih (by omega)
    have h2 : pq p k 6 * pq p k 7 ≤ 16 := Nat.mul_le_mul h6 h7
    have h3 : pq p k 6 * pq p k 7 * T (pq p k 0) ≤ 16 * 201 := Nat.mul_le_mul h2 (hT _)
    show tsum p T k + pq p k 6 * pq p k 7 * T (pq p k 0) ≤ (k + 1) * 3216
    omega
theorem totL_lt {p i q : Nat} (h : i < p) (hq : p ≤ q) : totL nb np pl q i = totL nb np pl p i := by
  obtain ⟨k, rfl⟩ : ∃ k, q = p + k := ⟨q - p, by omega⟩
  clear hq
  induction k with
  | zero => rfl
  | succ k ih =>
    show (if i = p + k then _ else totL nb np pl (p + k) i) = _
    rw [if_neg (by omega)]
    exact ih
theorem TT_s {tt : Nat → Int32} {p : Nat} : upd (ifl (fun i => nI (totL nb np pl p i)) tt p) p (nI (min (nb p + tsum (pl p) (totL nb np pl p) (np p)) 201)) = ifl (fun i => nI (totL nb np pl (p + 1) i)) tt (p + 1) := by
  funext i
  unfold upd ifl
  by_cases h : i = p
  · subst h
    rw [if_pos rfl, if_pos (by omega)]
    show _ = nI (if i = i then _ else _)
    rw [if_pos rfl]
  · rw [if_neg h]
    by_cases h2 : i < p
    · rw [if_pos h2, if_pos (by omega)]
      show _ = nI (if i = p then _ else _)
      rw [if_neg h]
    · rw [if_neg h2, if_neg (by omega)]
set_option maxRecDepth 8000 in
theorem c59 {c : Nat} {tt : Nat → Int32} (h : LYH M) (hp : LYP M nb np bx pl) (hv : LYV nb np bx pl) (ht : M.1 10 = some (.inl (0, 6, .inl tt))) (hc : c < 6) : mm_R S (d + 1) 59 0 (mm_en 59 [.ref 8, .int (nI c)]) [] M (fun v M' => v = some (.int (nI (totL nb np pl (c + 1) c))) ∧ M' = mm_put M 10 (.inl (0, 6, .inl (ifl (fun i => nI (totL nb np pl (c + 1) i)) tt (c + 1))))) := by
  show mm_R S (d + 1) 59 0 [some (.ref 8), some (.int (nI c)), none, none, none, none, none] [] M _
  refine R_iconst (q := 1) (v := nI 0) rfl rfl (by decide) ?_
  refine R_istore_n (q := 2) rfl rfl (Nat.le_of_ble_eq_true rfl) rfl ?_
  dsimp only [List.set]
  refine R_atM (M' := mm_put M 10 (.inl (0, 6, .inl (ifl (fun i => nI (totL nb np pl 0 i)) tt 0)))) (by rw [ifl_0]; exact mm_pself ht) ?_
  refine lpN (fun p => ∀ t3 t4 t5 t6 : Option Value, mm_R S (d + 1) 59 2 [some (.ref 8), some (.int (nI c)), some (.int (nI p)), t3, t4, t5, t6] [] (mm_put M 10 (.inl (0, 6, .inl (ifl (fun i => nI (totL nb np pl p i)) tt p)))) (fun v M' => v = some (.int (nI (totL nb np pl (c + 1) c))) ∧ M' = mm_put M 10 (.inl (0, 6, .inl (ifl (fun i => nI (totL nb np pl (c + 1) i)) tt (c + 1)))))) (c + 1) (fun p hpc ih t3 t4 t5 t6 => ?_) (fun t3 t4 t5 t6 => ?_) 0 (Nat.zero_le _) none none none none
  · have hh := LYH_off (x := 10) (c := (.inl (0, 6, .inl (ifl (fun i => nI (totL nb np pl p i)) tt p)))) h (by omega)
    have hpp := LYP_off (x := 10) (c := (.inl (0, 6, .inl (ifl (fun i => nI (totL nb np pl p i)) tt p)))) hp (by omega) p (by omega)
    have hvp := (hv p (by omega)).2
    have hpc' : (mm_put M 10 (.inl (0, 6, .inl (ifl (fun i => nI (totL nb np pl p i)) tt p)))).1 10 = some (.inl (0, 6, .inl (ifl (fun i => nI (totL nb np pl p i)) tt p))) := mm_pe
    obtain ⟨h1, pf, h2, hpf⟩ := hh
    obtain ⟨p1, p2, p3, p4, p5⟩ := id hpp
    have hci := in_nI (show p < 6 by omega) (by decide)
    refine R_iload_n (q := 3) rfl rfl rfl ?_
    refine R_iload_n (q := 4) rfl rfl rfl ?_
    refine R_icmp_gt (q := 7) (t := 97) rfl rfl rfl (fun h4 => absurd h4 (nI_nlt (by omega) (by omega))) (fun h4 => ?_)
    refine R_aload_n (q := 8) rfl rfl rfl ?_
    refine R_getf (q := 11) rfl rfl rfl (by first | assumption | exact mm_pe | (rw [mm_pn (by omega)]; first | assumption | exact mm_pe | (rw [mm_pn (by omega)]; first | assumption | exact mm_pe | (rw [mm_pn (by omega)]; first | assumption | exact mm_pe | (rw [mm_pn (by omega)]; first | assumption | exact mm_pe | (rw [mm_pn (by omega)]; first | assumption | exact mm_pe)))))) rfl ?_
    refine R_iload_n (q := 12) rfl rfl rfl ?_
    refine R_aaload (q := 13) rfl rfl (by first | assumption | exact mm_pe | (rw [mm_pn (by omega)]; first | assumption | exact mm_pe | (rw [mm_pn (by omega)]; first | assumption | exact mm_pe | (rw [mm_pn (by omega)]; first | assumption | exact mm_pe | (rw [mm_pn (by omega)]; first | assumption | exact mm_pe | (rw [mm_pn (by omega)]; first | assumption | exact mm_pe)))))) rfl (by first | assumption | exact in_nI (by omega) (by decide)) (by rw [cl_nI (by omega)]; exact hpf p (by omega)) ?_
    refine R_astore_n (q := 14) rfl rfl (Nat.le_of_ble_eq_true rfl) rfl ?_
    dsimp only [List.set]
    refine R_aload_n (q := 15) rfl rfl rfl ?_
    refine R_callv0 (q := 18) rfl rfl rfl rfl p1 (Nat.le_of_ble_eq_true rfl) rfl ?_
    refine R_mono (c77 hpp) (fun v15 M15 hr15 => ?_)
    obtain ⟨rfl, hm15⟩ := hr15
    rw [hm15]
    dsimp only [Option.toList, List.cons_append, List.nil_append]
    refine R_istore (q := 20) rfl rfl (Nat.le_of_ble_eq_true rfl) rfl ?_
    dsimp only [List.set]
    refine R_iconst (q := 21) (v := nI 0) rfl rfl (by decide) ?_
    refine R_istore (q := 23) rfl rfl (Nat.le_of_ble_eq_true rfl) rfl ?_
    dsimp only [List.set]
    refine lpN (fun k => ∀ t6 : Option Value, mm_R S (d + 1) 59 23 [some (.ref 8), some (.int (nI c)), some (.int (nI p)), some (.ref (12 + 3 * p)), some (.int (nI (nb p + tsum (pl p) (totL nb np pl p) k))), some (.int (nI k)), t6] [] (mm_put M 10 (.inl (0, 6, .inl (ifl (fun i => nI (totL nb np pl p i)) tt p)))) (fun v M' => v = some (.int (nI (totL nb np pl (c + 1) c))) ∧ M' = mm_put M 10 (.inl (0, 6, .inl (ifl (fun i => nI (totL nb np pl (c + 1) i)) tt (c + 1)))))) (np p) (fun k hk ihk t6 => ?_) (fun t6 => ?_) 0 (Nat.zero_le _) _
    · obtain ⟨⟨q0, q0'⟩, -, -, -, ⟨q6, q6', q6''⟩, q7, q7', q7''⟩ := hvp k hk
      have hts := tsum_le hvp (totL_le (nb := nb) (np := np) (pl := pl) p) k (by omega)
      have htp := totL_le (nb := nb) (np := np) (pl := pl) p (pq (pl p) k 0)
      have hq0i := in_nI (show pq (pl p) k 0 < 6 by omega) (by decide)
      refine R_iload (q := 25) rfl rfl rfl ?_
      refine R_aload_n (q := 26) rfl rfl rfl ?_
      refine R_callv0 (q := 29) rfl rfl rfl rfl p1 (Nat.le_of_ble_eq_true rfl) rfl ?_
      refine R_mono (c78 hpp) (fun v26 M26 hr26 => ?_)
      obtain ⟨rfl, hm26⟩ := hr26
      rw [hm26]
      dsimp only [Option.toList, List.cons_append, List.nil_append]
      refine R_icmp_ge (q := 32) (t := 77) rfl rfl rfl (fun h29 => absurd h29 (nI_ge hk (by omega))) (fun h29 => ?_)
      refine R_aload_n (q := 33) rfl rfl rfl ?_
      refine R_iload (q := 35) rfl rfl rfl ?_
      refine R_bipush (q := 37) (v := nI 6) rfl rfl (by decide) ?_
      refine R_callv2 (q := 40) rfl rfl rfl rfl p1 (Nat.le_of_ble_eq_true rfl) rfl ?_
      refine R_mono (c82 (q := 6) hpp (by omega)) (fun v37 M37 hr37 => ?_)
      obtain ⟨rfl, hm37⟩ := hr37
      rw [hm37]
      dsimp only [Option.toList, List.cons_append, List.nil_append]
      rw [q6]
      refine R_aload_n (q := 41) rfl rfl rfl ?_
      refine R_iload (q := 43) rfl rfl rfl ?_
      refine R_bipush (q := 45) (v := nI 7) rfl rfl (by decide) ?_
      refine R_callv2 (q := 48) rfl rfl rfl rfl p1 (Nat.le_of_ble_eq_true rfl) rfl ?_
      refine R_mono (c82 (q := 7) hpp (by omega)) (fun v45 M45 hr45 => ?_)
      obtain ⟨rfl, hm45⟩ := hr45
      rw [hm45]
      dsimp only [Option.toList, List.cons_append, List.nil_append]
      rw [q7]
      refine R_imul (q := 49) rfl rfl ?_
      rw [pk_mul]
      refine R_istore (q := 51) rfl rfl (Nat.le_of_ble_eq_true rfl) rfl ?_
      dsimp only [List.set]
      refine R_iload (q := 53) rfl rfl rfl ?_
      refine R_iload (q := 55) rfl rfl rfl ?_
      refine R_aload_n (q := 56) rfl rfl rfl ?_
      refine R_getf (q := 59) rfl rfl rfl (by first | assumption | exact mm_pe | (rw [mm_pn (by omega)]; first | assumption | exact mm_pe | (rw [mm_pn (by omega)]; first | assumption | exact mm_pe | (rw [mm_pn (by omega)]; first | assumption | exact mm_pe | (rw [mm_pn (by omega)]; first | assumption | exact mm_pe | (rw [mm_pn (by omega)]; first | assumption | exact mm_pe)))))) rfl ?_
      refine R_aload_n (q := 60) rfl rfl rfl ?_
      refine R_iload (q := 62) rfl rfl rfl ?_
      refine R_iconst (q := 63) (v := nI 0) rfl rfl (by decide) ?_
      refine R_callv2 (q := 66) rfl rfl rfl rfl p1 (Nat.le_of_ble_eq_true rfl) rfl ?_
      refine R_mono (c82 (q := 0) hpp (by omega)) (fun v63 M63 hr63 => ?_)
      obtain ⟨rfl, hm63⟩ := hr63
      rw [hm63]
      dsimp only [Option.toList, List.cons_append, List.nil_append]
      rw [q0]
      refine R_iaload (q := 67) rfl rfl (by first | assumption | exact mm_pe | (rw [mm_pn (by omega)]; first | assumption | exact mm_pe | (rw [mm_pn (by omega)]; first | assumption | exact mm_pe | (rw [mm_pn (by omega)]; first | assumption | exact mm_pe | (rw [mm_pn (by omega)]; first | assumption | exact mm_pe | (rw [mm_pn (by omega)]; first | assumption | exact mm_pe)))))) (by omega) (by first | assumption | exact in_nI (by omega) (by decide)) ?_
      rw [cl_nI (by omega), ifl_lt (by omega)]
      refine R_imul (q := 68) rfl rfl ?_
      rw [pk_mul]
      refine R_iadd (q := 69) rfl rfl ?_
      rw [nI_add, Nat.add_assoc]
      refine R_istore (q := 71) rfl rfl (Nat.le_of_ble_eq_true rfl) rfl ?_
      dsimp only [List.set]
      refine R_iinc (q := 74) rfl rfl rfl (nI_i1 k) rfl ?_
      dsimp only [List.set]
      refine R_goto (t := 23) rfl rfl ?_
      exact ihk _
    · have hts := tsum_le hvp (totL_le (nb := nb) (np := np) (pl := pl) p) (np p) (Nat.le_refl _)
      refine R_iload (q := 25) rfl rfl rfl ?_
      refine R_aload_n (q := 26) rfl rfl rfl ?_
      refine R_callv0 (q := 29) rfl rfl rfl rfl p1 (Nat.le_of_ble_eq_true rfl) rfl ?_
      refine R_mono (c78 hpp) (fun v26 M26 hr26 => ?_)
      obtain ⟨rfl, hm26⟩ := hr26
      rw [hm26]
      dsimp only [Option.toList, List.cons_append, List.nil_append]
      refine R_icmp_ge (q := 32) (t := 77) rfl rfl rfl (fun h29 => ?_) (fun h29 => absurd (nI_le (Nat.le_refl _) (by omega)) h29)
      refine R_aload_n (q := 78) rfl rfl rfl ?_
      refine R_getf (q := 81) rfl rfl rfl (by first | assumption | exact mm_pe | (rw [mm_pn (by omega)]; first | assumption | exact mm_pe | (rw [mm_pn (by omega)]; first | assumption | exact mm_pe | (rw [mm_pn (by omega)]; first | assumption | exact mm_pe | (rw [mm_pn (by omega)]; first | assumption | exact mm_pe | (rw [mm_pn (by omega)]; first | assumption | exact mm_pe)))))) rfl ?_
      refine R_iload_n (q := 82) rfl rfl rfl ?_
      refine R_iload (q := 84) rfl rfl rfl ?_
      refine R_sipush (q := 87) (v := nI 201) rfl rfl (by decide) ?_
      refine R_mmin (q := 90) rfl rfl (by decide +kernel) rfl (by omega) (Nat.le_of_ble_eq_true rfl) ?_
      rw [mn_nI (by omega) (by omega)]
      refine R_iastore (q := 91) rfl rfl (by first | assumption | exact mm_pe | (rw [mm_pn (by omega)]; first | assumption | exact mm_pe | (rw [mm_pn (by omega)]; first | assumption | exact mm_pe | (rw [mm_pn (by omega)]; first | assumption | exact mm_pe | (rw [mm_pn (by omega)]; first | assumption | exact mm_pe | (rw [mm_pn (by omega)]; first | assumption | exact mm_pe)))))) (by first | assumption | exact in_nI (by omega) (by decide)) ?_
      rw [mm_pp, cl_nI (by omega), TT_s]
      refine R_iinc (q := 94) rfl rfl rfl (nI_i1 p) rfl ?_
      dsimp only [List.set]
      refine R_goto (t := 2) rfl rfl ?_
      exact ih _ _ _ _
  · have hh := LYH_off (x := 10) (c := (.inl (0, 6, .inl (ifl (fun i => nI (totL nb np pl (c + 1) i)) tt (c + 1))))) h (by omega)
    obtain ⟨h1, pf, h2, hpf⟩ := hh
    have hci := in_nI (show c < 6 by omega) (by decide)
    refine R_iload_n (q := 3) rfl rfl rfl ?_
    refine R_iload_n (q := 4) rfl rfl rfl ?_
    refine R_icmp_gt (q := 7) (t := 97) rfl rfl rfl (fun h4 => ?_) (fun h4 => absurd (nI_lt (by omega) (by omega)) h4)
    refine R_aload_n (q := 98) rfl rfl rfl ?_
    refine R_getf (q := 101) rfl rfl rfl (by first | assumption | exact mm_pe | (rw [mm_pn (by omega)]; first | assumption | exact mm_pe | (rw [mm_pn (by omega)]; first | assumption | exact mm_pe | (rw [mm_pn (by omega)]; first | assumption | exact mm_pe | (rw [mm_pn (by omega)]; first | assumption | exact mm_pe | (rw [mm_pn (by omega)]; first | assumption | exact mm_pe)))))) rfl ?_
    refine R_iload_n (q := 102) rfl rfl rfl ?_
    refine R_iaload (q := 103) rfl rfl (by first | assumption | exact mm_pe | (rw [mm_pn (by omega)]; first | assumption | exact mm_pe | (rw [mm_pn (by omega)]; first | assumption | exact mm_pe | (rw [mm_pn (by omega)]; first | assumption | exact mm_pe | (rw [mm_pn (by omega)]; first | assumption | exact mm_pe | (rw [mm_pn (by omega)]; first | assumption | exact mm_pe)))))) (by omega) (by first | assumption | exact in_nI (by omega) (by decide)) ?_
    rw [cl_nI (by omega), ifl_lt (by omega)]
    refine R_ireturn rfl rfl ?_
    exact ⟨rfl, rfl⟩
def tX (t : Nat) (x y : Int32) : Int32 := match t with
  | 0 => x | 6 => x | 1 => -y | 5 => -y | 2 => -x | 4 => -x | _ => y
def tY (t : Nat) (x y : Int32) : Int32 := match t with
  | 0 => y | 4 => y | 1 => x | 7 => x | 2 => -y | 6 => -y | _ => -x
set_option maxRecDepth 8000 in
theorem c64 {x y : Int32} {t : Nat} (ht : t < 8) : mm_R S d 64 0 (mm_en 64 [.int (nI t), .int x, .int y]) [] M (fun v M' => v = some (.int (tX t x y)) ∧ M' = M) := by
  show mm_R S d 64 0 [some (.int (nI t)), some (.int x), some (.int y)] [] M _
  match t, ht with
  | 0, _ =>
    refine R_iload_n (q := 1) rfl rfl rfl ?_
    refine R_tsw (t := 44) rfl rfl ?_
    refine R_iload_n (q := 45) rfl rfl rfl ?_
    refine R_ireturn rfl rfl ?_
    exact ⟨rfl, rfl⟩
  | 1, _ =>
    refine R_iload_n (q := 1) rfl rfl rfl ?_
    refine R_tsw (t := 46) rfl rfl ?_
    refine R_iload_n (q := 47) rfl rfl rfl ?_
    refine R_ineg (q := 48) rfl rfl ?_
    refine R_ireturn rfl rfl ?_
    exact ⟨rfl, rfl⟩
  | 2, _ =>
    refine R_iload_n (q := 1) rfl rfl rfl ?_
    refine R_tsw (t := 49) rfl rfl ?_
    refine R_iload_n (q := 50) rfl rfl rfl ?_
    refine R_ineg (q := 51) rfl rfl ?_
    refine R_ireturn rfl rfl ?_
    exact ⟨rfl, rfl⟩
  | 3, _ =>
    refine R_iload_n (q := 1) rfl rfl rfl ?_
    refine R_tsw (t := 52) rfl rfl ?_
    refine R_iload_n (q := 53) rfl rfl rfl ?_
    refine R_ireturn rfl rfl ?_
    exact ⟨rfl, rfl⟩
  | 4, _ =>
    refine R_iload_n (q := 1) rfl rfl rfl ?_
    refine R_tsw (t := 49) rfl rfl ?_
    refine R_iload_n (q := 50) rfl rfl rfl ?_
    refine R_ineg (q := 51) rfl rfl ?_
    refine R_ireturn rfl rfl ?_
    exact ⟨rfl, rfl⟩
  | 5, _ =>
    refine R_iload_n (q := 1) rfl rfl rfl ?_
    refine R_tsw (t := 46) rfl rfl ?_
    refine R_iload_n (q := 47) rfl rfl rfl ?_
    refine R_ineg (q := 48) rfl rfl ?_
    refine R_ireturn rfl rfl ?_
    exact ⟨rfl, rfl⟩
  | 6, _ =>
    refine R_iload_n (q := 1) rfl rfl rfl ?_
    refine R_tsw (t := 44) rfl rfl ?_
    refine R_iload_n (q := 45) rfl rfl rfl ?_
    refine R_ireturn rfl rfl ?_
    exact ⟨rfl, rfl⟩
  | 7, _ =>
    refine R_iload_n (q := 1) rfl rfl rfl ?_
    refine R_tsw (t := 52) rfl rfl ?_
    refine R_iload_n (q := 53) rfl rfl rfl ?_
    refine R_ireturn rfl rfl ?_
    exact ⟨rfl, rfl⟩
set_option maxRecDepth 8000 in
theorem c65 {x y : Int32} {t : Nat} (ht : t < 8) : mm_R S d 65 0 (mm_en 65 [.int (nI t), .int x, .int y]) [] M (fun v M' => v = some (.int (tY t x y)) ∧ M' = M) := by
  show mm_R S d 65 0 [some (.int (nI t)), some (.int x), some (.int y)] [] M _
  match t, ht with
  | 0, _ =>
    refine R_iload_n (q := 1) rfl rfl rfl ?_
    refine R_tsw (t := 48) rfl rfl ?_
    refine R_iload_n (q := 49) rfl rfl rfl ?_
    refine R_ireturn rfl rfl ?_
    exact ⟨rfl, rfl⟩
  | 1, _ =>
    refine R_iload_n (q := 1) rfl rfl rfl ?_
    refine R_tsw (t := 50) rfl rfl ?_
    refine R_iload_n (q := 51) rfl rfl rfl ?_
    refine R_ireturn rfl rfl ?_
    exact ⟨rfl, rfl⟩
  | 2, _ =>
    refine R_iload_n (q := 1) rfl rfl rfl ?_
    refine R_tsw (t := 52) rfl rfl ?_
    refine R_iload_n (q := 53) rfl rfl rfl ?_
    refine R_ineg (q := 54) rfl rfl ?_
    refine R_ireturn rfl rfl ?_
    exact ⟨rfl, rfl⟩
  | 3, _ =>
    refine R_iload_n (q := 1) rfl rfl rfl ?_
    refine R_tsw (t := 55) rfl rfl ?_
    refine R_iload_n (q := 56) rfl rfl rfl ?_
    refine R_ineg (q := 57) rfl rfl ?_
    refine R_ireturn rfl rfl ?_
    exact ⟨rfl, rfl⟩
  | 4, _ =>
    refine R_iload_n (q := 1) rfl rfl rfl ?_
    refine R_tsw (t := 48) rfl rfl ?_
    refine R_iload_n (q := 49) rfl rfl rfl ?_
    refine R_ireturn rfl rfl ?_
    exact ⟨rfl, rfl⟩
  | 5, _ =>
    refine R_iload_n (q := 1) rfl rfl rfl ?_
    refine R_tsw (t := 55) rfl rfl ?_
    refine R_iload_n (q := 56) rfl rfl rfl ?_
    refine R_ineg (q := 57) rfl rfl ?_
    refine R_ireturn rfl rfl ?_
    exact ⟨rfl, rfl⟩
  | 6, _ =>
    refine R_iload_n (q := 1) rfl rfl rfl ?_
    refine R_tsw (t := 52) rfl rfl ?_
    refine R_iload_n (q := 53) rfl rfl rfl ?_
    refine R_ineg (q := 54) rfl rfl ?_
    refine R_ireturn rfl rfl ?_
    exact ⟨rfl, rfl⟩
  | 7, _ =>
    refine R_iload_n (q := 1) rfl rfl rfl ?_
    refine R_tsw (t := 50) rfl rfl ?_
    refine R_iload_n (q := 51) rfl rfl rfl ?_
    refine R_ireturn rfl rfl ?_
    exact ⟨rfl, rfl⟩
def tA (s t : Nat) : Nat := ((s ^^^ t) &&& 4) ||| ((if t < 4 then t + s else t + 8 - s) &&& 3)
theorem tA_ok : ∀ s, s < 8 → ∀ t, t < 8 → ((nI s ^^^ nI t) &&& nI 4) ||| ((if nI 4 ≤ nI t then nI t - nI s else nI t + nI s) &&& nI 3) = nI (tA s t) ∧ tA s t < 8 := by decide +kernel
set_option maxRecDepth 8000 in
theorem c66 {s t : Nat} (hs : s < 8) (ht : t < 8) : mm_R S d 66 0 (mm_en 66 [.int (nI s), .int (nI t)]) [] M (fun v M' => v = some (.int (nI (tA s t))) ∧ M' = M) := by
  have hk := (tA_ok s hs t ht).1
  show mm_R S d 66 0 [some (.int (nI s)), some (.int (nI t)), none, none] [] M _
  refine R_iload_n (q := 1) rfl rfl rfl ?_
  refine R_iconst (q := 2) (v := nI 4) rfl rfl (by decide) ?_
  refine R_icmp_ge (q := 5) (t := 11) rfl rfl rfl (fun h2 => ?_) (fun h2 => ?_)
  · refine R_iload_n (q := 12) rfl rfl rfl ?_
    refine R_iload_n (q := 13) rfl rfl rfl ?_
    refine R_isub (q := 14) rfl rfl ?_
    refine R_istore_n (q := 15) rfl rfl (Nat.le_of_ble_eq_true rfl) rfl ?_
    dsimp only [List.set]
    refine R_iload_n (q := 16) rfl rfl rfl ?_
    refine R_iload_n (q := 17) rfl rfl rfl ?_
    refine R_ixor (q := 18) rfl rfl ?_
    refine R_iconst (q := 19) (v := nI 4) rfl rfl (by decide) ?_
    refine R_iand (q := 20) rfl rfl ?_
    refine R_istore_n (q := 21) rfl rfl (Nat.le_of_ble_eq_true rfl) rfl ?_
    dsimp only [List.set]
    refine R_iload_n (q := 22) rfl rfl rfl ?_
    refine R_iload_n (q := 23) rfl rfl rfl ?_
    refine R_iconst (q := 24) (v := nI 3) rfl rfl (by decide) ?_
    refine R_iand (q := 25) rfl rfl ?_
    refine R_ior (q := 26) rfl rfl ?_
    refine R_ireturn rfl rfl ?_
    refine ⟨congrArg some (congrArg Value.int ?_), rfl⟩
    rw [← hk]
    first | rw [if_pos h2] | rw [if_neg h2]
  · refine R_iload_n (q := 6) rfl rfl rfl ?_
    refine R_iload_n (q := 7) rfl rfl rfl ?_
    refine R_iadd (q := 8) rfl rfl ?_
    refine R_goto (t := 14) rfl rfl ?_
    refine R_istore_n (q := 15) rfl rfl (Nat.le_of_ble_eq_true rfl) rfl ?_
    dsimp only [List.set]
    refine R_iload_n (q := 16) rfl rfl rfl ?_
    refine R_iload_n (q := 17) rfl rfl rfl ?_
    refine R_ixor (q := 18) rfl rfl ?_
    refine R_iconst (q := 19) (v := nI 4) rfl rfl (by decide) ?_
    refine R_iand (q := 20) rfl rfl ?_
    refine R_istore_n (q := 21) rfl rfl (Nat.le_of_ble_eq_true rfl) rfl ?_
    dsimp only [List.set]
    refine R_iload_n (q := 22) rfl rfl rfl ?_
    refine R_iload_n (q := 23) rfl rfl rfl ?_
    refine R_iconst (q := 24) (v := nI 3) rfl rfl (by decide) ?_
    refine R_iand (q := 25) rfl rfl ?_
    refine R_ior (q := 26) rfl rfl ?_
    refine R_ireturn rfl rfl ?_
    refine ⟨congrArg some (congrArg Value.int ?_), rfl⟩
    rw [← hk]
    first | rw [if_pos h2] | rw [if_neg h2]
end P21
end
section
/-! ===== laying out ===== -/
abbrev R4 : Type := Int32 × Int32 × Int32 × Int32
def on4 (r : R4) : Bool := decide ((0 ≤ r.1.toInt ∧ 1 ≤ r.2.2.1.toInt ∧ r.1.toInt + r.2.2.1.toInt ≤ 16) ∧ 0 ≤ r.2.1.toInt ∧ 1 ≤ r.2.2.2.toInt ∧ r.2.1.toInt + r.2.2.2.toInt ≤ 16)
def add4 (f : Nat → Int32) (r : R4) : Nat → Int32 := ifr (fun i => f i ||| spn r.1.toNatClampNeg (r.1.toNatClampNeg + r.2.2.1.toNatClampNeg)) f r.2.1.toNatClampNeg (r.2.1.toNatClampNeg + r.2.2.2.toNatClampNeg)
def rct (p : Nat → Int32) (i t : Nat) (x y : Int32) : R4 :=
  let x1 := x + tX t (p (i * 4 + 0)) (p (i * 4 + 1))
  let y1 := y + tY t (p (i * 4 + 0)) (p (i * 4 + 1))
  let x2 := x + tX t (p (i * 4 + 0) + p (i * 4 + 2)) (p (i * 4 + 1) + p (i * 4 + 3))
  let y2 := y + tY t (p (i * 4 + 0) + p (i * 4 + 2)) (p (i * 4 + 1) + p (i * 4 + 3))
  (if x2 < x1 then x2 else x1, if y2 < y1 then y2 else y1, if 0 ≤ x2 - x1 then x2 - x1 else 0 - (x2 - x1), if 0 ≤ y2 - y1 then y2 - y1 else 0 - (y2 - y1))
set_option maxRecDepth 8000 in
theorem c12b {S : mm_S} {d : Nat} {M : mm_M} {a : Nat} {f : Nat → Int32} {r : R4} (hr : on4 r = true) (ha : CA M a f) : mm_R S (d + 1) 12 0 (mm_en 12 [.ref a, .int r.1, .int r.2.1, .int r.2.2.1, .int r.2.2.2]) [] M (fun v M' => v = none ∧ M' = mm_put M (a + 1) (ro (add4 f r))) := by
  obtain ⟨rx, ry, rw, rh⟩ := r
  have h := of_decide_eq_true hr
  dsimp only at h
  obtain ⟨x, hx, rfl⟩ := i_ix (a := rx) 16 (by decide) (by omega) (by omega)
  obtain ⟨y, hy, rfl⟩ := i_ix (a := ry) 16 (by decide) (by omega) (by omega)
  obtain ⟨w, hw, rfl⟩ := i_ix (a := rw) 17 (by decide) (by omega) (by omega)
  obtain ⟨hh, hhh, rfl⟩ := i_ix (a := rh) 17 (by decide) (by omega) (by omega)
  rw [i_n x (by omega), i_n y (by omega), i_n w (by omega), i_n hh (by omega)] at h
  have g := c12 (S := S) (d := d) (M := M) (x := x) (y := y) (w := w) (h := hh) (by omega) (by omega) ha
  unfold add4
  dsimp only
  rw [cl_nI (by omega), cl_nI (by omega), cl_nI (by omega), cl_nI (by omega)]
  exact g
section P22
variable {S : mm_S} {d : Nat} {nb np : Nat → Nat} {bx pl : Nat → Nat → Int32}
set_option maxRecDepth 8000 in
theorem c63 {M : mm_M} {a i t : Nat} {nb0 np0 : Nat} {bx0 pl0 g : Nat → Int32} {x y : Int32} (hp : PT M a nb0 np0 bx0 pl0) (hi : i < 6) (ht : t < 8) (hg : CA M 3 g) : mm_R S (d + 2) 63 0 (mm_en 63 [.ref a, .int (nI i), .int (nI t), .int x, .int y, .ref 3]) [] M (fun v M' => v = some (.int (zb (on4 (rct bx0 i t x y)))) ∧ M' = if on4 (rct bx0 i t x y) = true then mm_put M 4 (ro (add4 g (rct bx0 i t x y))) else M) := by
  obtain ⟨p1, p2, p3, p4, p5⟩ := id hp
  have hg1 := hg.1
  show mm_R S (d + 2) 63 0 [some (.ref a), some (.int (nI i)), some (.int (nI t)), some (.int x), some (.int y), some (.ref 3), none, none, none, none, none, none, none, none, none, none] [] M _
  refine R_aload_n (q := 1) rfl rfl rfl ?_
  refine R_iload_n (q := 2) rfl rfl rfl ?_
  refine R_iconst (q := 3) (v := nI 0) rfl rfl (by decide) ?_
  refine R_callv2 (q := 6) rfl rfl rfl rfl p1 (Nat.le_of_ble_eq_true rfl) rfl ?_
  refine R_mono (c81 (q := 0) hp (by omega)) (fun v3 M3 hr3 => ?_)
  obtain ⟨rfl, hm3⟩ := hr3
  rw [hm3]
  dsimp only [Option.toList, List.cons_append, List.nil_append]
  refine R_istore (q := 8) rfl rfl (Nat.le_of_ble_eq_true rfl) rfl ?_
  dsimp only [List.set]
  refine R_aload_n (q := 9) rfl rfl rfl ?_
  refine R_iload_n (q := 10) rfl rfl rfl ?_
  refine R_iconst (q := 11) (v := nI 1) rfl rfl (by decide) ?_
  refine R_callv2 (q := 14) rfl rfl rfl rfl p1 (Nat.le_of_ble_eq_true rfl) rfl ?_
  refine R_mono (c81 (q := 1) hp (by omega)) (fun v11 M11 hr11 => ?_)
  obtain ⟨rfl, hm11⟩ := hr11
  rw [hm11]
  dsimp only [Option.toList, List.cons_append, List.nil_append]
  refine R_istore (q := 16) rfl rfl (Nat.le_of_ble_eq_true rfl) rfl ?_
  dsimp only [List.set]
  refine R_iload (q := 18) rfl rfl rfl ?_
  refine R_aload_n (q := 19) rfl rfl rfl ?_
  refine R_iload_n (q := 20) rfl rfl rfl ?_
  refine R_iconst (q := 21) (v := nI 2) rfl rfl (by decide) ?_
  refine R_callv2 (q := 24) rfl rfl rfl rfl p1 (Nat.le_of_ble_eq_true rfl) rfl ?_
  refine R_mono (c81 (q := 2) hp (by omega)) (fun v21 M21 hr21 => ?_)
  obtain ⟨rfl, hm21⟩ := hr21
  rw [hm21]
  dsimp only [Option.toList, List.cons_append, List.nil_append]
  refine R_iadd (q := 25) rfl rfl ?_
  refine R_istore (q := 27) rfl rfl (Nat.le_of_ble_eq_true rfl) rfl ?_
  dsimp only [List.set]
  refine R_iload (q := 29) rfl rfl rfl ?_
  refine R_aload_n (q := 30) rfl rfl rfl ?_
  refine R_iload_n (q := 31) rfl rfl rfl ?_
  refine R_iconst (q := 32) (v := nI 3) rfl rfl (by decide) ?_
  refine R_callv2 (q := 35) rfl rfl rfl rfl p1 (Nat.le_of_ble_eq_true rfl) rfl ?_
  refine R_mono (c81 (q := 3) hp (by omega)) (fun v32 M32 hr32 => ?_)
  obtain ⟨rfl, hm32⟩ := hr32
  rw [hm32]
  dsimp only [Option.toList, List.cons_append, List.nil_append]
  refine R_iadd (q := 36) rfl rfl ?_
  refine R_istore (q := 38) rfl rfl (Nat.le_of_ble_eq_true rfl) rfl ?_
  dsimp only [List.set]
  refine R_iload_n (q := 39) rfl rfl rfl ?_
  refine R_iload_n (q := 40) rfl rfl rfl ?_
  refine R_iload (q := 42) rfl rfl rfl ?_
  refine R_iload (q := 44) rfl rfl rfl ?_
  refine R_calls3 (q := 47) rfl rfl rfl rfl (Nat.le_of_ble_eq_true rfl) rfl ?_
  refine R_mono (c64 ht) (fun v44 M44 hr44 => ?_)
  obtain ⟨rfl, hm44⟩ := hr44
  rw [hm44]
  dsimp only [Option.toList, List.cons_append, List.nil_append]
  refine R_iadd (q := 48) rfl rfl ?_
  refine R_istore (q := 50) rfl rfl (Nat.le_of_ble_eq_true rfl) rfl ?_
  dsimp only [List.set]
  refine R_iload (q := 52) rfl rfl rfl ?_
  refine R_iload_n (q := 53) rfl rfl rfl ?_
  refine R_iload (q := 55) rfl rfl rfl ?_
  refine R_iload (q := 57) rfl rfl rfl ?_
  refine R_calls3 (q := 60) rfl rfl rfl rfl (Nat.le_of_ble_eq_true rfl) rfl ?_
  refine R_mono (c65 ht) (fun v57 M57 hr57 => ?_)
  obtain ⟨rfl, hm57⟩ := hr57
  rw [hm57]
  dsimp only [Option.toList, List.cons_append, List.nil_append]
  refine R_iadd (q := 61) rfl rfl ?_
  refine R_istore (q := 63) rfl rfl (Nat.le_of_ble_eq_true rfl) rfl ?_
  dsimp only [List.set]
  refine R_iload_n (q := 64) rfl rfl rfl ?_
  refine R_iload_n (q := 65) rfl rfl rfl ?_
  refine R_iload (q := 67) rfl rfl rfl ?_
  refine R_iload (q := 69) rfl rfl rfl ?_
  refine R_calls3 (q := 72) rfl rfl rfl rfl (Nat.le_of_ble_eq_true rfl) rfl ?_
  refine R_mono (c64 ht) (fun v69 M69 hr69 => ?_)
  obtain ⟨rfl, hm69⟩ := hr69
  rw [hm69]
  dsimp only [Option.toList, List.cons_append, List.nil_append]
  refine R_iadd (q := 73) rfl rfl ?_
  refine R_istore (q := 75) rfl rfl (Nat.le_of_ble_eq_true rfl) rfl ?_
  dsimp only [List.set]
  refine R_iload (q := 77) rfl rfl rfl ?_
  refine R_iload_n (q := 78) rfl rfl rfl ?_
  refine R_iload (q := 80) rfl rfl rfl ?_
  refine R_iload (q := 82) rfl rfl rfl ?_
  refine R_calls3 (q := 85) rfl rfl rfl rfl (Nat.le_of_ble_eq_true rfl) rfl ?_
  refine R_mono (c65 ht) (fun v82 M82 hr82 => ?_)
  obtain ⟨rfl, hm82⟩ := hr82
  rw [hm82]
  dsimp only [Option.toList, List.cons_append, List.nil_append]
  refine R_iadd (q := 86) rfl rfl ?_
  refine R_istore (q := 88) rfl rfl (Nat.le_of_ble_eq_true rfl) rfl ?_
  dsimp only [List.set]
  refine R_iload (q := 90) rfl rfl rfl ?_
  refine R_iload (q := 92) rfl rfl rfl ?_
  refine R_isub (q := 93) rfl rfl ?_
  refine R_mabs (q := 96) rfl rfl (by decide +kernel) rfl (by omega) (Nat.le_of_ble_eq_true rfl) ?_
  refine R_istore (q := 98) rfl rfl (Nat.le_of_ble_eq_true rfl) rfl ?_
  dsimp only [List.set]
  refine R_iload (q := 100) rfl rfl rfl ?_
  refine R_iload (q := 102) rfl rfl rfl ?_
  refine R_isub (q := 103) rfl rfl ?_
  refine R_mabs (q := 106) rfl rfl (by decide +kernel) rfl (by omega) (Nat.le_of_ble_eq_true rfl) ?_
  refine R_istore (q := 108) rfl rfl (Nat.le_of_ble_eq_true rfl) rfl ?_
  dsimp only [List.set]
  refine R_iload (q := 110) rfl rfl rfl ?_
  refine R_iload (q := 112) rfl rfl rfl ?_
  refine R_mmin (q := 115) rfl rfl (by decide +kernel) rfl (by omega) (Nat.le_of_ble_eq_true rfl) ?_
  refine R_iload (q := 117) rfl rfl rfl ?_
  refine R_iload (q := 119) rfl rfl rfl ?_
  refine R_mmin (q := 122) rfl rfl (by decide +kernel) rfl (by omega) (Nat.le_of_ble_eq_true rfl) ?_
  refine R_iload (q := 124) rfl rfl rfl ?_
  refine R_iload (q := 126) rfl rfl rfl ?_
  refine R_calls4 (q := 129) rfl rfl rfl rfl (Nat.le_of_ble_eq_true rfl) rfl ?_
  refine R_mono (c143) (fun v126 M126 hr126 => ?_)
  obtain ⟨rfl, hm126⟩ := hr126
  rw [hm126]
  dsimp only [Option.toList, List.cons_append, List.nil_append]
  refine R_if_ne (q := 132) (t := 134) rfl rfl rfl (fun h129 => ?_) (fun h129 => ?_)
  · have hon : on4 (rct bx0 i t x y) = true := zb_ne0.mp h129
    refine R_aload (q := 136) rfl rfl rfl ?_
    refine R_iload (q := 138) rfl rfl rfl ?_
    refine R_iload (q := 140) rfl rfl rfl ?_
    refine R_mmin (q := 143) rfl rfl (by decide +kernel) rfl (by omega) (Nat.le_of_ble_eq_true rfl) ?_
    refine R_iload (q := 145) rfl rfl rfl ?_
    refine R_iload (q := 147) rfl rfl rfl ?_
    refine R_mmin (q := 150) rfl rfl (by decide +kernel) rfl (by omega) (Nat.le_of_ble_eq_true rfl) ?_
    refine R_iload (q := 152) rfl rfl rfl ?_
    refine R_iload (q := 154) rfl rfl rfl ?_
    refine R_callv4 (q := 157) rfl rfl rfl rfl hg1 (Nat.le_of_ble_eq_true rfl) rfl ?_
    refine R_mono (c12b (r := rct bx0 i t x y) hon hg) (fun v154 M154 hr154 => ?_)
    obtain ⟨rfl, hm154⟩ := hr154
    rw [hm154]
    dsimp only [Option.toList, List.cons_append, List.nil_append]
    refine R_iconst (q := 158) (v := nI 1) rfl rfl (by decide) ?_
    refine R_zreturn rfl rfl (by first | exact Or.inl rfl | exact Or.inr rfl | assumption) ?_
    rw [hon]
    exact ⟨rfl, (if_pos rfl).symm⟩
  · refine R_iconst (q := 133) (v := nI 0) rfl rfl (by decide) ?_
    refine R_zreturn rfl rfl (by first | exact Or.inl rfl | exact Or.inr rfl | assumption) ?_
    have hoff : on4 (rct bx0 i t x y) = false := zb_eq0.mp h129
    rw [hoff]
    exact ⟨rfl, (if_neg (by decide)).symm⟩
def pxv (p : Nat → Int32) (k i : Nat) : Int32 := p (k * 8 + 2) + nI i * p (k * 8 + 4)
def pyv (p : Nat → Int32) (k j : Nat) : Int32 := p (k * 8 + 3) + nI j * p (k * 8 + 5)
/-- what a part has, turned by t and moved by x, y (n above the part's number) -/
def rects (nb np : Nat → Nat) (bx pl : Nat → Nat → Int32) : Nat → Nat → Nat → Int32 → Int32 → List R4
  | 0, _, _, _, _ => []
  | n + 1, c, t, x, y => ((List.range (nb c)).map fun i => rct (bx c) i t x y) ++ (List.range (np c)).flatMap fun k => (List.range (pq (pl c) k 6)).flatMap fun i => (List.range (pq (pl c) k 7)).flatMap fun j => rects nb np bx pl n (pq (pl c) k 0) (tA (pq (pl c) k 1) t) (x + tX t (pxv (pl c) k i) (pyv (pl c) k j)) (y + tY t (pxv (pl c) k i) (pyv (pl c) k j))
def LR (l : List R4) (g : Nat → Int32) (M : mm_M) (v : Option Value) (M' : mm_M) : Prop := ∃ g', M' = mm_put M 4 (ro g') ∧ ((l.all on4 = true ∧ v = some (.int (nI 1)) ∧ g' = l.foldl add4 g) ∨ (l.all on4 = false ∧ v = some (.int (nI 0))))
theorem LR_bad {l l' : List R4} {g g' : Nat → Int32} {M : mm_M} (h : l'.all on4 = false) (hs : ∀ r ∈ l', r ∈ l) : LR l g M (some (.int (nI 0))) (mm_put M 4 (ro g')) := by
  refine ⟨g', rfl, Or.inr ⟨?_, rfl⟩⟩
  obtain ⟨r, hr, hf⟩ := List.all_eq_false.mp h
  exact List.all_eq_false.mpr ⟨r, hs r hr, hf⟩
/-- what stands in the cells while parts are laid out -/
def LF (M : mm_M) (nb np : Nat → Nat) (bx pl : Nat → Nat → Int32) (tt : Nat → Int32) : Prop := LYH M ∧ LYP M nb np bx pl ∧ M.1 10 = some (.inl (0, 6, .inl tt))
theorem LF_4 {M : mm_M} {tt : Nat → Int32} {c : mm_E} (h : LF M nb np bx pl tt) : LF (mm_put M 4 c) nb np bx pl tt := ⟨LYH_off h.1 (by omega), LYP_off h.2.1 (by omega), by rw [mm_pn (by omega)]; exact h.2.2⟩
theorem CA_34 {M : mm_M} {g g' : Nat → Int32} (h : CA M 3 g) : CA (mm_put M 4 (ro g')) 3 g' := CA_put h
def layP (S : mm_S) (d : Nat) (nb np : Nat → Nat) (bx pl : Nat → Nat → Int32) (tt : Nat → Int32) (top n : Nat) : Prop := ∀ (c t : Nat) (x y : Int32) (g : Nat → Int32) (M : mm_M), c < n → c ≤ top → t < 8 → LF M nb np bx pl tt → CA M 3 g → mm_R S (d + 3 + 2 * n) 61 0 (mm_en 61 [.ref 8, .int (nI c), .int (nI t), .int x, .int y, .ref 3]) [] M (LR (rects nb np bx pl n c t x y) g M)
set_option maxRecDepth 8000 in
theorem c62 {n top : Nat} {tt : Nat → Int32} (ih : layP S d nb np bx pl tt top n) (hv : LYV nb np bx pl) (htt : ∀ i, i ≤ top → ∃ T, T ≤ 201 ∧ tt i = nI T ∧ (T = 0 → ∀ t x y, rects nb np bx pl n i t x y = [])) {c k t : Nat} {x y : Int32} {g : Nat → Int32} {M : mm_M} (hc : c < n + 1) (hct : c ≤ top) (htop : top < 6) (hk : k < np c) (ht : t < 8) (hF : LF M nb np bx pl tt) (hg : CA M 3 g) : mm_R S (d + 3 + 2 * n + 1) 62 0 (mm_en 62 [.ref 8, .int (nI c), .int (nI k), .int (nI t), .int x, .int y, .ref 3]) [] M (LR ((List.range (pq (pl c) k 6)).flatMap fun i => (List.range (pq (pl c) k 7)).flatMap fun j => rects nb np bx pl n (pq (pl c) k 0) (tA (pq (pl c) k 1) t) (x + tX t (pxv (pl c) k i) (pyv (pl c) k j)) (y + tY t (pxv (pl c) k i) (pyv (pl c) k j))) g M) := by
  obtain ⟨⟨h1, pf, h2, hpf⟩, hp, h10⟩ := id hF
  have hp1 := hp c (by omega)
  obtain ⟨p1, p2, p3, p4, p5⟩ := id hp1
  have hci := in_nI (show c < 6 by omega) (by decide)
  obtain ⟨⟨q0, q0'⟩, ⟨q1, q1'⟩, -, -, ⟨q6, q6', q6''⟩, q7, q7', q7''⟩ := (hv c (by omega)).2 k hk
  obtain ⟨T, hT1, hT2, hT3⟩ := htt (pq (pl c) k 0) (by omega)
  have hq0i := in_nI (show pq (pl c) k 0 < 6 by omega) (by decide)
  have htA := (tA_ok (pq (pl c) k 1) q1' t ht).2
  generalize hRF : (fun i j => rects nb np bx pl n (pq (pl c) k 0) (tA (pq (pl c) k 1) t) (x + tX t (pxv (pl c) k i) (pyv (pl c) k j)) (y + tY t (pxv (pl c) k i) (pyv (pl c) k j))) = RF at *
  have hRF' : ∀ i j, rects nb np bx pl n (pq (pl c) k 0) (tA (pq (pl c) k 1) t) (x + tX t (pxv (pl c) k i) (pyv (pl c) k j)) (y + tY t (pxv (pl c) k i) (pyv (pl c) k j)) = RF i j := fun i j => by rw [← hRF]
  simp only [hRF']

  have hloop : mm_R S (d + 3 + 2 * n + 1) 62 53 [some (.ref 8), some (.int (nI c)), some (.int (nI k)), some (.int (nI t)), some (.int x), some (.int y), some (.ref 3), some (.ref (12 + 3 * c)), some (.int (nI (pq (pl c) k 0))), some (.int (nI (tA (pq (pl c) k 1) t))), some (.int (nI 0)), none, none, none, none, none] [] M (LR ((List.range (pq (pl c) k 6)).flatMap fun i => (List.range (pq (pl c) k 7)).flatMap fun j => RF i j) g M) := by
    refine R_atM (M' := mm_put M 4 (ro (((List.range 0).flatMap fun i => (List.range (pq (pl c) k 7)).flatMap fun j => RF i j).foldl add4 g))) (mm_pself hg.2) ?_
    refine lpN (fun i => ∀ t11 t12 t13 t14 t15 : Option Value, ((List.range i).flatMap fun i => (List.range (pq (pl c) k 7)).flatMap fun j => RF i j).all on4 = true → mm_R S (d + 3 + 2 * n + 1) 62 53 [some (.ref 8), some (.int (nI c)), some (.int (nI k)), some (.int (nI t)), some (.int x), some (.int y), some (.ref 3), some (.ref (12 + 3 * c)), some (.int (nI (pq (pl c) k 0))), some (.int (nI (tA (pq (pl c) k 1) t))), some (.int (nI i)), t11, t12, t13, t14, t15] [] (mm_put M 4 (ro (((List.range i).flatMap fun i => (List.range (pq (pl c) k 7)).flatMap fun j => RF i j).foldl add4 g))) (LR ((List.range (pq (pl c) k 6)).flatMap fun i => (List.range (pq (pl c) k 7)).flatMap fun j => RF i j) g M)) (pq (pl c) k 6) (fun i hi ihi t11 t12 t13 t14 t15 hall => ?_) (fun t11 t12 t13 t14 t15 hall => ?_) 0 (Nat.zero_le _) none none none none none rfl
    · have hF1 := LF_4 (c := ro (((List.range i).flatMap fun i => (List.range (pq (pl c) k 7)).flatMap fun j => RF i j).foldl add4 g)) hF
      have hp1 := hF1.2.1 c (by omega)
      obtain ⟨p1, p2, p3, p4, p5⟩ := id hp1
      refine R_iload (q := 55) rfl rfl rfl ?_
      refine R_aload (q := 57) rfl rfl rfl ?_
      refine R_iload_n (q := 58) rfl rfl rfl ?_
      refine R_bipush (q := 60) (v := nI 6) rfl rfl (by decide) ?_
      refine R_callv2 (q := 63) rfl rfl rfl rfl p1 (Nat.le_of_ble_eq_true rfl) rfl ?_
      refine R_mono (c82 (q := 6) hp1 (by omega)) (fun v60 M60 hr60 => ?_)
      obtain ⟨rfl, hm60⟩ := hr60
      rw [hm60]
      dsimp only [Option.toList, List.cons_append, List.nil_append]
      rw [q6]
      refine R_icmp_ge (q := 66) (t := 179) rfl rfl rfl (fun h63 => absurd h63 (nI_ge hi (by omega))) (fun h63 => ?_)
      refine R_aload (q := 68) rfl rfl rfl ?_
      refine R_iload_n (q := 69) rfl rfl rfl ?_
      refine R_iconst (q := 70) (v := nI 2) rfl rfl (by decide) ?_
      refine R_callv2 (q := 73) rfl rfl rfl rfl p1 (Nat.le_of_ble_eq_true rfl) rfl ?_
      refine R_mono (c82 (q := 2) hp1 (by omega)) (fun v70 M70 hr70 => ?_)
      obtain ⟨rfl, hm70⟩ := hr70
      rw [hm70]
      dsimp only [Option.toList, List.cons_append, List.nil_append]
      refine R_iload (q := 75) rfl rfl rfl ?_
      refine R_aload (q := 77) rfl rfl rfl ?_
      refine R_iload_n (q := 78) rfl rfl rfl ?_
      refine R_iconst (q := 79) (v := nI 4) rfl rfl (by decide) ?_
      refine R_callv2 (q := 82) rfl rfl rfl rfl p1 (Nat.le_of_ble_eq_true rfl) rfl ?_
      refine R_mono (c82 (q := 4) hp1 (by omega)) (fun v79 M79 hr79 => ?_)
      obtain ⟨rfl, hm79⟩ := hr79
      rw [hm79]
      dsimp only [Option.toList, List.cons_append, List.nil_append]
      refine R_imul (q := 83) rfl rfl ?_
      refine R_iadd (q := 84) rfl rfl ?_
      refine R_istore (q := 86) rfl rfl (Nat.le_of_ble_eq_true rfl) rfl ?_
      dsimp only [List.set]
      refine R_iconst (q := 87) (v := nI 0) rfl rfl (by decide) ?_
      refine R_istore (q := 89) rfl rfl (Nat.le_of_ble_eq_true rfl) rfl ?_
      dsimp only [List.set]
      refine R_atM (M' := mm_put M 4 (ro ((((List.range i).flatMap fun i => (List.range (pq (pl c) k 7)).flatMap fun j => RF i j) ++ (List.range 0).flatMap fun j => RF i j).foldl add4 g))) (by simp) ?_
      refine lpN (fun j => ∀ t13 t14 t15 : Option Value, (((List.range i).flatMap fun i => (List.range (pq (pl c) k 7)).flatMap fun j => RF i j) ++ (List.range j).flatMap fun j => RF i j).all on4 = true → mm_R S (d + 3 + 2 * n + 1) 62 89 [some (.ref 8), some (.int (nI c)), some (.int (nI k)), some (.int (nI t)), some (.int x), some (.int y), some (.ref 3), some (.ref (12 + 3 * c)), some (.int (nI (pq (pl c) k 0))), some (.int (nI (tA (pq (pl c) k 1) t))), some (.int (nI i)), some (.int (pxv (pl c) k i)), some (.int (nI j)), t13, t14, t15] [] (mm_put M 4 (ro ((((List.range i).flatMap fun i => (List.range (pq (pl c) k 7)).flatMap fun j => RF i j) ++ (List.range j).flatMap fun j => RF i j).foldl add4 g))) (LR ((List.range (pq (pl c) k 6)).flatMap fun i => (List.range (pq (pl c) k 7)).flatMap fun j => RF i j) g M)) (pq (pl c) k 7) (fun j hj ihj t13 t14 t15 hallj => ?_) (fun t13 t14 t15 hallj => ?_) 0 (Nat.zero_le _) _ _ _ (by simpa using hall)
      · have hF2 := LF_4 (c := ro ((((List.range i).flatMap fun i => (List.range (pq (pl c) k 7)).flatMap fun j => RF i j) ++ (List.range j).flatMap fun j => RF i j).foldl add4 g)) hF
        have hp1 := hF2.2.1 c (by omega)
        obtain ⟨p1, p2, p3, p4, p5⟩ := id hp1
        have h8 := hF2.1.1
        have hcall := ih (pq (pl c) k 0) (tA (pq (pl c) k 1) t) (x + tX t (pxv (pl c) k i) (pyv (pl c) k j)) (y + tY t (pxv (pl c) k i) (pyv (pl c) k j)) ((((List.range i).flatMap fun i => (List.range (pq (pl c) k 7)).flatMap fun j => RF i j) ++ (List.range j).flatMap fun j => RF i j).foldl add4 g) _ (by omega) (by omega) htA hF2 (CA_34 hg)
        rw [hRF'] at hcall
        refine R_iload (q := 91) rfl rfl rfl ?_
        refine R_aload (q := 93) rfl rfl rfl ?_
        refine R_iload_n (q := 94) rfl rfl rfl ?_
        refine R_bipush (q := 96) (v := nI 7) rfl rfl (by decide) ?_
        refine R_callv2 (q := 99) rfl rfl rfl rfl p1 (Nat.le_of_ble_eq_true rfl) rfl ?_
        refine R_mono (c82 (q := 7) hp1 (by omega)) (fun v96 M96 hr96 => ?_)
        obtain ⟨rfl, hm96⟩ := hr96
        rw [hm96]
        dsimp only [Option.toList, List.cons_append, List.nil_append]
        rw [q7]
        refine R_icmp_ge (q := 102) (t := 173) rfl rfl rfl (fun h99 => absurd h99 (nI_ge hj (by omega))) (fun h99 => ?_)
        refine R_aload (q := 104) rfl rfl rfl ?_
        refine R_iload_n (q := 105) rfl rfl rfl ?_
        refine R_iconst (q := 106) (v := nI 3) rfl rfl (by decide) ?_
        refine R_callv2 (q := 109) rfl rfl rfl rfl p1 (Nat.le_of_ble_eq_true rfl) rfl ?_
        refine R_mono (c82 (q := 3) hp1 (by omega)) (fun v106 M106 hr106 => ?_)
        obtain ⟨rfl, hm106⟩ := hr106
        rw [hm106]
        dsimp only [Option.toList, List.cons_append, List.nil_append]
        refine R_iload (q := 111) rfl rfl rfl ?_
        refine R_aload (q := 113) rfl rfl rfl ?_
        refine R_iload_n (q := 114) rfl rfl rfl ?_
        refine R_iconst (q := 115) (v := nI 5) rfl rfl (by decide) ?_
        refine R_callv2 (q := 118) rfl rfl rfl rfl p1 (Nat.le_of_ble_eq_true rfl) rfl ?_
        refine R_mono (c82 (q := 5) hp1 (by omega)) (fun v115 M115 hr115 => ?_)
        obtain ⟨rfl, hm115⟩ := hr115
        rw [hm115]
        dsimp only [Option.toList, List.cons_append, List.nil_append]
        refine R_imul (q := 119) rfl rfl ?_
        refine R_iadd (q := 120) rfl rfl ?_
        refine R_istore (q := 122) rfl rfl (Nat.le_of_ble_eq_true rfl) rfl ?_
        dsimp only [List.set]
        refine R_iload (q := 124) rfl rfl rfl ?_
        refine R_iload_n (q := 125) rfl rfl rfl ?_
        refine R_iload (q := 127) rfl rfl rfl ?_
        refine R_iload (q := 129) rfl rfl rfl ?_
        refine R_calls3 (q := 132) rfl rfl rfl rfl (Nat.le_of_ble_eq_true rfl) rfl ?_
        refine R_mono (c64 ht) (fun v129 M129 hr129 => ?_)
        obtain ⟨rfl, hm129⟩ := hr129
        rw [hm129]
        dsimp only [Option.toList, List.cons_append, List.nil_append]
        refine R_iadd (q := 133) rfl rfl ?_
        refine R_istore (q := 135) rfl rfl (Nat.le_of_ble_eq_true rfl) rfl ?_
        dsimp only [List.set]
        refine R_iload (q := 137) rfl rfl rfl ?_
        refine R_iload_n (q := 138) rfl rfl rfl ?_
        refine R_iload (q := 140) rfl rfl rfl ?_
        refine R_iload (q := 142) rfl rfl rfl ?_
        refine R_calls3 (q := 145) rfl rfl rfl rfl (Nat.le_of_ble_eq_true rfl) rfl ?_
        refine R_mono (c65 ht) (fun v142 M142 hr142 => ?_)
        obtain ⟨rfl, hm142⟩ := hr142
        rw [hm142]
        dsimp only [Option.toList, List.cons_append, List.nil_append]
        refine R_iadd (q := 146) rfl rfl ?_
        refine R_istore (q := 148) rfl rfl (Nat.le_of_ble_eq_true rfl) rfl ?_
        dsimp only [List.set]
        refine R_aload_n (q := 149) rfl rfl rfl ?_
        refine R_iload (q := 151) rfl rfl rfl ?_
        refine R_iload (q := 153) rfl rfl rfl ?_
        refine R_iload (q := 155) rfl rfl rfl ?_
        refine R_iload (q := 157) rfl rfl rfl ?_
        refine R_aload (q := 159) rfl rfl rfl ?_
        refine R_callv5 (q := 162) rfl rfl rfl rfl h8 (Nat.le_of_ble_eq_true rfl) rfl ?_
        refine R_mono (hcall) (fun v159 M159 hr159 => ?_)
        obtain ⟨g', hm159, hor159⟩ := hr159
        rw [mm_pp] at hm159
        rw [hm159]
        rcases hor159 with ⟨ha159, rfl, hg159⟩ | ⟨ha159, rfl⟩
        · dsimp only [Option.toList, List.cons_append, List.nil_append]
          refine R_if_ne (q := 165) (t := 167) rfl rfl rfl (fun h162 => ?_) (fun h162 => absurd h162 (by decide))
          refine R_iinc (q := 170) rfl rfl rfl (nI_i1 j) rfl ?_
          dsimp only [List.set]
          refine R_goto (t := 89) rfl rfl ?_
          have hs : (((List.range i).flatMap fun i => (List.range (pq (pl c) k 7)).flatMap fun j => RF i j) ++ (List.range (j + 1)).flatMap fun j => RF i j) = (((List.range i).flatMap fun i => (List.range (pq (pl c) k 7)).flatMap fun j => RF i j) ++ (List.range j).flatMap fun j => RF i j) ++ RF i j := by
            rw [List.range_succ, List.flatMap_append, List.flatMap_singleton, List.append_assoc]
          have hk2 := ihj (some (.int (pyv (pl c) k j))) (some (.int (x + tX t (pxv (pl c) k i) (pyv (pl c) k j)))) (some (.int (y + tY t (pxv (pl c) k i) (pyv (pl c) k j)))) (by rw [hs, List.all_append, hallj, ha159]; rfl)
          rw [hs, List.foldl_append] at hk2
          rw [hg159]
          exact hk2
        · dsimp only [Option.toList, List.cons_append, List.nil_append]
          refine R_if_ne (q := 165) (t := 167) rfl rfl rfl (fun h162 => absurd rfl h162) (fun h162 => ?_)
          refine R_iconst (q := 166) (v := nI 0) rfl rfl (by decide) ?_
          refine R_zreturn rfl rfl (Or.inl rfl) ?_
          exact LR_bad ha159 (fun r hr => List.mem_flatMap.mpr ⟨i, List.mem_range.mpr hi, List.mem_flatMap.mpr ⟨j, List.mem_range.mpr hj, hr⟩⟩)
        
      · refine R_iload (q := 91) rfl rfl rfl ?_
        refine R_aload (q := 93) rfl rfl rfl ?_
        refine R_iload_n (q := 94) rfl rfl rfl ?_
        refine R_bipush (q := 96) (v := nI 7) rfl rfl (by decide) ?_
        refine R_callv2 (q := 99) rfl rfl rfl rfl ((LF_4 hF).2.1 c (by omega)).1 (Nat.le_of_ble_eq_true rfl) rfl ?_
        refine R_mono (c82 (q := 7) ((LF_4 hF).2.1 c (by omega)) (by omega)) (fun v96 M96 hr96 => ?_)
        obtain ⟨rfl, hm96⟩ := hr96
        rw [hm96]
        dsimp only [Option.toList, List.cons_append, List.nil_append]
        rw [q7]
        refine R_icmp_ge (q := 102) (t := 173) rfl rfl rfl (fun h99 => ?_) (fun h99 => absurd (nI_le (Nat.le_refl _) (by omega)) h99)
        refine R_iinc (q := 176) rfl rfl rfl (nI_i1 i) rfl ?_
        dsimp only [List.set]
        refine R_goto (t := 53) rfl rfl ?_
        have hs : ((List.range (i + 1)).flatMap fun i => (List.range (pq (pl c) k 7)).flatMap fun j => RF i j) = (((List.range i).flatMap fun i => (List.range (pq (pl c) k 7)).flatMap fun j => RF i j) ++ (List.range (pq (pl c) k 7)).flatMap fun j => RF i j) := by
          rw [List.range_succ, List.flatMap_append, List.flatMap_singleton]
        have hk2 := ihi (some (.int (pxv (pl c) k i))) (some (.int (nI (pq (pl c) k 7)))) t13 t14 t15 (by rw [hs]; exact hallj)
        rw [hs] at hk2
        exact hk2
    · refine R_iload (q := 55) rfl rfl rfl ?_
      refine R_aload (q := 57) rfl rfl rfl ?_
      refine R_iload_n (q := 58) rfl rfl rfl ?_
      refine R_bipush (q := 60) (v := nI 6) rfl rfl (by decide) ?_
      refine R_callv2 (q := 63) rfl rfl rfl rfl ((LF_4 hF).2.1 c (by omega)).1 (Nat.le_of_ble_eq_true rfl) rfl ?_
      refine R_mono (c82 (q := 6) ((LF_4 hF).2.1 c (by omega)) (by omega)) (fun v60 M60 hr60 => ?_)
      obtain ⟨rfl, hm60⟩ := hr60
      rw [hm60]
      dsimp only [Option.toList, List.cons_append, List.nil_append]
      rw [q6]
      refine R_icmp_ge (q := 66) (t := 179) rfl rfl rfl (fun h63 => ?_) (fun h63 => absurd (nI_le (Nat.le_refl _) (by omega)) h63)
      refine R_iconst (q := 180) (v := nI 1) rfl rfl (by decide) ?_
      refine R_zreturn rfl rfl (by first | exact Or.inl rfl | exact Or.inr rfl | assumption) ?_
      exact ⟨_, rfl, Or.inl ⟨hall, rfl, rfl⟩⟩
  show mm_R S (d + 3 + 2 * n + 1) 62 0 [some (.ref 8), some (.int (nI c)), some (.int (nI k)), some (.int (nI t)), some (.int x), some (.int y), some (.ref 3), none, none, none, none, none, none, none, none, none] [] M _
  refine R_aload_n (q := 1) rfl rfl rfl ?_
  refine R_getf (q := 4) rfl rfl rfl (by first | assumption | exact mm_pe | (rw [mm_pn (by omega)]; first | assumption | exact mm_pe | (rw [mm_pn (by omega)]; first | assumption | exact mm_pe | (rw [mm_pn (by omega)]; first | assumption | exact mm_pe | (rw [mm_pn (by omega)]; first | assumption | exact mm_pe | (rw [mm_pn (by omega)]; first | assumption | exact mm_pe)))))) rfl ?_
  refine R_iload_n (q := 5) rfl rfl rfl ?_
  refine R_aaload (q := 6) rfl rfl (by first | assumption | exact mm_pe | (rw [mm_pn (by omega)]; first | assumption | exact mm_pe | (rw [mm_pn (by omega)]; first | assumption | exact mm_pe | (rw [mm_pn (by omega)]; first | assumption | exact mm_pe | (rw [mm_pn (by omega)]; first | assumption | exact mm_pe | (rw [mm_pn (by omega)]; first | assumption | exact mm_pe)))))) rfl (by first | assumption | exact in_nI (by omega) (by decide)) (by rw [cl_nI (by omega)]; exact hpf c (by omega)) ?_
  refine R_astore (q := 8) rfl rfl (Nat.le_of_ble_eq_true rfl) rfl ?_
  dsimp only [List.set]
  refine R_aload (q := 10) rfl rfl rfl ?_
  refine R_iload_n (q := 11) rfl rfl rfl ?_
  refine R_iconst (q := 12) (v := nI 0) rfl rfl (by decide) ?_
  refine R_callv2 (q := 15) rfl rfl rfl rfl p1 (Nat.le_of_ble_eq_true rfl) rfl ?_
  refine R_mono (c82 (q := 0) hp1 (by omega)) (fun v12 M12 hr12 => ?_)
  obtain ⟨rfl, hm12⟩ := hr12
  rw [hm12]
  dsimp only [Option.toList, List.cons_append, List.nil_append]
  rw [q0]
  refine R_istore (q := 17) rfl rfl (Nat.le_of_ble_eq_true rfl) rfl ?_
  dsimp only [List.set]
  refine R_iload (q := 19) rfl rfl rfl ?_
  refine R_iload_n (q := 20) rfl rfl rfl ?_
  refine R_icmp_lt (q := 23) (t := 25) rfl rfl rfl (fun h20 => ?_) (fun h20 => absurd (nI_lt (by omega) (by omega)) h20)
  refine R_aload_n (q := 26) rfl rfl rfl ?_
  refine R_getf (q := 29) rfl rfl rfl (by first | assumption | exact mm_pe | (rw [mm_pn (by omega)]; first | assumption | exact mm_pe | (rw [mm_pn (by omega)]; first | assumption | exact mm_pe | (rw [mm_pn (by omega)]; first | assumption | exact mm_pe | (rw [mm_pn (by omega)]; first | assumption | exact mm_pe | (rw [mm_pn (by omega)]; first | assumption | exact mm_pe)))))) rfl ?_
  refine R_iload (q := 31) rfl rfl rfl ?_
  refine R_iaload (q := 32) rfl rfl (by first | assumption | exact mm_pe | (rw [mm_pn (by omega)]; first | assumption | exact mm_pe | (rw [mm_pn (by omega)]; first | assumption | exact mm_pe | (rw [mm_pn (by omega)]; first | assumption | exact mm_pe | (rw [mm_pn (by omega)]; first | assumption | exact mm_pe | (rw [mm_pn (by omega)]; first | assumption | exact mm_pe)))))) (by omega) (by first | assumption | exact in_nI (by omega) (by decide)) ?_
  rw [cl_nI (by omega), hT2]
  refine R_if_ne (q := 35) (t := 37) rfl rfl rfl (fun h32 => ?_) (fun h32 => ?_)
  · refine R_aload (q := 39) rfl rfl rfl ?_
    refine R_iload_n (q := 40) rfl rfl rfl ?_
    refine R_iconst (q := 41) (v := nI 1) rfl rfl (by decide) ?_
    refine R_callv2 (q := 44) rfl rfl rfl rfl p1 (Nat.le_of_ble_eq_true rfl) rfl ?_
    refine R_mono (c82 (q := 1) hp1 (by omega)) (fun v41 M41 hr41 => ?_)
    obtain ⟨rfl, hm41⟩ := hr41
    rw [hm41]
    dsimp only [Option.toList, List.cons_append, List.nil_append]
    rw [q1]
    refine R_iload_n (q := 45) rfl rfl rfl ?_
    refine R_calls2 (q := 48) rfl rfl rfl rfl (Nat.le_of_ble_eq_true rfl) rfl ?_
    refine R_mono (c66 q1' ht) (fun v45 M45 hr45 => ?_)
    obtain ⟨rfl, hm45⟩ := hr45
    rw [hm45]
    dsimp only [Option.toList, List.cons_append, List.nil_append]
    refine R_istore (q := 50) rfl rfl (Nat.le_of_ble_eq_true rfl) rfl ?_
    dsimp only [List.set]
    refine R_iconst (q := 51) (v := nI 0) rfl rfl (by decide) ?_
    refine R_istore (q := 53) rfl rfl (Nat.le_of_ble_eq_true rfl) rfl ?_
    dsimp only [List.set]
    exact hloop
  · refine R_iconst (q := 36) (v := nI 1) rfl rfl (by decide) ?_
    refine R_zreturn rfl rfl (by first | exact Or.inl rfl | exact Or.inr rfl | assumption) ?_
    have hT0 : T = 0 := (nI_eq (a := T) (b := 0) (by omega) (by decide)).mp h32
    refine ⟨g, (mm_pself hg.2).symm, Or.inl ⟨?_, rfl, ?_⟩⟩
    · have hz : ((List.range (pq (pl c) k 6)).flatMap fun i => (List.range (pq (pl c) k 7)).flatMap fun j => RF i j) = [] := by
        simp only [← hRF', hT3 hT0]
        simp
      rw [hz]
      rfl
    · have hz : ((List.range (pq (pl c) k 6)).flatMap fun i => (List.range (pq (pl c) k 7)).flatMap fun j => RF i j) = [] := by
        simp only [← hRF', hT3 hT0]
        simp
      rw [hz]
      rfl
end P22
end
section
section P23
variable {S : mm_S} {d : Nat} {nb np : Nat → Nat} {bx pl : Nat → Nat → Int32}
theorem tsum_0 {p : Nat → Int32} {T : Nat → Nat} {c n : Nat} (hp : ∀ k, k < n → plok c p k) (h : tsum p T n = 0) : ∀ k, k < n → T (pq p k 0) = 0 := by
  induction n with
  | zero => intro k hk; exact absurd hk (by omega)
  | succ n ih =>
    have h' : tsum p T n + pq p n 6 * pq p n 7 * T (pq p n 0) = 0 := h
    intro k hk
    by_cases e : k = n
    · subst e
      obtain ⟨-, -, -, -, ⟨-, h6, -⟩, -, h7, -⟩ := hp k (by omega)
      have h2 : pq p k 6 * pq p k 7 * T (pq p k 0) = 0 := by omega
      have h3 : 0 < pq p k 6 * pq p k 7 := Nat.mul_pos h6 h7
      rcases Nat.mul_eq_zero.mp h2 with q | q
      · omega
      · exact q
    · exact ih (fun k hk => hp k (by omega)) (by omega) k (by omega)
theorem rects_nil (hv : LYV nb np bx pl) : ∀ n i, i < 6 → totL nb np pl (i + 1) i = 0 → ∀ t x y, rects nb np bx pl n i t x y = [] := by
  intro n
  induction n with
  | zero => intro i _ _ t x y; rfl
  | succ n ih =>
    intro i hi h t x y
    have h1 : (if i = i then min (nb i + tsum (pl i) (totL nb np pl i) (np i)) 201 else totL nb np pl i i) = 0 := h
    rw [if_pos rfl] at h1
    have h2 : nb i = 0 := by omega
    have h3 : tsum (pl i) (totL nb np pl i) (np i) = 0 := by omega
    have h4 := tsum_0 (hv i hi).2 h3
    show ((List.range (nb i)).map _) ++ (List.range (np i)).flatMap _ = []
    rw [h2]
    simp only [List.range_zero, List.map_nil, List.nil_append]
    rw [List.flatMap_eq_nil_iff]
    intro k hk
    have hk' := List.mem_range.mp hk
    obtain ⟨⟨-, q0⟩, -⟩ := (hv i hi).2 k hk'
    have h5 : totL nb np pl (pq (pl i) k 0 + 1) (pq (pl i) k 0) = 0 := by
      rw [← totL_lt (p := pq (pl i) k 0 + 1) (q := i) (by omega) (by omega)]
      exact h4 k hk'
    rw [List.flatMap_eq_nil_iff]
    intro i' _
    rw [List.flatMap_eq_nil_iff]
    intro j' _
    exact ih _ (by omega) h5 _ _ _
set_option maxRecDepth 8000 in
theorem c61 {n top : Nat} {tt : Nat → Int32} (ih : layP S d nb np bx pl tt top n) (hv : LYV nb np bx pl) (htop : top < 6) (htt : ∀ i, i ≤ top → tt i = nI (totL nb np pl (i + 1) i)) : layP S d nb np bx pl tt top (n + 1) := by
  intro c t x y g M hc hct ht hF hg
  have htt' : ∀ i, i ≤ top → ∃ T, T ≤ 201 ∧ tt i = nI T ∧ (T = 0 → ∀ t x y, rects nb np bx pl n i t x y = []) := fun i hi => ⟨_, totL_le _ _, htt i hi, fun h0 => rects_nil hv n i (by omega) h0⟩
  have h62 := fun (k : Nat) (hk : k < np c) (g : Nat → Int32) (M : mm_M) (hF : LF M nb np bx pl tt) (hg : CA M 3 g) => c62 (S := S) (d := d) (x := x) (y := y) ih hv htt' hc hct htop hk ht hF hg
  show mm_R S (d + 3 + 2 * n + 1 + 1) 61 0 [some (.ref 8), some (.int (nI c)), some (.int (nI t)), some (.int x), some (.int y), some (.ref 3), none, none] [] M (LR (((List.range (nb c)).map (fun i => rct (bx c) i t x y)) ++ (List.range (np c)).flatMap (fun k => (List.range (pq (pl c) k 6)).flatMap fun i => (List.range (pq (pl c) k 7)).flatMap fun j => rects nb np bx pl n (pq (pl c) k 0) (tA (pq (pl c) k 1) t) (x + tX t (pxv (pl c) k i) (pyv (pl c) k j)) (y + tY t (pxv (pl c) k i) (pyv (pl c) k j)))) g M)
  generalize hF0 : (fun k => (List.range (pq (pl c) k 6)).flatMap fun i => (List.range (pq (pl c) k 7)).flatMap fun j => rects nb np bx pl n (pq (pl c) k 0) (tA (pq (pl c) k 1) t) (x + tX t (pxv (pl c) k i) (pyv (pl c) k j)) (y + tY t (pxv (pl c) k i) (pyv (pl c) k j))) = F at *
  generalize hB0 : (fun i => rct (bx c) i t x y) = B at *
  have hB1 : ∀ i, rct (bx c) i t x y = B i := fun i => by rw [← hB0]
  have hF1 : ∀ k, ((List.range (pq (pl c) k 6)).flatMap fun i => (List.range (pq (pl c) k 7)).flatMap fun j => rects nb np bx pl n (pq (pl c) k 0) (tA (pq (pl c) k 1) t) (x + tX t (pxv (pl c) k i) (pyv (pl c) k j)) (y + tY t (pxv (pl c) k i) (pyv (pl c) k j))) = F k := fun k => by rw [← hF0]
  obtain ⟨⟨h1, pf, h2, hpf⟩, hp, h10⟩ := id hF
  have hp1 := hp c (by omega)
  obtain ⟨p1, p2, p3, p4, p5⟩ := id hp1
  have hci := in_nI (show c < 6 by omega) (by decide)
  have hl2 : ((List.range (nb c)).map B).all on4 = true → mm_R S (d + 3 + 2 * n + 1 + 1) 61 48 [some (.ref 8), some (.int (nI c)), some (.int (nI t)), some (.int x), some (.int y), some (.ref 3), some (.ref (12 + 3 * c)), some (.int (nI 0))] [] (mm_put M 4 (ro (((List.range (nb c)).map B).foldl add4 g))) (LR (((List.range (nb c)).map B) ++ (List.range (np c)).flatMap F) g M) := by
    intro hall0
    refine R_atM (M' := mm_put M 4 (ro ((((List.range (nb c)).map B) ++ (List.range 0).flatMap F).foldl add4 g))) (by simp) ?_
    refine lpN (fun k => (((List.range (nb c)).map B) ++ (List.range k).flatMap F).all on4 = true → mm_R S (d + 3 + 2 * n + 1 + 1) 61 48 [some (.ref 8), some (.int (nI c)), some (.int (nI t)), some (.int x), some (.int y), some (.ref 3), some (.ref (12 + 3 * c)), some (.int (nI k))] [] (mm_put M 4 (ro ((((List.range (nb c)).map B) ++ (List.range k).flatMap F).foldl add4 g))) (LR (((List.range (nb c)).map B) ++ (List.range (np c)).flatMap F) g M)) (np c) (fun k hk ihk hall => ?_) (fun hall => ?_) 0 (Nat.zero_le _) (by simpa using hall0)
    · have hF2 := LF_4 (c := ro ((((List.range (nb c)).map B) ++ (List.range k).flatMap F).foldl add4 g)) hF
      have hp1 := hF2.2.1 c (by omega)
      obtain ⟨p1, p2, p3, p4, p5⟩ := id hp1
      have h8 := hF2.1.1
      have hcall := h62 k hk ((((List.range (nb c)).map B) ++ (List.range k).flatMap F).foldl add4 g) _ hF2 (CA_34 hg)
      rw [hF1] at hcall
      refine R_iload (q := 50) rfl rfl rfl ?_
      refine R_aload (q := 52) rfl rfl rfl ?_
      refine R_callv0 (q := 55) rfl rfl rfl rfl p1 (Nat.le_of_ble_eq_true rfl) rfl ?_
      refine R_mono (c78 hp1) (fun v52 M52 hr52 => ?_)
      obtain ⟨rfl, hm52⟩ := hr52
      rw [hm52]
      dsimp only [Option.toList, List.cons_append, List.nil_append]
      refine R_icmp_ge (q := 58) (t := 82) rfl rfl rfl (fun h55 => absurd h55 (nI_ge hk (by omega))) (fun h55 => ?_)
      refine R_aload_n (q := 59) rfl rfl rfl ?_
      refine R_iload_n (q := 60) rfl rfl rfl ?_
      refine R_iload (q := 62) rfl rfl rfl ?_
      refine R_iload_n (q := 63) rfl rfl rfl ?_
      refine R_iload_n (q := 64) rfl rfl rfl ?_
      refine R_iload (q := 66) rfl rfl rfl ?_
      refine R_aload (q := 68) rfl rfl rfl ?_
      refine R_callv6 (q := 71) rfl rfl rfl rfl h8 (Nat.le_of_ble_eq_true rfl) rfl ?_
      refine R_mono (hcall) (fun v68 M68 hr68 => ?_)
      obtain ⟨g', hm68, hor68⟩ := hr68
      rw [mm_pp] at hm68
      rw [hm68]
      rcases hor68 with ⟨ha68, rfl, hg68⟩ | ⟨ha68, rfl⟩
      · dsimp only [Option.toList, List.cons_append, List.nil_append]
        refine R_if_ne (q := 74) (t := 76) rfl rfl rfl (fun h71 => ?_) (fun h71 => absurd h71 (by decide))
        refine R_iinc (q := 79) rfl rfl rfl (nI_i1 k) rfl ?_
        dsimp only [List.set]
        refine R_goto (t := 48) rfl rfl ?_
        have hs : (((List.range (nb c)).map B) ++ (List.range (k + 1)).flatMap F) = (((List.range (nb c)).map B) ++ (List.range k).flatMap F) ++ F k := by
          rw [List.range_succ, List.flatMap_append, List.flatMap_singleton, List.append_assoc]
        have hk2 := ihk (by rw [hs, List.all_append, hall, ha68]; rfl)
        rw [hs, List.foldl_append] at hk2
        rw [hg68]
        exact hk2
      · dsimp only [Option.toList, List.cons_append, List.nil_append]
        refine R_if_ne (q := 74) (t := 76) rfl rfl rfl (fun h71 => absurd rfl h71) (fun h71 => ?_)
        refine R_iconst (q := 75) (v := nI 0) rfl rfl (by decide) ?_
        refine R_zreturn rfl rfl (Or.inl rfl) ?_
        exact LR_bad ha68 (fun r hr => List.mem_append_right _ (List.mem_flatMap.mpr ⟨k, List.mem_range.mpr hk, hr⟩))
      
    · refine R_iload (q := 50) rfl rfl rfl ?_
      refine R_aload (q := 52) rfl rfl rfl ?_
      refine R_callv0 (q := 55) rfl rfl rfl rfl ((LF_4 hF).2.1 c (by omega)).1 (Nat.le_of_ble_eq_true rfl) rfl ?_
      refine R_mono (c78 ((LF_4 hF).2.1 c (by omega))) (fun v52 M52 hr52 => ?_)
      obtain ⟨rfl, hm52⟩ := hr52
      rw [hm52]
      dsimp only [Option.toList, List.cons_append, List.nil_append]
      refine R_icmp_ge (q := 58) (t := 82) rfl rfl rfl (fun h55 => ?_) (fun h55 => absurd (nI_le (Nat.le_refl _) (by omega)) h55)
      refine R_iconst (q := 83) (v := nI 1) rfl rfl (by decide) ?_
      refine R_zreturn rfl rfl (by first | exact Or.inl rfl | exact Or.inr rfl | assumption) ?_
      exact ⟨_, rfl, Or.inl ⟨hall, rfl, rfl⟩⟩
  have hl1 : mm_R S (d + 3 + 2 * n + 1 + 1) 61 11 [some (.ref 8), some (.int (nI c)), some (.int (nI t)), some (.int x), some (.int y), some (.ref 3), some (.ref (12 + 3 * c)), some (.int (nI 0))] [] M (LR (((List.range (nb c)).map B) ++ (List.range (np c)).flatMap F) g M) := by
    refine R_atM (M' := mm_put M 4 (ro (((List.range 0).map B).foldl add4 g))) (mm_pself hg.2) ?_
    refine lpN (fun i => ((List.range i).map B).all on4 = true → mm_R S (d + 3 + 2 * n + 1 + 1) 61 11 [some (.ref 8), some (.int (nI c)), some (.int (nI t)), some (.int x), some (.int y), some (.ref 3), some (.ref (12 + 3 * c)), some (.int (nI i))] [] (mm_put M 4 (ro (((List.range i).map B).foldl add4 g))) (LR (((List.range (nb c)).map B) ++ (List.range (np c)).flatMap F) g M)) (nb c) (fun i hi ihi hall => ?_) (fun hall => ?_) 0 (Nat.zero_le _) rfl
    · have hF2 := LF_4 (c := ro (((List.range i).map B).foldl add4 g)) hF
      have hp1 := hF2.2.1 c (by omega)
      obtain ⟨p1, p2, p3, p4, p5⟩ := id hp1
      have hcall := c63 (S := S) (d := d) (i := i) (x := x) (y := y) hp1 (by omega) ht (CA_34 hg)
      rw [hB1] at hcall
      have hs : ((List.range (i + 1)).map B) = ((List.range i).map B) ++ [B i] := by
        rw [List.range_succ, List.map_append]
        rfl
      refine R_iload (q := 13) rfl rfl rfl ?_
      refine R_aload (q := 15) rfl rfl rfl ?_
      refine R_callv0 (q := 18) rfl rfl rfl rfl p1 (Nat.le_of_ble_eq_true rfl) rfl ?_
      refine R_mono (c77 hp1) (fun v15 M15 hr15 => ?_)
      obtain ⟨rfl, hm15⟩ := hr15
      rw [hm15]
      dsimp only [Option.toList, List.cons_append, List.nil_append]
      refine R_icmp_ge (q := 21) (t := 45) rfl rfl rfl (fun h18 => absurd h18 (nI_ge hi (by omega))) (fun h18 => ?_)
      refine R_aload (q := 23) rfl rfl rfl ?_
      refine R_iload (q := 25) rfl rfl rfl ?_
      refine R_iload_n (q := 26) rfl rfl rfl ?_
      refine R_iload_n (q := 27) rfl rfl rfl ?_
      refine R_iload (q := 29) rfl rfl rfl ?_
      refine R_aload (q := 31) rfl rfl rfl ?_
      refine R_calls6 (q := 34) rfl rfl rfl rfl (Nat.le_of_ble_eq_true rfl) rfl ?_
      refine R_mono (R_deep hcall (by omega)) (fun v31 M31 hr31 => ?_)
      obtain ⟨rfl, hm31⟩ := hr31
      dsimp only [Option.toList, List.cons_append, List.nil_append]
      by_cases hon : on4 (B i) = true
      · rw [if_pos hon, mm_pp] at hm31
        rw [hm31, hon]
        refine R_if_ne (q := 37) (t := 39) rfl rfl rfl (fun h34 => ?_) (fun h34 => absurd h34 (by decide))
        refine R_iinc (q := 42) rfl rfl rfl (nI_i1 i) rfl ?_
        dsimp only [List.set]
        refine R_goto (t := 11) rfl rfl ?_
        have hk2 := ihi (by rw [hs, List.all_append, hall]; simp [hon])
        rw [hs, List.foldl_append] at hk2
        exact hk2
      · rw [if_neg hon] at hm31
        have hoff : on4 (B i) = false := by simpa using hon
        rw [hm31, hoff]
        refine R_if_ne (q := 37) (t := 39) rfl rfl rfl (fun h34 => absurd rfl h34) (fun h34 => ?_)
        refine R_iconst (q := 38) (v := nI 0) rfl rfl (by decide) ?_
        refine R_zreturn rfl rfl (Or.inl rfl) ?_
        exact LR_bad (l' := [B i]) (by simp [hoff]) (fun r hr => List.mem_append_left _ (List.mem_map.mpr ⟨i, List.mem_range.mpr hi, (List.mem_singleton.mp hr).symm⟩))
      
    · refine R_iload (q := 13) rfl rfl rfl ?_
      refine R_aload (q := 15) rfl rfl rfl ?_
      refine R_callv0 (q := 18) rfl rfl rfl rfl ((LF_4 hF).2.1 c (by omega)).1 (Nat.le_of_ble_eq_true rfl) rfl ?_
      refine R_mono (c77 ((LF_4 hF).2.1 c (by omega))) (fun v15 M15 hr15 => ?_)
      obtain ⟨rfl, hm15⟩ := hr15
      rw [hm15]
      dsimp only [Option.toList, List.cons_append, List.nil_append]
      refine R_icmp_ge (q := 21) (t := 45) rfl rfl rfl (fun h18 => ?_) (fun h18 => absurd (nI_le (Nat.le_refl _) (by omega)) h18)
      refine R_iconst (q := 46) (v := nI 0) rfl rfl (by decide) ?_
      refine R_istore (q := 48) rfl rfl (Nat.le_of_ble_eq_true rfl) rfl ?_
      dsimp only [List.set]
      exact hl2 hall
  refine R_aload_n (q := 1) rfl rfl rfl ?_
  refine R_getf (q := 4) rfl rfl rfl (by first | assumption | exact mm_pe | (rw [mm_pn (by omega)]; first | assumption | exact mm_pe | (rw [mm_pn (by omega)]; first | assumption | exact mm_pe | (rw [mm_pn (by omega)]; first | assumption | exact mm_pe | (rw [mm_pn (by omega)]; first | assumption | exact mm_pe | (rw [mm_pn (by omega)]; first | assumption | exact mm_pe)))))) rfl ?_
  refine R_iload_n (q := 5) rfl rfl rfl ?_
  refine R_aaload (q := 6) rfl rfl (by first | assumption | exact mm_pe | (rw [mm_pn (by omega)]; first | assumption | exact mm_pe | (rw [mm_pn (by omega)]; first | assumption | exact mm_pe | (rw [mm_pn (by omega)]; first | assumption | exact mm_pe | (rw [mm_pn (by omega)]; first | assumption | exact mm_pe | (rw [mm_pn (by omega)]; first | assumption | exact mm_pe)))))) rfl (by first | assumption | exact in_nI (by omega) (by decide)) (by rw [cl_nI (by omega)]; exact hpf c (by omega)) ?_
  refine R_astore (q := 8) rfl rfl (Nat.le_of_ble_eq_true rfl) rfl ?_
  dsimp only [List.set]
  refine R_iconst (q := 9) (v := nI 0) rfl rfl (by decide) ?_
  refine R_istore (q := 11) rfl rfl (Nat.le_of_ble_eq_true rfl) rfl ?_
  dsimp only [List.set]
  exact hl1
theorem layP_all {top : Nat} {tt : Nat → Int32} (hv : LYV nb np bx pl) (htop : top < 6) (htt : ∀ i, i ≤ top → tt i = nI (totL nb np pl (i + 1) i)) : ∀ n, layP S d nb np bx pl tt top n := by
  intro n
  induction n with
  | zero => intro c t x y g M hc; exact absurd hc (by omega)
  | succ n ih => exact c61 ih hv htop htt
set_option maxRecDepth 8000 in
theorem c60 {c : Nat} {tt g : Nat → Int32} {x y : Int32} {M : mm_M} (hv : LYV nb np bx pl) (hc : c < 6) (htt : ∀ i, i ≤ c → tt i = nI (totL nb np pl (i + 1) i)) (hF : LF M nb np bx pl tt) (hg : CA M 3 g) : mm_R S (d + 16) 60 0 (mm_en 60 [.ref 8, .int (nI c), .int x, .int y, .ref 3]) [] M (fun v M' => ∃ g', M' = mm_put M 4 (ro g') ∧ (((rects nb np bx pl 6 c 0 x y).all on4 = true ∧ v = some (.int (nI 1)) ∧ g' = (rects nb np bx pl 6 c 0 x y).foldl add4 (ifl (fun _ => nI 0) g 16)) ∨ ((rects nb np bx pl 6 c 0 x y).all on4 = false ∧ v = some (.int (nI 0))))) := by
  have hg1 := hg.1
  have h8 := (LF_4 (c := ro (ifl (fun _ => nI 0) g 16)) hF).1.1
  have hcall := layP_all (S := S) (d := d) hv hc htt 6 c 0 x y (ifl (fun _ => nI 0) g 16) _ hc (Nat.le_refl c) (by decide) (LF_4 hF) (CA_34 hg)
  show mm_R S (d + 16) 60 0 [some (.ref 8), some (.int (nI c)), some (.int x), some (.int y), some (.ref 3)] [] M _
  refine R_aload (q := 2) rfl rfl rfl ?_
  refine R_callv0 (q := 5) rfl rfl rfl rfl hg1 (Nat.le_of_ble_eq_true rfl) rfl ?_
  refine R_mono (c7 hg) (fun v2 M2 hr2 => ?_)
  obtain ⟨rfl, hm2⟩ := hr2
  rw [hm2]
  dsimp only [Option.toList, List.cons_append, List.nil_append]
  refine R_aload_n (q := 6) rfl rfl rfl ?_
  refine R_iload_n (q := 7) rfl rfl rfl ?_
  refine R_iconst (q := 8) (v := nI 0) rfl rfl (by decide) ?_
  refine R_iload_n (q := 9) rfl rfl rfl ?_
  refine R_iload_n (q := 10) rfl rfl rfl ?_
  refine R_aload (q := 12) rfl rfl rfl ?_
  refine R_callv5 (q := 15) rfl rfl rfl rfl h8 (Nat.le_of_ble_eq_true rfl) rfl ?_
  refine R_mono ((show mm_R S (d + 15) 61 0 _ [] _ _ from hcall)) (fun v12 M12 hr12 => ?_)
  obtain ⟨g', hm12, hor12⟩ := hr12
  rw [mm_pp] at hm12
  rcases hor12 with ⟨ha12, rfl, hg12⟩ | ⟨ha12, rfl⟩
  · dsimp only [Option.toList, List.cons_append, List.nil_append]
    refine R_zreturn rfl rfl (Or.inr rfl) ?_
    exact ⟨g', hm12, Or.inl ⟨ha12, rfl, hg12⟩⟩
  · dsimp only [Option.toList, List.cons_append, List.nil_append]
    refine R_zreturn rfl rfl (Or.inl rfl) ?_
    exact ⟨g', hm12, Or.inr ⟨ha12, rfl⟩⟩
  
end P23
end
section
/-! ===== Survey: the object at 30, left at 31 (rows 32), reached at 33 (rows 34) ===== -/
def SVF (M : mm_M) : Prop := M.1 30 = some (.inr (7, [.ref 31, .ref 33])) ∧ M.1 31 = some (.inr (0, [.ref 32])) ∧ M.1 33 = some (.inr (0, [.ref 34]))
def sv (M : mm_M) (l r : Nat → Int32) : mm_M := mm_put (mm_put M 32 (ro l)) 34 (ro r)
theorem sv_30 {M : mm_M} {l r : Nat → Int32} (h : SVF M) : (sv M l r).1 30 = some (.inr (7, [.ref 31, .ref 33])) := by unfold sv; rw [mm_pn (by decide), mm_pn (by decide)]; exact h.1
theorem sv_l {M : mm_M} {l r : Nat → Int32} (h : SVF M) : CA (sv M l r) 31 l := by unfold sv; exact ⟨by rw [mm_pn (by decide), mm_pn (by decide)]; exact h.2.1, by rw [mm_pn (by decide)]; exact mm_pe⟩
theorem sv_r {M : mm_M} {l r : Nat → Int32} (h : SVF M) : CA (sv M l r) 33 r := by unfold sv; exact ⟨by rw [mm_pn (by decide), mm_pn (by decide)]; exact h.2.2, mm_pe⟩
theorem sv_pr {M : mm_M} {l r r' : Nat → Int32} : mm_put (sv M l r) 34 (ro r') = sv M l r' := mm_pp
theorem sv_pl {M : mm_M} {l r l' : Nat → Int32} : mm_put (sv M l r) 32 (ro l') = sv M l' r := by unfold sv; rw [mm_pcomm (by decide), mm_pp]
theorem sv_self {M : mm_M} {l r : Nat → Int32} (h1 : CA M 31 l) (h2 : CA M 33 r) : sv M l r = M := by unfold sv; rw [mm_pself h1.2, mm_pself h2.2]
theorem sv_CA {M : mm_M} {l r f : Nat → Int32} {a : Nat} (h : CA M a f) (ha : a + 1 < 31 ∨ 34 < a) : CA (sv M l r) a f := by unfold sv; exact CA_off (CA_off h (by omega) (by omega)) (by omega) (by omega)
def wid (m : Int32) : Nat → Int32 → Int32
  | 0, v => v
  | n + 1, v => if ((v ||| v <<< (nI 1 &&& 31)) ||| v >>> (nI 1 &&& 31)) &&& m = v then v else wid m n (((v ||| v <<< (nI 1 &&& 31)) ||| v >>> (nI 1 &&& 31)) &&& m)
def rm (r : Nat → Int32) (y : Nat) : Int32 := rowv r (nI y - nI 1)
def rp (r : Nat → Int32) (y : Nat) : Int32 := rowv r (nI (y + 1))
def tch (b : Bool) (v : Int32) : Int32 := if b then (v ||| v <<< (nI 1 &&& 31)) ||| v >>> (nI 1 &&& 31) else v
def nv (l r : Nat → Int32) (y : Nat) (b : Bool) : Int32 := wid (l y) 16 ((r y ||| tch b (rm r y ||| rp r y)) &&& l y)
section P24
variable {S : mm_S} {d : Nat} {M : mm_M} {l r : Nat → Int32} {b : Bool}
set_option maxRecDepth 8000 in
theorem c88_loop {y : Nat} (h : SVF M) (hy : y < 16) {t3 t4 : Option Value} : ∀ (k n : Nat) (now : Int32) (t8 : Option Value), n + k = 16 → mm_R S (d + 1) 88 73 [some (.ref 30), some (.int (nI y)), some (.int (zb b)), some (.int (r y)), t3, t4, some (.int now), some (.int (nI n)), t8] [] (sv M l r) (fun v M' => v = some (.int (zb (decide (¬ wid (l y) k now = r y)))) ∧ M' = sv M l (upd r y (wid (l y) k now &&& 65535))) := by
  have h30 := sv_30 (l := l) (r := r) h
  have hl := sv_l (l := l) (r := r) h
  have hr := sv_r (l := l) (r := r) h
  have hl1 := hl.1
  have hr1 := hr.1
  have hend : ∀ (now : Int32) (t7 t8 : Option Value), mm_R S (d + 1) 88 123 [some (.ref 30), some (.int (nI y)), some (.int (zb b)), some (.int (r y)), t3, t4, some (.int now), t7, t8] [] (sv M l r) (fun v M' => v = some (.int (zb (decide (¬ now = r y)))) ∧ M' = sv M l (upd r y (now &&& 65535))) := by
    intro now t7 t8
    refine R_aload_n (q := 124) rfl rfl rfl ?_
    refine R_getf (q := 127) rfl rfl rfl (by first | assumption | exact mm_pe | (rw [mm_pn (by omega)]; first | assumption | exact mm_pe | (rw [mm_pn (by omega)]; first | assumption | exact mm_pe | (rw [mm_pn (by omega)]; first | assumption | exact mm_pe | (rw [mm_pn (by omega)]; first | assumption | exact mm_pe | (rw [mm_pn (by omega)]; first | assumption | exact mm_pe)))))) rfl ?_
    refine R_iload_n (q := 128) rfl rfl rfl ?_
    refine R_iload (q := 130) rfl rfl rfl ?_
    refine R_callv2 (q := 133) rfl rfl rfl rfl hr1 (Nat.le_of_ble_eq_true rfl) rfl ?_
    refine R_mono (c6 hr) (fun v130 M130 hr130 => ?_)
    obtain ⟨rfl, hm130⟩ := hr130
    rw [if_pos (by rw [i_n y (by omega)]; omega), sv_pr, cl_nI (by omega)] at hm130
    rw [hm130]
    dsimp only [Option.toList, List.cons_append, List.nil_append]
    refine R_iload (q := 135) rfl rfl rfl ?_
    refine R_iload_n (q := 136) rfl rfl rfl ?_
    refine R_icmp_eq (q := 139) (t := 143) rfl rfl rfl (fun h136 => ?_) (fun h136 => ?_)
    · refine R_iconst (q := 144) (v := nI 0) rfl rfl (by decide) ?_
      refine R_zreturn rfl rfl (by first | exact Or.inl rfl | exact Or.inr rfl | assumption) ?_
      refine ⟨congrArg some (congrArg Value.int ?_), rfl⟩
      first | exact (zb_t h136).symm | exact (zb_f (fun q => q h136)).symm
    · refine R_iconst (q := 140) (v := nI 1) rfl rfl (by decide) ?_
      refine R_goto (t := 144) rfl rfl ?_
      refine R_zreturn rfl rfl (by first | exact Or.inl rfl | exact Or.inr rfl | assumption) ?_
      refine ⟨congrArg some (congrArg Value.int ?_), rfl⟩
      first | exact (zb_t h136).symm | exact (zb_f (fun q => q h136)).symm
  intro k
  induction k with
  | zero =>
    intro n now t8 hn
    refine R_iload (q := 75) rfl rfl rfl ?_
    refine R_bipush (q := 77) (v := nI 16) rfl rfl (by decide) ?_
    refine R_icmp_ge (q := 80) (t := 123) rfl rfl rfl (fun h77 => ?_) (fun h77 => absurd (nI_le (by omega) (by omega)) h77)
    exact hend now _ _
  | succ k ih =>
    intro n now t8 hn
    refine R_iload (q := 75) rfl rfl rfl ?_
    refine R_bipush (q := 77) (v := nI 16) rfl rfl (by decide) ?_
    refine R_icmp_ge (q := 80) (t := 123) rfl rfl rfl (fun h77 => absurd h77 (nI_ge (by omega) (by omega))) (fun h77 => ?_)
    refine R_iload (q := 82) rfl rfl rfl ?_
    refine R_iload (q := 84) rfl rfl rfl ?_
    refine R_iconst (q := 85) (v := nI 1) rfl rfl (by decide) ?_
    refine R_ishl (q := 86) rfl rfl ?_
    refine R_ior (q := 87) rfl rfl ?_
    refine R_iload (q := 89) rfl rfl rfl ?_
    refine R_iconst (q := 90) (v := nI 1) rfl rfl (by decide) ?_
    refine R_ishr (q := 91) rfl rfl ?_
    refine R_ior (q := 92) rfl rfl ?_
    refine R_aload_n (q := 93) rfl rfl rfl ?_
    refine R_getf (q := 96) rfl rfl rfl (by first | assumption | exact mm_pe | (rw [mm_pn (by omega)]; first | assumption | exact mm_pe | (rw [mm_pn (by omega)]; first | assumption | exact mm_pe | (rw [mm_pn (by omega)]; first | assumption | exact mm_pe | (rw [mm_pn (by omega)]; first | assumption | exact mm_pe | (rw [mm_pn (by omega)]; first | assumption | exact mm_pe)))))) rfl ?_
    refine R_iload_n (q := 97) rfl rfl rfl ?_
    refine R_callv1 (q := 100) rfl rfl rfl rfl hl1 (Nat.le_of_ble_eq_true rfl) rfl ?_
    refine R_mono (c2 hl) (fun v97 M97 hr97 => ?_)
    obtain ⟨rfl, hm97⟩ := hr97
    rw [hm97]
    dsimp only [Option.toList, List.cons_append, List.nil_append]
    rw [rowv_nI hy]
    refine R_iand (q := 101) rfl rfl ?_
    refine R_istore (q := 103) rfl rfl (Nat.le_of_ble_eq_true rfl) rfl ?_
    dsimp only [List.set]
    refine R_iload (q := 105) rfl rfl rfl ?_
    refine R_iload (q := 107) rfl rfl rfl ?_
    refine R_icmp_ne (q := 110) (t := 113) rfl rfl rfl (fun h107 => ?_) (fun h107 => ?_)
    · refine R_iload (q := 115) rfl rfl rfl ?_
      refine R_istore (q := 117) rfl rfl (Nat.le_of_ble_eq_true rfl) rfl ?_
      dsimp only [List.set]
      refine R_iinc (q := 120) rfl rfl rfl (nI_i1 n) rfl ?_
      dsimp only [List.set]
      refine R_goto (t := 73) rfl rfl ?_
      have ew : wid (l y) (k + 1) now = wid (l y) k (((now ||| now <<< (nI 1 &&& 31)) ||| now >>> (nI 1 &&& 31)) &&& l y) := if_neg h107
      rw [ew]
      exact ih (n + 1) _ _ (by omega)
    · refine R_goto (t := 123) rfl rfl ?_
      have ew : wid (l y) (k + 1) now = now := if_pos h107
      rw [ew]
      exact hend now _ _
set_option maxRecDepth 8000 in
theorem c88 {y : Nat} (h : SVF M) (hy : y < 16) : mm_R S (d + 1) 88 0 (mm_en 88 [.ref 30, .int (nI y), .int (zb b)]) [] (sv M l r) (fun v M' => v = some (.int (zb (decide (¬ nv l r y b = r y)))) ∧ M' = sv M l (upd r y (nv l r y b &&& 65535))) := by
  have h30 := sv_30 (l := l) (r := r) h
  have hl := sv_l (l := l) (r := r) h
  have hr := sv_r (l := l) (r := r) h
  have hl1 := hl.1
  have hr1 := hr.1
  show mm_R S (d + 1) 88 0 [some (.ref 30), some (.int (nI y)), some (.int (zb b)), none, none, none, none, none, none] [] (sv M l r) _
  refine R_aload_n (q := 1) rfl rfl rfl ?_
  refine R_getf (q := 4) rfl rfl rfl (by first | assumption | exact mm_pe | (rw [mm_pn (by omega)]; first | assumption | exact mm_pe | (rw [mm_pn (by omega)]; first | assumption | exact mm_pe | (rw [mm_pn (by omega)]; first | assumption | exact mm_pe | (rw [mm_pn (by omega)]; first | assumption | exact mm_pe | (rw [mm_pn (by omega)]; first | assumption | exact mm_pe)))))) rfl ?_
  refine R_iload_n (q := 5) rfl rfl rfl ?_
  refine R_callv1 (q := 8) rfl rfl rfl rfl hr1 (Nat.le_of_ble_eq_true rfl) rfl ?_
  refine R_mono (c2 hr) (fun v5 M5 hr5 => ?_)
  obtain ⟨rfl, hm5⟩ := hr5
  rw [hm5]
  dsimp only [Option.toList, List.cons_append, List.nil_append]
  rw [rowv_nI hy]
  refine R_istore_n (q := 9) rfl rfl (Nat.le_of_ble_eq_true rfl) rfl ?_
  dsimp only [List.set]
  refine R_aload_n (q := 10) rfl rfl rfl ?_
  refine R_getf (q := 13) rfl rfl rfl (by first | assumption | exact mm_pe | (rw [mm_pn (by omega)]; first | assumption | exact mm_pe | (rw [mm_pn (by omega)]; first | assumption | exact mm_pe | (rw [mm_pn (by omega)]; first | assumption | exact mm_pe | (rw [mm_pn (by omega)]; first | assumption | exact mm_pe | (rw [mm_pn (by omega)]; first | assumption | exact mm_pe)))))) rfl ?_
  refine R_iload_n (q := 14) rfl rfl rfl ?_
  refine R_iconst (q := 15) (v := nI 1) rfl rfl (by decide) ?_
  refine R_isub (q := 16) rfl rfl ?_
  refine R_callv1 (q := 19) rfl rfl rfl rfl hr1 (Nat.le_of_ble_eq_true rfl) rfl ?_
  refine R_mono (c2 hr) (fun v16 M16 hr16 => ?_)
  obtain ⟨rfl, hm16⟩ := hr16
  rw [hm16]
  dsimp only [Option.toList, List.cons_append, List.nil_append]
  refine R_aload_n (q := 20) rfl rfl rfl ?_
  refine R_getf (q := 23) rfl rfl rfl (by first | assumption | exact mm_pe | (rw [mm_pn (by omega)]; first | assumption | exact mm_pe | (rw [mm_pn (by omega)]; first | assumption | exact mm_pe | (rw [mm_pn (by omega)]; first | assumption | exact mm_pe | (rw [mm_pn (by omega)]; first | assumption | exact mm_pe | (rw [mm_pn (by omega)]; first | assumption | exact mm_pe)))))) rfl ?_
  refine R_iload_n (q := 24) rfl rfl rfl ?_
  refine R_iconst (q := 25) (v := nI 1) rfl rfl (by decide) ?_
  refine R_iadd (q := 26) rfl rfl ?_
  rw [nI_add]
  refine R_callv1 (q := 29) rfl rfl rfl rfl hr1 (Nat.le_of_ble_eq_true rfl) rfl ?_
  refine R_mono (c2 hr) (fun v26 M26 hr26 => ?_)
  obtain ⟨rfl, hm26⟩ := hr26
  rw [hm26]
  dsimp only [Option.toList, List.cons_append, List.nil_append]
  refine R_ior (q := 30) rfl rfl ?_
  refine R_istore (q := 32) rfl rfl (Nat.le_of_ble_eq_true rfl) rfl ?_
  dsimp only [List.set]
  refine R_iload_n (q := 33) rfl rfl rfl ?_
  refine R_if_eq (q := 36) (t := 51) rfl rfl rfl (fun h33 => ?_) (fun h33 => ?_)
  · refine R_iload (q := 53) rfl rfl rfl ?_
    refine R_istore (q := 55) rfl rfl (Nat.le_of_ble_eq_true rfl) rfl ?_
    dsimp only [List.set]
    refine R_iload_n (q := 56) rfl rfl rfl ?_
    refine R_iload (q := 58) rfl rfl rfl ?_
    refine R_ior (q := 59) rfl rfl ?_
    refine R_aload_n (q := 60) rfl rfl rfl ?_
    refine R_getf (q := 63) rfl rfl rfl (by first | assumption | exact mm_pe | (rw [mm_pn (by omega)]; first | assumption | exact mm_pe | (rw [mm_pn (by omega)]; first | assumption | exact mm_pe | (rw [mm_pn (by omega)]; first | assumption | exact mm_pe | (rw [mm_pn (by omega)]; first | assumption | exact mm_pe | (rw [mm_pn (by omega)]; first | assumption | exact mm_pe)))))) rfl ?_
    refine R_iload_n (q := 64) rfl rfl rfl ?_
    refine R_callv1 (q := 67) rfl rfl rfl rfl hl1 (Nat.le_of_ble_eq_true rfl) rfl ?_
    refine R_mono (c2 hl) (fun v64 M64 hr64 => ?_)
    obtain ⟨rfl, hm64⟩ := hr64
    rw [hm64]
    dsimp only [Option.toList, List.cons_append, List.nil_append]
    rw [rowv_nI hy]
    refine R_iand (q := 68) rfl rfl ?_
    refine R_istore (q := 70) rfl rfl (Nat.le_of_ble_eq_true rfl) rfl ?_
    dsimp only [List.set]
    refine R_iconst (q := 71) (v := nI 0) rfl rfl (by decide) ?_
    refine R_istore (q := 73) rfl rfl (Nat.le_of_ble_eq_true rfl) rfl ?_
    dsimp only [List.set]
    first
      | (have eb := zb_eq0.mp h33
         subst eb
         exact c88_loop h hy 16 0 _ _ rfl)
      | (have eb := zb_ne0.mp h33
         subst eb
         exact c88_loop h hy 16 0 _ _ rfl)
  · refine R_iload (q := 38) rfl rfl rfl ?_
    refine R_iload (q := 40) rfl rfl rfl ?_
    refine R_iconst (q := 41) (v := nI 1) rfl rfl (by decide) ?_
    refine R_ishl (q := 42) rfl rfl ?_
    refine R_ior (q := 43) rfl rfl ?_
    refine R_iload (q := 45) rfl rfl rfl ?_
    refine R_iconst (q := 46) (v := nI 1) rfl rfl (by decide) ?_
    refine R_ishr (q := 47) rfl rfl ?_
    refine R_ior (q := 48) rfl rfl ?_
    refine R_goto (t := 53) rfl rfl ?_
    refine R_istore (q := 55) rfl rfl (Nat.le_of_ble_eq_true rfl) rfl ?_
    dsimp only [List.set]
    refine R_iload_n (q := 56) rfl rfl rfl ?_
    refine R_iload (q := 58) rfl rfl rfl ?_
    refine R_ior (q := 59) rfl rfl ?_
    refine R_aload_n (q := 60) rfl rfl rfl ?_
    refine R_getf (q := 63) rfl rfl rfl (by first | assumption | exact mm_pe | (rw [mm_pn (by omega)]; first | assumption | exact mm_pe | (rw [mm_pn (by omega)]; first | assumption | exact mm_pe | (rw [mm_pn (by omega)]; first | assumption | exact mm_pe | (rw [mm_pn (by omega)]; first | assumption | exact mm_pe | (rw [mm_pn (by omega)]; first | assumption | exact mm_pe)))))) rfl ?_
    refine R_iload_n (q := 64) rfl rfl rfl ?_
    refine R_callv1 (q := 67) rfl rfl rfl rfl hl1 (Nat.le_of_ble_eq_true rfl) rfl ?_
    refine R_mono (c2 hl) (fun v64 M64 hr64 => ?_)
    obtain ⟨rfl, hm64⟩ := hr64
    rw [hm64]
    dsimp only [Option.toList, List.cons_append, List.nil_append]
    rw [rowv_nI hy]
    refine R_iand (q := 68) rfl rfl ?_
    refine R_istore (q := 70) rfl rfl (Nat.le_of_ble_eq_true rfl) rfl ?_
    dsimp only [List.set]
    refine R_iconst (q := 71) (v := nI 0) rfl rfl (by decide) ?_
    refine R_istore (q := 73) rfl rfl (Nat.le_of_ble_eq_true rfl) rfl ?_
    dsimp only [List.set]
    first
      | (have eb := zb_eq0.mp h33
         subst eb
         exact c88_loop h hy 16 0 _ _ rfl)
      | (have eb := zb_ne0.mp h33
         subst eb
         exact c88_loop h hy 16 0 _ _ rfl)
def sp1 (l : Nat → Int32) (b : Bool) (s : (Nat → Int32) × Int32) (y : Nat) : (Nat → Int32) × Int32 := (upd s.1 y (nv l s.1 y b &&& 65535), s.2 ||| zb (decide (¬ nv l s.1 y b = s.1 y)))
def upP (l : Nat → Int32) (b : Bool) : Nat → Nat → (Nat → Int32) × Int32 → (Nat → Int32) × Int32
  | 0, _, s => s
  | k + 1, y, s => upP l b k (y + 1) (sp1 l b s y)
def dnP (l : Nat → Int32) (b : Bool) : Nat → (Nat → Int32) × Int32 → (Nat → Int32) × Int32
  | 0, s => s
  | j + 1, s => dnP l b j (sp1 l b s j)
def pass (l : Nat → Int32) (b : Bool) (r : Nat → Int32) : (Nat → Int32) × Int32 := dnP l b 16 (upP l b 16 0 (r, nI 0))
def fld (l : Nat → Int32) (b : Bool) : Nat → (Nat → Int32) → Int32 → Nat → Int32
  | 0, r, _ => r
  | k + 1, r, m => if m = 0 then r else fld l b k (pass l b r).1 (pass l b r).2
theorem yv_dec (j : Nat) : (if j + 1 = 0 then (-1 : Int32) else nI (j + 1 - 1)) = nI j := by rw [if_neg (by omega), Nat.add_sub_cancel]
theorem yv_m1 (j : Nat) : nI j + Int32.ofInt (-1) = (if j = 0 then (-1 : Int32) else nI (j - 1)) := by
  by_cases h : j = 0
  · subst h; decide
  · obtain ⟨k, rfl⟩ : ∃ k, j = k + 1 := ⟨j - 1, by omega⟩
    rw [if_neg h, Nat.add_sub_cancel]
    exact pk_m1 k
set_option maxRecDepth 8000 in
theorem c87_loop (h : SVF M) : ∀ (k n : Nat) (r : Nat → Int32) (m : Int32) (t4 : Option Value), n + k = 256 → mm_R S (d + 2) 87 4 [some (.ref 30), some (.int (zb b)), some (.int m), some (.int (nI n)), t4] [] (sv M l r) (fun v M' => v = none ∧ M' = sv M l (fld l b k r m)) := by
  intro k
  induction k with
  | zero =>
    intro n r m t4 hn
    refine R_iload_n (q := 5) rfl rfl rfl ?_
    refine R_sipush (q := 8) (v := nI 256) rfl rfl (by decide) ?_
    refine R_icmp_ge (q := 11) (t := 74) rfl rfl rfl (fun h8 => ?_) (fun h8 => absurd (nI_le (by omega) (by omega)) h8)
    refine R_return rfl rfl ?_
    exact ⟨rfl, rfl⟩
  | succ k ih =>
    intro n r m t4 hn
    have hdn : ∀ (j : Nat) (s : (Nat → Int32) × Int32), j ≤ 16 → mm_R S (d + 2) 87 47 [some (.ref 30), some (.int (zb b)), some (.int s.2), some (.int (nI n)), some (.int (if j = 0 then (-1) else nI (j - 1)))] [] (sv M l s.1) (fun v M' => v = none ∧ M' = sv M l (fld l b k (dnP l b j s).1 (dnP l b j s).2)) := by
      intro j
      induction j with
      | zero =>
        intro s hj
        rw [if_pos rfl]
        refine R_iload (q := 49) rfl rfl rfl ?_
        refine R_if_lt (q := 52) (t := 68) rfl rfl rfl (fun h49 => ?_) (fun h49 => absurd (by decide) h49)
        refine R_iinc (q := 71) rfl rfl rfl (nI_i1 n) rfl ?_
        dsimp only [List.set]
        refine R_goto (t := 4) rfl rfl ?_
        exact ih (n + 1) s.1 s.2 _ (by omega)
      | succ j ihj =>
        intro s hj
        rw [yv_dec]
        have h30 := sv_30 (l := l) (r := s.1) h
        refine R_iload (q := 49) rfl rfl rfl ?_
        refine R_if_lt (q := 52) (t := 68) rfl rfl rfl (fun h49 => absurd h49 (nI_pos (by omega))) (fun h49 => ?_)
        refine R_iload_n (q := 53) rfl rfl rfl ?_
        refine R_aload_n (q := 54) rfl rfl rfl ?_
        refine R_iload (q := 56) rfl rfl rfl ?_
        refine R_iload_n (q := 57) rfl rfl rfl ?_
        refine R_callv2 (q := 60) rfl rfl rfl rfl (by first | assumption | exact mm_pe | (rw [mm_pn (by omega)]; first | assumption | exact mm_pe | (rw [mm_pn (by omega)]; first | assumption | exact mm_pe | (rw [mm_pn (by omega)]; first | assumption | exact mm_pe | (rw [mm_pn (by omega)]; first | assumption | exact mm_pe | (rw [mm_pn (by omega)]; first | assumption | exact mm_pe)))))) (Nat.le_of_ble_eq_true rfl) rfl ?_
        refine R_mono (c88 h (show j < 16 by omega)) (fun v57 M57 hr57 => ?_)
        obtain ⟨rfl, hm57⟩ := hr57
        rw [hm57]
        dsimp only [Option.toList, List.cons_append, List.nil_append]
        refine R_ior (q := 61) rfl rfl ?_
        refine R_istore_n (q := 62) rfl rfl (Nat.le_of_ble_eq_true rfl) rfl ?_
        dsimp only [List.set]
        refine R_iinc (q := 65) rfl rfl rfl (yv_m1 j) rfl ?_
        dsimp only [List.set]
        refine R_goto (t := 47) rfl rfl ?_
        exact ihj (sp1 l b s j) (by omega)
    have hup : ∀ (j y : Nat) (s : (Nat → Int32) × Int32), y + j = 16 → mm_R S (d + 2) 87 20 [some (.ref 30), some (.int (zb b)), some (.int s.2), some (.int (nI n)), some (.int (nI y))] [] (sv M l s.1) (fun v M' => v = none ∧ M' = sv M l (fld l b k (dnP l b 16 (upP l b j y s)).1 (dnP l b 16 (upP l b j y s)).2)) := by
      intro j
      induction j with
      | zero =>
        intro y s hy
        refine R_iload (q := 22) rfl rfl rfl ?_
        refine R_bipush (q := 24) (v := nI 16) rfl rfl (by decide) ?_
        refine R_icmp_ge (q := 27) (t := 43) rfl rfl rfl (fun h24 => ?_) (fun h24 => absurd (nI_le (by omega) (by omega)) h24)
        refine R_bipush (q := 45) (v := nI 15) rfl rfl (by decide) ?_
        refine R_istore (q := 47) rfl rfl (Nat.le_of_ble_eq_true rfl) rfl ?_
        dsimp only [List.set]
        exact hdn 16 s (by omega)
      | succ j ihj =>
        intro y s hy
        have h30 := sv_30 (l := l) (r := s.1) h
        refine R_iload (q := 22) rfl rfl rfl ?_
        refine R_bipush (q := 24) (v := nI 16) rfl rfl (by decide) ?_
        refine R_icmp_ge (q := 27) (t := 43) rfl rfl rfl (fun h24 => absurd h24 (nI_ge (by omega) (by omega))) (fun h24 => ?_)
        refine R_iload_n (q := 28) rfl rfl rfl ?_
        refine R_aload_n (q := 29) rfl rfl rfl ?_
        refine R_iload (q := 31) rfl rfl rfl ?_
        refine R_iload_n (q := 32) rfl rfl rfl ?_
        refine R_callv2 (q := 35) rfl rfl rfl rfl (by first | assumption | exact mm_pe | (rw [mm_pn (by omega)]; first | assumption | exact mm_pe | (rw [mm_pn (by omega)]; first | assumption | exact mm_pe | (rw [mm_pn (by omega)]; first | assumption | exact mm_pe | (rw [mm_pn (by omega)]; first | assumption | exact mm_pe | (rw [mm_pn (by omega)]; first | assumption | exact mm_pe)))))) (Nat.le_of_ble_eq_true rfl) rfl ?_
        refine R_mono (c88 h (show y < 16 by omega)) (fun v32 M32 hr32 => ?_)
        obtain ⟨rfl, hm32⟩ := hr32
        rw [hm32]
        dsimp only [Option.toList, List.cons_append, List.nil_append]
        refine R_ior (q := 36) rfl rfl ?_
        refine R_istore_n (q := 37) rfl rfl (Nat.le_of_ble_eq_true rfl) rfl ?_
        dsimp only [List.set]
        refine R_iinc (q := 40) rfl rfl rfl (nI_i1 y) rfl ?_
        dsimp only [List.set]
        refine R_goto (t := 20) rfl rfl ?_
        exact ihj (y + 1) (sp1 l b s y) (by omega)
    refine R_iload_n (q := 5) rfl rfl rfl ?_
    refine R_sipush (q := 8) (v := nI 256) rfl rfl (by decide) ?_
    refine R_icmp_ge (q := 11) (t := 74) rfl rfl rfl (fun h8 => absurd h8 (nI_ge (by omega) (by omega))) (fun h8 => ?_)
    refine R_iload_n (q := 12) rfl rfl rfl ?_
    refine R_if_eq (q := 15) (t := 74) rfl rfl rfl (fun h12 => ?_) (fun h12 => ?_)
    · refine R_return rfl rfl ?_
      exact ⟨rfl, by rw [show fld l b (k + 1) r m = r from if_pos h12]⟩
    · refine R_iconst (q := 16) (v := nI 0) rfl rfl (by decide) ?_
      refine R_istore_n (q := 17) rfl rfl (Nat.le_of_ble_eq_true rfl) rfl ?_
      dsimp only [List.set]
      refine R_iconst (q := 18) (v := nI 0) rfl rfl (by decide) ?_
      refine R_istore (q := 20) rfl rfl (Nat.le_of_ble_eq_true rfl) rfl ?_
      dsimp only [List.set]
      have ef : fld l b (k + 1) r m = fld l b k (pass l b r).1 (pass l b r).2 := if_neg h12
      rw [ef]
      exact hup 16 0 (r, nI 0) rfl
set_option maxRecDepth 8000 in
theorem c87 (h : SVF M) : mm_R S (d + 2) 87 0 (mm_en 87 [.ref 30, .int (zb b)]) [] (sv M l r) (fun v M' => v = none ∧ M' = sv M l (fld l b 256 r (nI 1))) := by
  show mm_R S (d + 2) 87 0 [some (.ref 30), some (.int (zb b)), none, none, none] [] (sv M l r) _
  refine R_iconst (q := 1) (v := nI 1) rfl rfl (by decide) ?_
  refine R_istore_n (q := 2) rfl rfl (Nat.le_of_ble_eq_true rfl) rfl ?_
  dsimp only [List.set]
  refine R_iconst (q := 3) (v := nI 0) rfl rfl (by decide) ?_
  refine R_istore_n (q := 4) rfl rfl (Nat.le_of_ble_eq_true rfl) rfl ?_
  dsimp only [List.set]
  exact c87_loop h 256 0 r _ _ rfl
/-- one group taken away -/
def gseed (l r : Nat → Int32) (y : Nat) : Nat → Int32 := upd (ifl (fun _ => nI 0) r 16) y ((l y &&& -(l y)) &&& 65535)
def gout (l r2 : Nat → Int32) : Nat → Int32 := ifl (fun i => l i &&& (r2 i ^^^ (-1))) l 16
def cgi (b : Bool) (y : Nat) : Nat → (Nat → Int32) × (Nat → Int32) × Nat → (Nat → Int32) × (Nat → Int32) × Nat
  | 0, s => s
  | k + 1, s => if s.1 y = 0 then s else cgi b y k (gout s.1 (fld s.1 b 256 (gseed s.1 s.2.1 y) (nI 1)), fld s.1 b 256 (gseed s.1 s.2.1 y) (nI 1), s.2.2 + 1)
def cgo (b : Bool) : Nat → Nat → (Nat → Int32) × (Nat → Int32) × Nat → (Nat → Int32) × (Nat → Int32) × Nat
  | 0, _, s => s
  | k + 1, y, s => cgo b k (y + 1) (cgi b y 16 s)
set_option maxRecDepth 8000 in
theorem c86_loop (h : SVF M) : ∀ (k y : Nat) (s : (Nat → Int32) × (Nat → Int32) × Nat) (t4 : Option Value), y + k = 16 → mm_R S (d + 3) 86 4 [some (.ref 30), some (.int (zb b)), some (.int (nI s.2.2)), some (.int (nI y)), t4] [] (sv M s.1 s.2.1) (fun v M' => v = some (.int (nI (cgo b k y s).2.2)) ∧ M' = sv M (cgo b k y s).1 (cgo b k y s).2.1) := by
  intro k
  induction k with
  | zero =>
    intro y s t4 hy
    refine R_iload_n (q := 5) rfl rfl rfl ?_
    refine R_bipush (q := 7) (v := nI 16) rfl rfl (by decide) ?_
    refine R_icmp_ge (q := 10) (t := 95) rfl rfl rfl (fun h7 => ?_) (fun h7 => absurd (nI_le (by omega) (by omega)) h7)
    refine R_iload_n (q := 96) rfl rfl rfl ?_
    refine R_ireturn rfl rfl ?_
    exact ⟨rfl, rfl⟩
  | succ k ih =>
    intro y s t4 hy
    have hin : ∀ (j n : Nat) (s : (Nat → Int32) × (Nat → Int32) × Nat), n + j = 16 → mm_R S (d + 3) 86 13 [some (.ref 30), some (.int (zb b)), some (.int (nI s.2.2)), some (.int (nI y)), some (.int (nI n))] [] (sv M s.1 s.2.1) (fun v M' => v = some (.int (nI (cgo b k (y + 1) (cgi b y j s)).2.2)) ∧ M' = sv M (cgo b k (y + 1) (cgi b y j s)).1 (cgo b k (y + 1) (cgi b y j s)).2.1) := by
      intro j
      induction j with
      | zero =>
        intro n s hn
        refine R_iload (q := 15) rfl rfl rfl ?_
        refine R_bipush (q := 17) (v := nI 16) rfl rfl (by decide) ?_
        refine R_icmp_ge (q := 20) (t := 89) rfl rfl rfl (fun h17 => ?_) (fun h17 => absurd (nI_le (by omega) (by omega)) h17)
        refine R_iinc (q := 92) rfl rfl rfl (nI_i1 y) rfl ?_
        dsimp only [List.set]
        refine R_goto (t := 4) rfl rfl ?_
        exact ih (y + 1) s _ (by omega)
      | succ j ihj =>
        intro n s hn
        have h30 := sv_30 (l := s.1) (r := s.2.1) h
        have hl := sv_l (l := s.1) (r := s.2.1) h
        have hr := sv_r (l := s.1) (r := s.2.1) h
        have hl1 := hl.1
        have hr1 := hr.1
        have g30 := sv_30 (l := s.1) (r := ifl (fun _ => nI 0) s.2.1 16) h
        have gl := sv_l (l := s.1) (r := ifl (fun _ => nI 0) s.2.1 16) h
        have gr := sv_r (l := s.1) (r := ifl (fun _ => nI 0) s.2.1 16) h
        have gl1 := gl.1
        have gr1 := gr.1
        have k30 := sv_30 (l := s.1) (r := gseed s.1 s.2.1 y) h
        have m30 := sv_30 (l := s.1) (r := fld s.1 b 256 (gseed s.1 s.2.1 y) (nI 1)) h
        have ml := sv_l (l := s.1) (r := fld s.1 b 256 (gseed s.1 s.2.1 y) (nI 1)) h
        have mr := sv_r (l := s.1) (r := fld s.1 b 256 (gseed s.1 s.2.1 y) (nI 1)) h
        have ml1 := ml.1
        refine R_iload (q := 15) rfl rfl rfl ?_
        refine R_bipush (q := 17) (v := nI 16) rfl rfl (by decide) ?_
        refine R_icmp_ge (q := 20) (t := 89) rfl rfl rfl (fun h17 => absurd h17 (nI_ge (by omega) (by omega))) (fun h17 => ?_)
        refine R_aload_n (q := 21) rfl rfl rfl ?_
        refine R_getf (q := 24) rfl rfl rfl (by first | assumption | exact mm_pe | (rw [mm_pn (by omega)]; first | assumption | exact mm_pe | (rw [mm_pn (by omega)]; first | assumption | exact mm_pe | (rw [mm_pn (by omega)]; first | assumption | exact mm_pe | (rw [mm_pn (by omega)]; first | assumption | exact mm_pe | (rw [mm_pn (by omega)]; first | assumption | exact mm_pe)))))) rfl ?_
        refine R_iload_n (q := 25) rfl rfl rfl ?_
        refine R_callv1 (q := 28) rfl rfl rfl rfl hl1 (Nat.le_of_ble_eq_true rfl) rfl ?_
        refine R_mono (c2 hl) (fun v25 M25 hr25 => ?_)
        obtain ⟨rfl, hm25⟩ := hr25
        rw [hm25]
        dsimp only [Option.toList, List.cons_append, List.nil_append]
        rw [rowv_nI (show y < 16 by omega)]
        refine R_if_eq (q := 31) (t := 89) rfl rfl rfl (fun h28 => ?_) (fun h28 => ?_)
        · refine R_iinc (q := 92) rfl rfl rfl (nI_i1 y) rfl ?_
          dsimp only [List.set]
          refine R_goto (t := 4) rfl rfl ?_
          have ec : cgi b y (j + 1) s = s := if_pos h28
          rw [ec]
          exact ih (y + 1) s _ (by omega)
        · refine R_aload_n (q := 32) rfl rfl rfl ?_
          refine R_getf (q := 35) rfl rfl rfl (by first | assumption | exact mm_pe | (rw [mm_pn (by omega)]; first | assumption | exact mm_pe | (rw [mm_pn (by omega)]; first | assumption | exact mm_pe | (rw [mm_pn (by omega)]; first | assumption | exact mm_pe | (rw [mm_pn (by omega)]; first | assumption | exact mm_pe | (rw [mm_pn (by omega)]; first | assumption | exact mm_pe)))))) rfl ?_
          refine R_callv0 (q := 38) rfl rfl rfl rfl hr1 (Nat.le_of_ble_eq_true rfl) rfl ?_
          refine R_mono (c7 hr) (fun v35 M35 hr35 => ?_)
          obtain ⟨rfl, hm35⟩ := hr35
          rw [sv_pr] at hm35
          rw [hm35]
          dsimp only [Option.toList, List.cons_append, List.nil_append]
          refine R_aload_n (q := 39) rfl rfl rfl ?_
          refine R_getf (q := 42) rfl rfl rfl (by first | assumption | exact mm_pe | (rw [mm_pn (by omega)]; first | assumption | exact mm_pe | (rw [mm_pn (by omega)]; first | assumption | exact mm_pe | (rw [mm_pn (by omega)]; first | assumption | exact mm_pe | (rw [mm_pn (by omega)]; first | assumption | exact mm_pe | (rw [mm_pn (by omega)]; first | assumption | exact mm_pe)))))) rfl ?_
          refine R_iload_n (q := 43) rfl rfl rfl ?_
          refine R_aload_n (q := 44) rfl rfl rfl ?_
          refine R_getf (q := 47) rfl rfl rfl (by first | assumption | exact mm_pe | (rw [mm_pn (by omega)]; first | assumption | exact mm_pe | (rw [mm_pn (by omega)]; first | assumption | exact mm_pe | (rw [mm_pn (by omega)]; first | assumption | exact mm_pe | (rw [mm_pn (by omega)]; first | assumption | exact mm_pe | (rw [mm_pn (by omega)]; first | assumption | exact mm_pe)))))) rfl ?_
          refine R_iload_n (q := 48) rfl rfl rfl ?_
          refine R_callv1 (q := 51) rfl rfl rfl rfl gl1 (Nat.le_of_ble_eq_true rfl) rfl ?_
          refine R_mono (c2 gl) (fun v48 M48 hr48 => ?_)
          obtain ⟨rfl, hm48⟩ := hr48
          rw [hm48]
          dsimp only [Option.toList, List.cons_append, List.nil_append]
          rw [rowv_nI (show y < 16 by omega)]
          refine R_aload_n (q := 52) rfl rfl rfl ?_
          refine R_getf (q := 55) rfl rfl rfl (by first | assumption | exact mm_pe | (rw [mm_pn (by omega)]; first | assumption | exact mm_pe | (rw [mm_pn (by omega)]; first | assumption | exact mm_pe | (rw [mm_pn (by omega)]; first | assumption | exact mm_pe | (rw [mm_pn (by omega)]; first | assumption | exact mm_pe | (rw [mm_pn (by omega)]; first | assumption | exact mm_pe)))))) rfl ?_
          refine R_iload_n (q := 56) rfl rfl rfl ?_
          refine R_callv1 (q := 59) rfl rfl rfl rfl gl1 (Nat.le_of_ble_eq_true rfl) rfl ?_
          refine R_mono (c2 gl) (fun v56 M56 hr56 => ?_)
          obtain ⟨rfl, hm56⟩ := hr56
          rw [hm56]
          dsimp only [Option.toList, List.cons_append, List.nil_append]
          rw [rowv_nI (show y < 16 by omega)]
          refine R_ineg (q := 60) rfl rfl ?_
          refine R_iand (q := 61) rfl rfl ?_
          refine R_callv2 (q := 64) rfl rfl rfl rfl gr1 (Nat.le_of_ble_eq_true rfl) rfl ?_
          refine R_mono (c6 gr) (fun v61 M61 hr61 => ?_)
          obtain ⟨rfl, hm61⟩ := hr61
          rw [if_pos (by rw [i_n y (by omega)]; omega), sv_pr, cl_nI (by omega)] at hm61
          replace hm61 : M61 = sv M s.1 (gseed s.1 s.2.1 y) := hm61
          rw [hm61]
          dsimp only [Option.toList, List.cons_append, List.nil_append]
          refine R_aload_n (q := 65) rfl rfl rfl ?_
          refine R_iload_n (q := 66) rfl rfl rfl ?_
          refine R_callv1 (q := 69) rfl rfl rfl rfl k30 (Nat.le_of_ble_eq_true rfl) rfl ?_
          refine R_mono (c87 h) (fun v66 M66 hr66 => ?_)
          obtain ⟨rfl, hm66⟩ := hr66
          rw [hm66]
          dsimp only [Option.toList, List.cons_append, List.nil_append]
          refine R_aload_n (q := 70) rfl rfl rfl ?_
          refine R_getf (q := 73) rfl rfl rfl (by first | assumption | exact mm_pe | (rw [mm_pn (by omega)]; first | assumption | exact mm_pe | (rw [mm_pn (by omega)]; first | assumption | exact mm_pe | (rw [mm_pn (by omega)]; first | assumption | exact mm_pe | (rw [mm_pn (by omega)]; first | assumption | exact mm_pe | (rw [mm_pn (by omega)]; first | assumption | exact mm_pe)))))) rfl ?_
          refine R_aload_n (q := 74) rfl rfl rfl ?_
          refine R_getf (q := 77) rfl rfl rfl (by first | assumption | exact mm_pe | (rw [mm_pn (by omega)]; first | assumption | exact mm_pe | (rw [mm_pn (by omega)]; first | assumption | exact mm_pe | (rw [mm_pn (by omega)]; first | assumption | exact mm_pe | (rw [mm_pn (by omega)]; first | assumption | exact mm_pe | (rw [mm_pn (by omega)]; first | assumption | exact mm_pe)))))) rfl ?_
          refine R_callv1 (q := 80) rfl rfl rfl rfl ml1 (Nat.le_of_ble_eq_true rfl) rfl ?_
          refine R_mono (c11 ml mr) (fun v77 M77 hr77 => ?_)
          obtain ⟨rfl, hm77⟩ := hr77
          rw [sv_pl] at hm77
          rw [hm77]
          dsimp only [Option.toList, List.cons_append, List.nil_append]
          refine R_iinc (q := 83) rfl rfl rfl (nI_i1 s.2.2) rfl ?_
          dsimp only [List.set]
          refine R_iinc (q := 86) rfl rfl rfl (nI_i1 n) rfl ?_
          dsimp only [List.set]
          refine R_goto (t := 13) rfl rfl ?_
          have ec : cgi b y (j + 1) s = cgi b y j (gout s.1 (fld s.1 b 256 (gseed s.1 s.2.1 y) (nI 1)), fld s.1 b 256 (gseed s.1 s.2.1 y) (nI 1), s.2.2 + 1) := if_neg h28
          rw [ec]
          exact ihj (n + 1) (gout s.1 (fld s.1 b 256 (gseed s.1 s.2.1 y) (nI 1)), fld s.1 b 256 (gseed s.1 s.2.1 y) (nI 1), s.2.2 + 1) (by omega)
    refine R_iload_n (q := 5) rfl rfl rfl ?_
    refine R_bipush (q := 7) (v := nI 16) rfl rfl (by decide) ?_
    refine R_icmp_ge (q := 10) (t := 95) rfl rfl rfl (fun h7 => absurd h7 (nI_ge (by omega) (by omega))) (fun h7 => ?_)
    refine R_iconst (q := 11) (v := nI 0) rfl rfl (by decide) ?_
    refine R_istore (q := 13) rfl rfl (Nat.le_of_ble_eq_true rfl) rfl ?_
    dsimp only [List.set]
    exact hin 16 0 s rfl
def cgN (b : Bool) (l r : Nat → Int32) : Nat := (cgo b 16 0 (l, r, 0)).2.2
def cgL (b : Bool) (l r : Nat → Int32) : Nat → Int32 := (cgo b 16 0 (l, r, 0)).1
def cgR (b : Bool) (l r : Nat → Int32) : Nat → Int32 := (cgo b 16 0 (l, r, 0)).2.1
set_option maxRecDepth 8000 in
theorem c86 (h : SVF M) : mm_R S (d + 3) 86 0 (mm_en 86 [.ref 30, .int (zb b)]) [] (sv M l r) (fun v M' => v = some (.int (nI (cgN b l r))) ∧ M' = sv M (cgL b l r) (cgR b l r)) := by
  unfold cgN cgL cgR
  show mm_R S (d + 3) 86 0 [some (.ref 30), some (.int (zb b)), none, none, none] [] (sv M l r) _
  refine R_iconst (q := 1) (v := nI 0) rfl rfl (by decide) ?_
  refine R_istore_n (q := 2) rfl rfl (Nat.le_of_ble_eq_true rfl) rfl ?_
  dsimp only [List.set]
  refine R_iconst (q := 3) (v := nI 0) rfl rfl (by decide) ?_
  refine R_istore_n (q := 4) rfl rfl (Nat.le_of_ble_eq_true rfl) rfl ?_
  dsimp only [List.set]
  exact c86_loop h 16 0 (l, r, 0) _ rfl
end P24
end
section
theorem nI_0_of {s : Nat} (h : nI s = 0) (hs : s < 2147483648 := by omega) : s = 0 := (nI_eq (a := s) (b := 0) hs (by decide)).mp h
theorem nI_inj {a b : Nat} (ha : a < 2147483648) (hb : b < 2147483648) (h : nI a = nI b) : a = b := (nI_eq ha hb).mp h
theorem nI_lt_of {a b : Nat} (hb : a < 2147483648) (h : ¬ nI b ≤ nI a) : a < b := by
  rcases Nat.lt_or_ge a b with q | q
  · exact q
  · exact absurd (nI_le q hb) h
theorem nI_ge_of {a b : Nat} (ha : a < 2147483648) (hb : b < 2147483648) (h : nI b ≤ nI a) : ¬ a < b := fun q => nI_ge q hb h
section P25
variable {S : mm_S} {d : Nat} {M : mm_M} {l r f : Nat → Int32} {a : Nat}
set_option maxRecDepth 8000 in
theorem c84 (h : SVF M) (hl : CA M 31 l) (hr : CA M 33 r) (ha : CA M a f) (haa : a + 1 < 31 ∨ 34 < a) : mm_R S (d + 4) 84 0 (mm_en 84 [.ref 30, .ref a]) [] M (fun v M' => v = some (.int (nI (cgN false (ifl f l 16) r))) ∧ M' = sv M (cgL false (ifl f l 16) r) (cgR false (ifl f l 16) r)) := by
  refine R_atM (sv_self hl hr) ?_
  have h30 := sv_30 (l := l) (r := r) h
  have hl2 := sv_l (l := l) (r := r) h
  have hl1 := hl2.1
  have ha2 := sv_CA (l := l) (r := r) ha haa
  have g30 := sv_30 (l := ifl f l 16) (r := r) h
  show mm_R S (d + 4) 84 0 [some (.ref 30), some (.ref a)] [] (sv M l r) _
  refine R_aload_n (q := 1) rfl rfl rfl ?_
  refine R_getf (q := 4) rfl rfl rfl (by first | assumption | exact mm_pe | (rw [mm_pn (by omega)]; first | assumption | exact mm_pe | (rw [mm_pn (by omega)]; first | assumption | exact mm_pe | (rw [mm_pn (by omega)]; first | assumption | exact mm_pe | (rw [mm_pn (by omega)]; first | assumption | exact mm_pe | (rw [mm_pn (by omega)]; first | assumption | exact mm_pe)))))) rfl ?_
  refine R_aload_n (q := 5) rfl rfl rfl ?_
  refine R_callv1 (q := 8) rfl rfl rfl rfl hl1 (Nat.le_of_ble_eq_true rfl) rfl ?_
  refine R_mono (c8 hl2 ha2) (fun v5 M5 hr5 => ?_)
  obtain ⟨rfl, hm5⟩ := hr5
  rw [sv_pl] at hm5
  rw [hm5]
  dsimp only [Option.toList, List.cons_append, List.nil_append]
  refine R_aload_n (q := 9) rfl rfl rfl ?_
  refine R_iconst (q := 10) (v := nI 0) rfl rfl (by decide) ?_
  refine R_callv1 (q := 13) rfl rfl rfl rfl g30 (Nat.le_of_ble_eq_true rfl) rfl ?_
  refine R_mono (c86 (b := false) h) (fun v10 M10 hr10 => ?_)
  obtain ⟨rfl, hm10⟩ := hr10
  rw [hm10]
  dsimp only [Option.toList, List.cons_append, List.nil_append]
  refine R_ireturn rfl rfl ?_
  exact ⟨rfl, rfl⟩
def hL1 (l f : Nat → Int32) : Nat → Int32 := ifl (fun i => 65535 &&& (f i ^^^ (-1))) l 16
def hR3 (l r f : Nat → Int32) : Nat → Int32 := upd (upd (ifl (fun _ => nI 0) r 16) 0 (hL1 l f 0 &&& 65535)) 15 (hL1 l f 15 &&& 65535)
def hR4 (l r f : Nat → Int32) : Nat → Int32 := ifr (fun y => (hL1 l f y &&& 32769) &&& 65535) (hR3 l r f) 1 15
def hR5 (l r f : Nat → Int32) : Nat → Int32 := fld (hL1 l f) true 256 (hR4 l r f) (nI 1)
set_option maxRecDepth 8000 in
theorem c85 (h : SVF M) (hl : CA M 31 l) (hr : CA M 33 r) (ha : CA M a f) (haa : a + 1 < 31 ∨ 34 < a) : mm_R S (d + 4) 85 0 (mm_en 85 [.ref 30, .ref a]) [] M (fun v M' => v = some (.int (nI (cgN true (gout (hL1 l f) (hR5 l r f)) (hR5 l r f)))) ∧ M' = sv M (cgL true (gout (hL1 l f) (hR5 l r f)) (hR5 l r f)) (cgR true (gout (hL1 l f) (hR5 l r f)) (hR5 l r f))) := by
  refine R_atM (sv_self hl hr) ?_
  have h30 := fun l r => sv_30 (l := l) (r := r) h
  have hL := fun l r => sv_l (l := l) (r := r) h
  have hR := fun l r => sv_r (l := l) (r := r) h
  have ha2 := sv_CA (l := l) (r := r) ha haa
  show mm_R S (d + 4) 85 0 [some (.ref 30), some (.ref a), none] [] (sv M l r) _
  refine R_aload_n (q := 1) rfl rfl rfl ?_
  refine R_getf (q := 4) rfl rfl rfl (h30 _ _) rfl ?_
  refine R_aload_n (q := 5) rfl rfl rfl ?_
  refine R_callv1 (q := 8) rfl rfl rfl rfl (hL _ _).1 (Nat.le_of_ble_eq_true rfl) rfl ?_
  refine R_mono (c9 (hL _ _) ha2) (fun v5 M5 hr5 => ?_)
  obtain ⟨rfl, hm5⟩ := hr5
  rw [sv_pl] at hm5
  rw [hm5]
  dsimp only [Option.toList, List.cons_append, List.nil_append]
  refine R_aload_n (q := 9) rfl rfl rfl ?_
  refine R_getf (q := 12) rfl rfl rfl (h30 _ _) rfl ?_
  refine R_callv0 (q := 15) rfl rfl rfl rfl (hR _ _).1 (Nat.le_of_ble_eq_true rfl) rfl ?_
  refine R_mono (c7 (hR _ _)) (fun v12 M12 hr12 => ?_)
  obtain ⟨rfl, hm12⟩ := hr12
  rw [sv_pr] at hm12
  rw [hm12]
  dsimp only [Option.toList, List.cons_append, List.nil_append]
  refine R_aload_n (q := 16) rfl rfl rfl ?_
  refine R_getf (q := 19) rfl rfl rfl (h30 _ _) rfl ?_
  refine R_iconst (q := 20) (v := nI 0) rfl rfl (by decide) ?_
  refine R_aload_n (q := 21) rfl rfl rfl ?_
  refine R_getf (q := 24) rfl rfl rfl (h30 _ _) rfl ?_
  refine R_iconst (q := 25) (v := nI 0) rfl rfl (by decide) ?_
  refine R_callv1 (q := 28) rfl rfl rfl rfl (hL _ _).1 (Nat.le_of_ble_eq_true rfl) rfl ?_
  refine R_mono (c2 (hL _ _)) (fun v25 M25 hr25 => ?_)
  obtain ⟨rfl, hm25⟩ := hr25
  rw [hm25]
  dsimp only [Option.toList, List.cons_append, List.nil_append]
  rw [rowv_nI (by decide)]
  refine R_callv2 (q := 31) rfl rfl rfl rfl (hR _ _).1 (Nat.le_of_ble_eq_true rfl) rfl ?_
  refine R_mono (c6 (hR _ _)) (fun v28 M28 hr28 => ?_)
  obtain ⟨rfl, hm28⟩ := hr28
  rw [if_pos (by decide), sv_pr, cl_nI (by decide)] at hm28
  rw [hm28]
  dsimp only [Option.toList, List.cons_append, List.nil_append]
  refine R_aload_n (q := 32) rfl rfl rfl ?_
  refine R_getf (q := 35) rfl rfl rfl (h30 _ _) rfl ?_
  refine R_bipush (q := 37) (v := nI 15) rfl rfl (by decide) ?_
  refine R_aload_n (q := 38) rfl rfl rfl ?_
  refine R_getf (q := 41) rfl rfl rfl (h30 _ _) rfl ?_
  refine R_bipush (q := 43) (v := nI 15) rfl rfl (by decide) ?_
  refine R_callv1 (q := 46) rfl rfl rfl rfl (hL _ _).1 (Nat.le_of_ble_eq_true rfl) rfl ?_
  refine R_mono (c2 (hL _ _)) (fun v43 M43 hr43 => ?_)
  obtain ⟨rfl, hm43⟩ := hr43
  rw [hm43]
  dsimp only [Option.toList, List.cons_append, List.nil_append]
  rw [rowv_nI (by decide)]
  refine R_callv2 (q := 49) rfl rfl rfl rfl (hR _ _).1 (Nat.le_of_ble_eq_true rfl) rfl ?_
  refine R_mono (c6 (hR _ _)) (fun v46 M46 hr46 => ?_)
  obtain ⟨rfl, hm46⟩ := hr46
  rw [if_pos (by decide), sv_pr, cl_nI (by decide)] at hm46
  rw [hm46]
  dsimp only [Option.toList, List.cons_append, List.nil_append]
  refine R_iconst (q := 50) (v := nI 1) rfl rfl (by decide) ?_
  refine R_istore_n (q := 51) rfl rfl (Nat.le_of_ble_eq_true rfl) rfl ?_
  dsimp only [List.set]
  show mm_R S (d + 4) 85 51 [some (.ref 30), some (.ref a), some (.int (nI 1))] [] (sv M (hL1 l f) (hR3 l r f)) _
  refine R_atM (M' := sv M (hL1 l f) (ifr (fun y => (hL1 l f y &&& 32769) &&& 65535) (hR3 l r f) 1 1)) (by rw [ifr_0]) ?_
  refine lpM (fun y => mm_R S (d + 4) 85 51 [some (.ref 30), some (.ref a), some (.int (nI y))] [] (sv M (hL1 l f) (ifr (fun y => (hL1 l f y &&& 32769) &&& 65535) (hR3 l r f) 1 y)) (fun v M' => v = some (.int (nI (cgN true (gout (hL1 l f) (hR5 l r f)) (hR5 l r f)))) ∧ M' = sv M (cgL true (gout (hL1 l f) (hR5 l r f)) (hR5 l r f)) (cgR true (gout (hL1 l f) (hR5 l r f)) (hR5 l r f)))) 1 15 (fun y hy0 hy ih => ?_) ?_ 1 (Nat.le_refl _) (by decide)
  · skip
    refine R_iload_n (q := 52) rfl rfl rfl ?_
    refine R_bipush (q := 54) (v := nI 15) rfl rfl (by decide) ?_
    refine R_icmp_ge (q := 57) (t := 82) rfl rfl rfl (fun h54 => absurd h54 (nI_ge hy (by decide))) (fun h54 => ?_)
    refine R_aload_n (q := 58) rfl rfl rfl ?_
    refine R_getf (q := 61) rfl rfl rfl (h30 _ _) rfl ?_
    refine R_iload_n (q := 62) rfl rfl rfl ?_
    refine R_aload_n (q := 63) rfl rfl rfl ?_
    refine R_getf (q := 66) rfl rfl rfl (h30 _ _) rfl ?_
    refine R_iload_n (q := 67) rfl rfl rfl ?_
    refine R_callv1 (q := 70) rfl rfl rfl rfl (hL _ _).1 (Nat.le_of_ble_eq_true rfl) rfl ?_
    refine R_mono (c2 (hL _ _)) (fun v67 M67 hr67 => ?_)
    obtain ⟨rfl, hm67⟩ := hr67
    rw [hm67]
    dsimp only [Option.toList, List.cons_append, List.nil_append]
    rw [rowv_nI (by omega)]
    refine R_ldc (q := 72) (v := 32769) rfl rfl rfl ?_
    refine R_iand (q := 73) rfl rfl ?_
    refine R_callv2 (q := 76) rfl rfl rfl rfl (hR _ _).1 (Nat.le_of_ble_eq_true rfl) rfl ?_
    refine R_mono (c6 (hR _ _)) (fun v73 M73 hr73 => ?_)
    obtain ⟨rfl, hm73⟩ := hr73
    rw [if_pos (by rw [i_n y (by omega)]; omega), sv_pr, cl_nI (by omega)] at hm73
    rw [hm73]
    dsimp only [Option.toList, List.cons_append, List.nil_append]
    refine R_iinc (q := 79) rfl rfl rfl (nI_i1 y) rfl ?_
    dsimp only [List.set]
    refine R_goto (t := 51) rfl rfl ?_
    refine R_atM ?_ ih
    exact (congrArg (fun z => sv M (hL1 l f) z) (ifr_s (n := (fun y => (hL1 l f y &&& 32769) &&& 65535)) hy0)).symm
  · show mm_R S (d + 4) 85 51 [some (.ref 30), some (.ref a), some (.int (nI 15))] [] (sv M (hL1 l f) (hR4 l r f)) _
    refine R_iload_n (q := 52) rfl rfl rfl ?_
    refine R_bipush (q := 54) (v := nI 15) rfl rfl (by decide) ?_
    refine R_icmp_ge (q := 57) (t := 82) rfl rfl rfl (fun h54 => ?_) (fun h54 => absurd (nI_le (Nat.le_refl _) (by decide)) h54)
    refine R_aload_n (q := 83) rfl rfl rfl ?_
    refine R_iconst (q := 84) (v := nI 1) rfl rfl (by decide) ?_
    refine R_callv1 (q := 87) rfl rfl rfl rfl (h30 _ _) (Nat.le_of_ble_eq_true rfl) rfl ?_
    refine R_mono (R_deep (c87 (d := 0) (b := true) h) (by omega)) (fun v84 M84 hr84 => ?_)
    obtain ⟨rfl, hm84⟩ := hr84
    replace hm84 : M84 = sv M (hL1 l f) (hR5 l r f) := hm84
    rw [hm84]
    dsimp only [Option.toList, List.cons_append, List.nil_append]
    refine R_aload_n (q := 88) rfl rfl rfl ?_
    refine R_getf (q := 91) rfl rfl rfl (h30 _ _) rfl ?_
    refine R_aload_n (q := 92) rfl rfl rfl ?_
    refine R_getf (q := 95) rfl rfl rfl (h30 _ _) rfl ?_
    refine R_callv1 (q := 98) rfl rfl rfl rfl (hL _ _).1 (Nat.le_of_ble_eq_true rfl) rfl ?_
    refine R_mono (c11 (hL _ _) (hR _ _)) (fun v95 M95 hr95 => ?_)
    obtain ⟨rfl, hm95⟩ := hr95
    rw [sv_pl] at hm95
    replace hm95 : M95 = sv M (gout (hL1 l f) (hR5 l r f)) (hR5 l r f) := hm95
    rw [hm95]
    dsimp only [Option.toList, List.cons_append, List.nil_append]
    refine R_aload_n (q := 99) rfl rfl rfl ?_
    refine R_iconst (q := 100) (v := nI 1) rfl rfl (by decide) ?_
    refine R_callv1 (q := 103) rfl rfl rfl rfl (h30 _ _) (Nat.le_of_ble_eq_true rfl) rfl ?_
    refine R_mono (c86 (b := true) h) (fun v100 M100 hr100 => ?_)
    obtain ⟨rfl, hm100⟩ := hr100
    rw [hm100]
    dsimp only [Option.toList, List.cons_append, List.nil_append]
    refine R_ireturn rfl rfl ?_
    exact ⟨rfl, rfl⟩
def lkd (g : Bool) (bits : Int32) : Int32 := if g then (bits ^^^ (-1)) &&& 65535 else bits
def flen (lk : Int32) (s : Nat) (g : Bool) (w : Nat) : Nat := if bt lk s = false ∨ (0 < s ∧ bt lk (s - 1) = true) then 0 else if g = true ∧ (s = 0 ∨ re (bt lk) (16 - s) s = 16) then 0 else if re (bt lk) (16 - s) s - s < w then re (bt lk) (16 - s) s - s else 0
theorem re_ge (g : Nat → Bool) : ∀ n s, s ≤ re g n s ∧ re g n s ≤ s + n := by
  intro n
  induction n with
  | zero => intro s; exact ⟨Nat.le_refl _, Nat.le_refl _⟩
  | succ n ih =>
    intro s
    show s ≤ (if g s = true then re g n (s + 1) else s) ∧ (if g s = true then re g n (s + 1) else s) ≤ s + (n + 1)
    split
    · have := ih (s + 1); omega
    · omega
set_option maxRecDepth 8000 in
theorem c90 {bits : Int32} {s w : Nat} {g : Bool} (hs : s < 16) (hw : w < 100) : mm_R S (d + 2) 90 0 (mm_en 90 [.int bits, .int (nI s), .int (zb g), .int (nI w)]) [] M (fun v M' => v = some (.int (nI (flen (lkd g bits) s g w))) ∧ M' = M) := by
  have hre := re_ge (bt (lkd g bits)) (16 - s) s
  have hmain : ∀ t5 : Option Value, mm_R S (d + 2) 90 16 [some (.int bits), some (.int (nI s)), some (.int (zb g)), some (.int (nI w)), some (.int (lkd g bits)), t5] [] M (fun v M' => v = some (.int (nI (flen (lkd g bits) s g w))) ∧ M' = M) := by
    generalize lkd g bits = lk at *
    intro t5
    have hz : ∀ v : Nat, v = flen lk s g w → (some (Value.int (nI v)) = some (.int (nI (flen lk s g w))) ∧ M = M) := fun v hv => ⟨by rw [hv], rfl⟩
    have h67 : ¬ (bt lk s = false ∨ (0 < s ∧ bt lk (s - 1) = true)) → ¬ (g = true ∧ (s = 0 ∨ re (bt lk) (16 - s) s = 16)) → mm_R S (d + 2) 90 67 [some (.int bits), some (.int (nI s)), some (.int (zb g)), some (.int (nI w)), some (.int lk), some (.int (nI (re (bt lk) (16 - s) s)))] [] M (fun v M' => v = some (.int (nI (flen lk s g w))) ∧ M' = M) := by
      intro hn1 hn2
      refine R_iload (q := 69) rfl rfl rfl ?_
      refine R_iload_n (q := 70) rfl rfl rfl ?_
      refine R_isub (q := 71) rfl rfl ?_
      rw [pk_sub hre.1]
      refine R_iload_n (q := 72) rfl rfl rfl ?_
      refine R_icmp_ge (q := 75) (t := 82) rfl rfl rfl (fun h72 => ?_) (fun h72 => ?_)
      · refine R_iconst (q := 83) (v := nI 0) rfl rfl (by decide) ?_
        refine R_ireturn rfl rfl ?_
        refine hz _ ?_
        unfold flen
        rw [if_neg hn1, if_neg hn2]
        first
          | exact (if_pos (nI_lt_of (by omega) h72)).symm
          | exact (if_neg (nI_ge_of (by omega) (by omega) h72)).symm
      · refine R_iload (q := 77) rfl rfl rfl ?_
        refine R_iload_n (q := 78) rfl rfl rfl ?_
        refine R_isub (q := 79) rfl rfl ?_
        rw [pk_sub hre.1]
        refine R_goto (t := 83) rfl rfl ?_
        refine R_ireturn rfl rfl ?_
        refine hz _ ?_
        unfold flen
        rw [if_neg hn1, if_neg hn2]
        first
          | exact (if_pos (nI_lt_of (by omega) h72)).symm
          | exact (if_neg (nI_ge_of (by omega) (by omega) h72)).symm
    have h42 : ∀ t5 : Option Value, ¬ (bt lk s = false ∨ (0 < s ∧ bt lk (s - 1) = true)) → mm_R S (d + 2) 90 42 [some (.int bits), some (.int (nI s)), some (.int (zb g)), some (.int (nI w)), some (.int lk), t5] [] M (fun v M' => v = some (.int (nI (flen lk s g w))) ∧ M' = M) := by
      intro t5 hn1
      have h67 := fun (_ : Unit) => h67 hn1
      refine R_iload (q := 44) rfl rfl rfl ?_
      refine R_iload_n (q := 45) rfl rfl rfl ?_
      refine R_calls2 (q := 48) rfl rfl rfl rfl (Nat.le_of_ble_eq_true rfl) rfl ?_
      refine R_mono (c144 (by omega)) (fun v45 M45 hr45 => ?_)
      obtain ⟨rfl, hm45⟩ := hr45
      rw [hm45]
      dsimp only [Option.toList, List.cons_append, List.nil_append]
      refine R_istore (q := 50) rfl rfl (Nat.le_of_ble_eq_true rfl) rfl ?_
      dsimp only [List.set]
      refine R_iload_n (q := 51) rfl rfl rfl ?_
      refine R_if_eq (q := 54) (t := 67) rfl rfl rfl (fun h51 => ?_) (fun h51 => ?_)
      · exact h67 () (by
          rintro ⟨q1, q2⟩
          first
            | (rw [zb_eq0.mp h51] at q1; cases q1; done)
            | (rcases q2 with q2 | q2
               · exact h55 (by rw [q2]; rfl)
               · exact h62 (by rw [q2])))
      · refine R_iload_n (q := 55) rfl rfl rfl ?_
        refine R_if_eq (q := 58) (t := 65) rfl rfl rfl (fun h55 => ?_) (fun h55 => ?_)
        · refine R_iconst (q := 66) (v := nI 0) rfl rfl (by decide) ?_
          refine R_ireturn rfl rfl ?_
          refine hz _ ?_
          unfold flen
          rw [if_neg hn1]
          by_cases hs0 : s = 0
          · exact (if_pos ⟨zb_ne0.mp h51, Or.inl hs0⟩).symm
          · have h16 : re (bt lk) (16 - s) s = 16 := nI_inj (by omega) (by decide) (by first | exact h62 | exact absurd (nI_0_of h55) hs0)
            exact (if_pos ⟨zb_ne0.mp h51, Or.inr h16⟩).symm
        · refine R_iload (q := 60) rfl rfl rfl ?_
          refine R_bipush (q := 62) (v := nI 16) rfl rfl (by decide) ?_
          refine R_icmp_ne (q := 65) (t := 67) rfl rfl rfl (fun h62 => ?_) (fun h62 => ?_)
          · exact h67 () (by
              rintro ⟨q1, q2⟩
              first
                | (rw [zb_eq0.mp h51] at q1; cases q1; done)
                | (rcases q2 with q2 | q2
                   · exact h55 (by rw [q2]; rfl)
                   · exact h62 (by rw [q2])))
          · refine R_iconst (q := 66) (v := nI 0) rfl rfl (by decide) ?_
            refine R_ireturn rfl rfl ?_
            refine hz _ ?_
            unfold flen
            rw [if_neg hn1]
            by_cases hs0 : s = 0
            · exact (if_pos ⟨zb_ne0.mp h51, Or.inl hs0⟩).symm
            · have h16 : re (bt lk) (16 - s) s = 16 := nI_inj (by omega) (by decide) (by first | exact h62 | exact absurd (nI_0_of h55) hs0)
              exact (if_pos ⟨zb_ne0.mp h51, Or.inr h16⟩).symm
    refine R_iload (q := 18) rfl rfl rfl ?_
    refine R_iload_n (q := 19) rfl rfl rfl ?_
    refine R_calls2 (q := 22) rfl rfl rfl rfl (Nat.le_of_ble_eq_true rfl) rfl ?_
    refine R_mono (c142 (by omega)) (fun v19 M19 hr19 => ?_)
    obtain ⟨rfl, hm19⟩ := hr19
    rw [hm19]
    dsimp only [Option.toList, List.cons_append, List.nil_append]
    refine R_if_eq (q := 25) (t := 40) rfl rfl rfl (fun h22 => ?_) (fun h22 => ?_)
    · refine R_iconst (q := 41) (v := nI 0) rfl rfl (by decide) ?_
      refine R_ireturn rfl rfl ?_
      first | exact hz _ (if_pos (Or.inl (zb_eq0.mp h22))).symm | exact hz _ (if_pos (Or.inr ⟨hs1, zb_ne0.mp h37⟩)).symm
    · refine R_iload_n (q := 26) rfl rfl rfl ?_
      refine R_if_le (q := 29) (t := 42) rfl rfl rfl (fun h26 => ?_) (fun h26 => ?_)
      · exact h42 _ (by
          rintro (q | ⟨q1, q2⟩)
          · rw [zb_ne0.mp h22] at q; cases q
          · first
              | (rw [zb_eq0.mp h37] at q2; cases q2)
              | exact absurd h26 (nI_nle q1 (by omega)))
      · refine R_iload (q := 31) rfl rfl rfl ?_
        refine R_iload_n (q := 32) rfl rfl rfl ?_
        refine R_iconst (q := 33) (v := nI 1) rfl rfl (by decide) ?_
        refine R_isub (q := 34) rfl rfl ?_
        have hs1 : 0 < s := by
          rcases Nat.eq_zero_or_pos s with q | q
          · subst q; exact absurd (by decide) h26
          · exact q
        rw [pk_sub (by omega)]
        refine R_calls2 (q := 37) rfl rfl rfl rfl (Nat.le_of_ble_eq_true rfl) rfl ?_
        refine R_mono (c142 (by omega)) (fun v34 M34 hr34 => ?_)
        obtain ⟨rfl, hm34⟩ := hr34
        rw [hm34]
        dsimp only [Option.toList, List.cons_append, List.nil_append]
        refine R_if_eq (q := 40) (t := 42) rfl rfl rfl (fun h37 => ?_) (fun h37 => ?_)
        · exact h42 _ (by
            rintro (q | ⟨q1, q2⟩)
            · rw [zb_ne0.mp h22] at q; cases q
            · first
                | (rw [zb_eq0.mp h37] at q2; cases q2)
                | exact absurd h26 (nI_nle q1 (by omega)))
        · refine R_iconst (q := 41) (v := nI 0) rfl rfl (by decide) ?_
          refine R_ireturn rfl rfl ?_
          first | exact hz _ (if_pos (Or.inl (zb_eq0.mp h22))).symm | exact hz _ (if_pos (Or.inr ⟨hs1, zb_ne0.mp h37⟩)).symm
  show mm_R S (d + 2) 90 0 [some (.int bits), some (.int (nI s)), some (.int (zb g)), some (.int (nI w)), none, none] [] M _
  refine R_iload_n (q := 1) rfl rfl rfl ?_
  refine R_if_eq (q := 4) (t := 13) rfl rfl rfl (fun h1 => ?_) (fun h1 => ?_)
  · refine R_iload_n (q := 14) rfl rfl rfl ?_
    refine R_istore (q := 16) rfl rfl (Nat.le_of_ble_eq_true rfl) rfl ?_
    dsimp only [List.set]
    first
      | (have eg := zb_eq0.mp h1
         subst eg
         exact hmain _)
      | (have eg := zb_ne0.mp h1
         subst eg
         exact hmain _)
  · refine R_iload_n (q := 5) rfl rfl rfl ?_
    refine R_iconst (q := 6) (v := (-1)) rfl rfl (by decide) ?_
    refine R_ixor (q := 7) rfl rfl ?_
    refine R_ldc (q := 9) (v := 65535) rfl rfl rfl ?_
    refine R_iand (q := 10) rfl rfl ?_
    refine R_goto (t := 14) rfl rfl ?_
    refine R_istore (q := 16) rfl rfl (Nat.le_of_ble_eq_true rfl) rfl ?_
    dsimp only [List.set]
    first
      | (have eg := zb_eq0.mp h1
         subst eg
         exact hmain _)
      | (have eg := zb_ne0.mp h1
         subst eg
         exact hmain _)
end P25
end
section
/-! ===== lists of items as they grow ===== -/
abbrev IS : Type := Nat × (Nat → Int32)
def itm (M : mm_M) (a : Nat) (s : IS) : mm_M := mm_put (mm_put M (a + 1) (.inl (0, 256, .inl s.2))) a (.inr (3, [.ref (a + 1), .int (nI s.1)]))
def fapp (s : IS) (x y w h : Int32) : IS := if s.1 < 256 then (s.1 + 1, upd s.2 s.1 (pkd x y w h)) else s
theorem itm_IT {M : mm_M} {a : Nat} {s : IS} (hs : s.1 ≤ 256) : IT (itm M a s) a s.1 s.2 := ⟨mm_pe, by unfold itm; rw [mm_pn (by omega)]; exact mm_pe, hs⟩
theorem itm_self {M : mm_M} {a : Nat} {s : IS} (h : IT M a s.1 s.2) : itm M a s = M := by
  unfold itm
  rw [mm_pself (a := a + 1) h.2.1, mm_pself h.1]
theorem put2 {M : mm_M} {a b : Nat} {c c' e e' : mm_E} (h : a ≠ b) : mm_put (mm_put (mm_put (mm_put M a c) b e) a c') b e' = mm_put (mm_put M a c') b e' := by
  rw [mm_pcomm (M := mm_put M a c) (a := b) (b := a) (fun q => h q.symm), mm_pp, mm_pp]
theorem itm_CA {M : mm_M} {a b : Nat} {s : IS} {f : Nat → Int32} (h : CA M b f) (hb : b + 1 < a ∨ a + 1 < b) : CA (itm M a s) b f := by unfold itm; exact CA_off (CA_off h (by omega) (by omega)) (by omega) (by omega)
theorem fapp_le {s : IS} {x y w h : Int32} (hs : s.1 ≤ 256) : (fapp s x y w h).1 ≤ 256 := by
  unfold fapp
  split
  · show s.1 + 1 ≤ 256; omega
  · exact hs
section P26
variable {S : mm_S} {d : Nat} {M : mm_M} {a : Nat}
set_option maxRecDepth 8000 in
theorem c51_full {x y w h : Int32} {n : Nat} {p : Nat → Int32} (hi : IT M a n p) (hn : n = 256) : mm_R S d 51 0 (mm_en 51 [.ref a, .int x, .int y, .int w, .int h]) [] M (fun v M' => v = none ∧ M' = M) := by
  obtain ⟨h1, h2, h3⟩ := hi
  subst hn
  show mm_R S d 51 0 [some (.ref a), some (.int x), some (.int y), some (.int w), some (.int h)] [] M _
  refine R_aload_n (q := 1) rfl rfl rfl ?_
  refine R_getf (q := 4) rfl rfl rfl (by first | assumption | exact mm_pe | (rw [mm_pn (by omega)]; first | assumption | exact mm_pe | (rw [mm_pn (by omega)]; first | assumption | exact mm_pe | (rw [mm_pn (by omega)]; first | assumption | exact mm_pe | (rw [mm_pn (by omega)]; first | assumption | exact mm_pe | (rw [mm_pn (by omega)]; first | assumption | exact mm_pe)))))) rfl ?_
  refine R_sipush (q := 7) (v := nI 256) rfl rfl (by decide) ?_
  refine R_icmp_ge (q := 10) (t := 45) rfl rfl rfl (fun h7 => ?_) (fun h7 => absurd (by decide) h7)
  refine R_return rfl rfl ?_
  exact ⟨rfl, rfl⟩
set_option maxRecDepth 8000 in
theorem c51b {x y w h : Int32} {s : IS} (hs : s.1 ≤ 256) : mm_R S d 51 0 (mm_en 51 [.ref a, .int x, .int y, .int w, .int h]) [] (itm M a s) (fun v M' => v = none ∧ M' = itm M a (fapp s x y w h)) := by
  by_cases hn : s.1 < 256
  · refine R_mono (c51 (itm_IT hs) hn) (fun v M' hr => ⟨hr.1, ?_⟩)
    rw [hr.2]
    unfold fapp
    rw [if_pos hn]
    unfold itm
    exact put2 (by omega)
  · refine R_mono (c51_full (itm_IT hs) (by omega)) (fun v M' hr => ⟨hr.1, ?_⟩)
    rw [hr.2]
    unfold fapp
    rw [if_neg hn]
set_option maxRecDepth 8000 in
theorem c49b {s : IS} (hs : s.1 ≤ 256) : mm_R S d 49 0 (mm_en 49 [.ref a]) [] (itm M a s) (fun v M' => v = none ∧ M' = itm M a (0, s.2)) := by
  refine R_mono (c49 (itm_IT hs)) (fun v M' hr => ⟨hr.1, ?_⟩)
  rw [hr.2]
  unfold itm
  exact mm_pp
/-- the faults of one line: k places from i on -/
def ffx (lk : Int32) (g : Bool) (w : Nat) (P : IS → Nat → Nat → IS) : Nat → Nat → IS → IS
  | 0, _, s => s
  | k + 1, i, s => ffx lk g w P k (i + 1) (if 0 < flen lk i g w then P s i (flen lk i g w) else s)
def ffl (B : Nat → Int32) (g : Bool) (w : Nat) (P : Nat → IS → Nat → Nat → IS) : Nat → Nat → IS → IS
  | 0, _, s => s
  | k + 1, y, s => ffl B g w P k (y + 1) (ffx (lkd g (B y)) g w (P y) 16 0 s)
def Plev (y : Nat) (s : IS) (x n : Nat) : IS := fapp s (nI x) (nI y) (nI n) (nI 0)
def Pupr (x : Nat) (s : IS) (y n : Nat) : IS := fapp s (nI x) (nI y) (nI n) (nI 1)
def ffall (f : Nat → Int32) (g : Bool) (w : Nat) (p : Nat → Int32) : IS := ffl (fun x => colv f x 16) g w Pupr 16 0 (ffl f g w Plev 16 0 (0, p))
theorem ffx_le {lk : Int32} {g : Bool} {w : Nat} {P : IS → Nat → Nat → IS} (hP : ∀ s i n, s.1 ≤ 256 → (P s i n).1 ≤ 256) : ∀ k i s, s.1 ≤ 256 → (ffx lk g w P k i s).1 ≤ 256 := by
  intro k
  induction k with
  | zero => intro i s hs; exact hs
  | succ k ih =>
    intro i s hs
    refine ih (i + 1) _ ?_
    split
    · exact hP s i _ hs
    · exact hs
set_option maxRecDepth 8000 in
theorem c89_up {f : Nat → Int32} {g : Bool} {w : Nat} (hw : w < 100) (ha : CA M a f) (haa : a + 1 < 51 ∨ 52 < a) : ∀ (k y : Nat) (s : IS) (t6 t7 t8 : Option Value), y + k = 16 → s.1 ≤ 256 → mm_R S (d + 3) 89 76 [some (.ref 30), some (.ref a), some (.int (zb g)), some (.int (nI w)), some (.ref 51), some (.int (nI y)), t6, t7, t8] [] (itm M 51 s) (fun v M' => v = none ∧ M' = itm M 51 (ffl (fun x => colv f x 16) g w Pupr k y s)) := by
  intro k
  induction k with
  | zero =>
    intro y s t6 t7 t8 hy hs
    refine R_iload (q := 78) rfl rfl rfl ?_
    refine R_bipush (q := 80) (v := nI 16) rfl rfl (by decide) ?_
    refine R_icmp_ge (q := 83) (t := 141) rfl rfl rfl (fun h80 => ?_) (fun h80 => absurd (nI_le (by omega) (by omega)) h80)
    refine R_return rfl rfl ?_
    exact ⟨rfl, rfl⟩
  | succ k ih =>
    intro y s t6 t7 t8 hy hs
    have hin : ∀ (j x : Nat) (s : IS) (t8 : Option Value), x + j = 16 → s.1 ≤ 256 → mm_R S (d + 3) 89 94 [some (.ref 30), some (.ref a), some (.int (zb g)), some (.int (nI w)), some (.ref 51), some (.int (nI y)), some (.int (colv f y 16)), some (.int (nI x)), t8] [] (itm M 51 s) (fun v M' => v = none ∧ M' = itm M 51 (ffl (fun x => colv f x 16) g w Pupr k (y + 1) (ffx (lkd g (colv f y 16)) g w (Pupr y) j x s))) := by
      intro j
      induction j with
      | zero =>
        intro x s t8 hx hs
        refine R_iload (q := 96) rfl rfl rfl ?_
        refine R_bipush (q := 98) (v := nI 16) rfl rfl (by decide) ?_
        refine R_icmp_ge (q := 101) (t := 135) rfl rfl rfl (fun h98 => ?_) (fun h98 => absurd (nI_le (by omega) (by omega)) h98)
        refine R_iinc (q := 138) rfl rfl rfl (nI_i1 y) rfl ?_
        dsimp only [List.set]
        refine R_goto (t := 76) rfl rfl ?_
        exact ih (y + 1) s _ _ _ (by omega) hs
      | succ j ihj =>
        intro x s t8 hx hs
        have h51 := (itm_IT (M := M) (a := 51) hs).1
        have hfl : flen (lkd g (colv f y 16)) x g w ≤ 16 := by
          have hq := re_ge (bt (lkd g (colv f y 16))) (16 - x) x
          unfold flen
          split
          · omega
          · split
            · omega
            · split <;> omega
        refine R_iload (q := 96) rfl rfl rfl ?_
        refine R_bipush (q := 98) (v := nI 16) rfl rfl (by decide) ?_
        refine R_icmp_ge (q := 101) (t := 135) rfl rfl rfl (fun h98 => absurd h98 (nI_ge (by omega) (by omega))) (fun h98 => ?_)
        refine R_iload (q := 103) rfl rfl rfl ?_
        refine R_iload (q := 105) rfl rfl rfl ?_
        refine R_iload_n (q := 106) rfl rfl rfl ?_
        refine R_iload_n (q := 107) rfl rfl rfl ?_
        refine R_calls4 (q := 110) rfl rfl rfl rfl (Nat.le_of_ble_eq_true rfl) rfl ?_
        refine R_mono (R_deep (c90 (d := 0) (show x < 16 by omega) hw) (by omega)) (fun v107 M107 hr107 => ?_)
        obtain ⟨rfl, hm107⟩ := hr107
        rw [hm107]
        dsimp only [Option.toList, List.cons_append, List.nil_append]
        refine R_istore (q := 112) rfl rfl (Nat.le_of_ble_eq_true rfl) rfl ?_
        dsimp only [List.set]
        refine R_iload (q := 114) rfl rfl rfl ?_
        refine R_if_le (q := 117) (t := 129) rfl rfl rfl (fun h114 => ?_) (fun h114 => ?_)
        · refine R_iinc (q := 132) rfl rfl rfl (nI_i1 x) rfl ?_
          dsimp only [List.set]
          refine R_goto (t := 94) rfl rfl ?_
          have hk := ihj (x + 1) (if 0 < flen (lkd g (colv f y 16)) x g w then Pupr y s x (flen (lkd g (colv f y 16)) x g w) else s) (some (.int (nI (flen (lkd g (colv f y 16)) x g w)))) (by omega) (by
            split
            · exact fapp_le hs
            · exact hs)
          first
            | (have hpos : 0 < flen (lkd g (colv f y 16)) x g w := by
                 rcases Nat.eq_zero_or_pos (flen (lkd g (colv f y 16)) x g w) with q | q
                 · rw [q] at h114; exact absurd (by decide) h114
                 · exact q
               rw [if_pos hpos] at hk
               refine R_mono hk (fun v M' hr => ⟨hr.1, ?_⟩)
               rw [hr.2]
               show itm M 51 _ = itm M 51 _
               rw [show ffx (lkd g (colv f y 16)) g w (Pupr y) (j + 1) x s = ffx (lkd g (colv f y 16)) g w (Pupr y) j (x + 1) (Pupr y s x (flen (lkd g (colv f y 16)) x g w)) from (by
                 show ffx _ _ _ _ j (x + 1) (if 0 < flen (lkd g (colv f y 16)) x g w then _ else s) = _
                 rw [if_pos hpos])]
               done)
            | (have hz : ¬ 0 < flen (lkd g (colv f y 16)) x g w := fun q => nI_nle q (by omega) h114
               rw [if_neg hz] at hk
               refine R_mono hk (fun v M' hr => ⟨hr.1, ?_⟩)
               rw [hr.2]
               show itm M 51 _ = itm M 51 _
               rw [show ffx (lkd g (colv f y 16)) g w (Pupr y) (j + 1) x s = ffx (lkd g (colv f y 16)) g w (Pupr y) j (x + 1) s from (by
                 show ffx _ _ _ _ j (x + 1) (if 0 < flen (lkd g (colv f y 16)) x g w then _ else s) = _
                 rw [if_neg hz])]
               done)
        · refine R_aload (q := 119) rfl rfl rfl ?_
          refine R_iload (q := 121) rfl rfl rfl ?_
          refine R_iload (q := 123) rfl rfl rfl ?_
          refine R_iload (q := 125) rfl rfl rfl ?_
          refine R_iconst (q := 126) (v := nI 1) rfl rfl (by decide) ?_
          refine R_callv4 (q := 129) rfl rfl rfl rfl h51 (Nat.le_of_ble_eq_true rfl) rfl ?_
          refine R_mono (c51b hs) (fun v126 M126 hr126 => ?_)
          obtain ⟨rfl, hm126⟩ := hr126
          rw [hm126]
          dsimp only [Option.toList, List.cons_append, List.nil_append]
          refine R_iinc (q := 132) rfl rfl rfl (nI_i1 x) rfl ?_
          dsimp only [List.set]
          refine R_goto (t := 94) rfl rfl ?_
          have hk := ihj (x + 1) (if 0 < flen (lkd g (colv f y 16)) x g w then Pupr y s x (flen (lkd g (colv f y 16)) x g w) else s) (some (.int (nI (flen (lkd g (colv f y 16)) x g w)))) (by omega) (by
            split
            · exact fapp_le hs
            · exact hs)
          first
            | (have hpos : 0 < flen (lkd g (colv f y 16)) x g w := by
                 rcases Nat.eq_zero_or_pos (flen (lkd g (colv f y 16)) x g w) with q | q
                 · rw [q] at h114; exact absurd (by decide) h114
                 · exact q
               rw [if_pos hpos] at hk
               refine R_mono hk (fun v M' hr => ⟨hr.1, ?_⟩)
               rw [hr.2]
               show itm M 51 _ = itm M 51 _
               rw [show ffx (lkd g (colv f y 16)) g w (Pupr y) (j + 1) x s = ffx (lkd g (colv f y 16)) g w (Pupr y) j (x + 1) (Pupr y s x (flen (lkd g (colv f y 16)) x g w)) from (by
                 show ffx _ _ _ _ j (x + 1) (if 0 < flen (lkd g (colv f y 16)) x g w then _ else s) = _
                 rw [if_pos hpos])]
               done)
            | (have hz : ¬ 0 < flen (lkd g (colv f y 16)) x g w := fun q => nI_nle q (by omega) h114
               rw [if_neg hz] at hk
               refine R_mono hk (fun v M' hr => ⟨hr.1, ?_⟩)
               rw [hr.2]
               show itm M 51 _ = itm M 51 _
               rw [show ffx (lkd g (colv f y 16)) g w (Pupr y) (j + 1) x s = ffx (lkd g (colv f y 16)) g w (Pupr y) j (x + 1) s from (by
                 show ffx _ _ _ _ j (x + 1) (if 0 < flen (lkd g (colv f y 16)) x g w then _ else s) = _
                 rw [if_neg hz])]
               done)
    refine R_iload (q := 78) rfl rfl rfl ?_
    refine R_bipush (q := 80) (v := nI 16) rfl rfl (by decide) ?_
    refine R_icmp_ge (q := 83) (t := 141) rfl rfl rfl (fun h80 => absurd h80 (nI_ge (by omega) (by omega))) (fun h80 => ?_)
    refine R_aload_n (q := 84) rfl rfl rfl ?_
    refine R_iload (q := 86) rfl rfl rfl ?_
    refine R_callv1 (q := 89) rfl rfl rfl rfl (itm_CA ha haa).1 (Nat.le_of_ble_eq_true rfl) rfl ?_
    refine R_mono (c3 (itm_CA ha haa)) (fun v86 M86 hr86 => ?_)
    obtain ⟨rfl, hm86⟩ := hr86
    rw [hm86]
    dsimp only [Option.toList, List.cons_append, List.nil_append]
    refine R_istore (q := 91) rfl rfl (Nat.le_of_ble_eq_true rfl) rfl ?_
    dsimp only [List.set]
    refine R_iconst (q := 92) (v := nI 0) rfl rfl (by decide) ?_
    refine R_istore (q := 94) rfl rfl (Nat.le_of_ble_eq_true rfl) rfl ?_
    dsimp only [List.set]
    exact hin 16 0 s _ rfl hs
set_option maxRecDepth 8000 in
theorem c89_lev {f : Nat → Int32} {g : Bool} {w : Nat} (hw : w < 100) (ha : CA M a f) (haa : a + 1 < 51 ∨ 52 < a) : ∀ (k y : Nat) (s : IS) (t6 t7 t8 : Option Value), y + k = 16 → s.1 ≤ 256 → mm_R S (d + 3) 89 8 [some (.ref 30), some (.ref a), some (.int (zb g)), some (.int (nI w)), some (.ref 51), some (.int (nI y)), t6, t7, t8] [] (itm M 51 s) (fun v M' => v = none ∧ M' = itm M 51 (ffl (fun x => colv f x 16) g w Pupr 16 0 (ffl f g w Plev k y s))) := by
  intro k
  induction k with
  | zero =>
    intro y s t6 t7 t8 hy hs
    refine R_iload (q := 10) rfl rfl rfl ?_
    refine R_bipush (q := 12) (v := nI 16) rfl rfl (by decide) ?_
    refine R_icmp_ge (q := 15) (t := 73) rfl rfl rfl (fun h12 => ?_) (fun h12 => absurd (nI_le (by omega) (by omega)) h12)
    refine R_iconst (q := 74) (v := nI 0) rfl rfl (by decide) ?_
    refine R_istore (q := 76) rfl rfl (Nat.le_of_ble_eq_true rfl) rfl ?_
    dsimp only [List.set]
    exact c89_up hw ha haa 16 0 s _ _ _ rfl hs
  | succ k ih =>
    intro y s t6 t7 t8 hy hs
    have hin : ∀ (j x : Nat) (s : IS) (t8 : Option Value), x + j = 16 → s.1 ≤ 256 → mm_R S (d + 3) 89 26 [some (.ref 30), some (.ref a), some (.int (zb g)), some (.int (nI w)), some (.ref 51), some (.int (nI y)), some (.int (f y)), some (.int (nI x)), t8] [] (itm M 51 s) (fun v M' => v = none ∧ M' = itm M 51 (ffl (fun x => colv f x 16) g w Pupr 16 0 (ffl f g w Plev k (y + 1) (ffx (lkd g (f y)) g w (Plev y) j x s)))) := by
      intro j
      induction j with
      | zero =>
        intro x s t8 hx hs
        refine R_iload (q := 28) rfl rfl rfl ?_
        refine R_bipush (q := 30) (v := nI 16) rfl rfl (by decide) ?_
        refine R_icmp_ge (q := 33) (t := 67) rfl rfl rfl (fun h30 => ?_) (fun h30 => absurd (nI_le (by omega) (by omega)) h30)
        refine R_iinc (q := 70) rfl rfl rfl (nI_i1 y) rfl ?_
        dsimp only [List.set]
        refine R_goto (t := 8) rfl rfl ?_
        exact ih (y + 1) s _ _ _ (by omega) hs
      | succ j ihj =>
        intro x s t8 hx hs
        have h51 := (itm_IT (M := M) (a := 51) hs).1
        have hfl : flen (lkd g (f y)) x g w ≤ 16 := by
          have hq := re_ge (bt (lkd g (f y))) (16 - x) x
          unfold flen
          split
          · omega
          · split
            · omega
            · split <;> omega
        refine R_iload (q := 28) rfl rfl rfl ?_
        refine R_bipush (q := 30) (v := nI 16) rfl rfl (by decide) ?_
        refine R_icmp_ge (q := 33) (t := 67) rfl rfl rfl (fun h30 => absurd h30 (nI_ge (by omega) (by omega))) (fun h30 => ?_)
        refine R_iload (q := 35) rfl rfl rfl ?_
        refine R_iload (q := 37) rfl rfl rfl ?_
        refine R_iload_n (q := 38) rfl rfl rfl ?_
        refine R_iload_n (q := 39) rfl rfl rfl ?_
        refine R_calls4 (q := 42) rfl rfl rfl rfl (Nat.le_of_ble_eq_true rfl) rfl ?_
        refine R_mono (R_deep (c90 (d := 0) (show x < 16 by omega) hw) (by omega)) (fun v39 M39 hr39 => ?_)
        obtain ⟨rfl, hm39⟩ := hr39
        rw [hm39]
        dsimp only [Option.toList, List.cons_append, List.nil_append]
        refine R_istore (q := 44) rfl rfl (Nat.le_of_ble_eq_true rfl) rfl ?_
        dsimp only [List.set]
        refine R_iload (q := 46) rfl rfl rfl ?_
        refine R_if_le (q := 49) (t := 61) rfl rfl rfl (fun h46 => ?_) (fun h46 => ?_)
        · refine R_iinc (q := 64) rfl rfl rfl (nI_i1 x) rfl ?_
          dsimp only [List.set]
          refine R_goto (t := 26) rfl rfl ?_
          have hk := ihj (x + 1) (if 0 < flen (lkd g (f y)) x g w then Plev y s x (flen (lkd g (f y)) x g w) else s) (some (.int (nI (flen (lkd g (f y)) x g w)))) (by omega) (by
            split
            · exact fapp_le hs
            · exact hs)
          first
            | (have hpos : 0 < flen (lkd g (f y)) x g w := by
                 rcases Nat.eq_zero_or_pos (flen (lkd g (f y)) x g w) with q | q
                 · rw [q] at h46; exact absurd (by decide) h46
                 · exact q
               rw [if_pos hpos] at hk
               refine R_mono hk (fun v M' hr => ⟨hr.1, ?_⟩)
               rw [hr.2]
               show itm M 51 _ = itm M 51 _
               rw [show ffx (lkd g (f y)) g w (Plev y) (j + 1) x s = ffx (lkd g (f y)) g w (Plev y) j (x + 1) (Plev y s x (flen (lkd g (f y)) x g w)) from (by
                 show ffx _ _ _ _ j (x + 1) (if 0 < flen (lkd g (f y)) x g w then _ else s) = _
                 rw [if_pos hpos])]
               done)
            | (have hz : ¬ 0 < flen (lkd g (f y)) x g w := fun q => nI_nle q (by omega) h46
               rw [if_neg hz] at hk
               refine R_mono hk (fun v M' hr => ⟨hr.1, ?_⟩)
               rw [hr.2]
               show itm M 51 _ = itm M 51 _
               rw [show ffx (lkd g (f y)) g w (Plev y) (j + 1) x s = ffx (lkd g (f y)) g w (Plev y) j (x + 1) s from (by
                 show ffx _ _ _ _ j (x + 1) (if 0 < flen (lkd g (f y)) x g w then _ else s) = _
                 rw [if_neg hz])]
               done)
        · refine R_aload (q := 51) rfl rfl rfl ?_
          refine R_iload (q := 53) rfl rfl rfl ?_
          refine R_iload (q := 55) rfl rfl rfl ?_
          refine R_iload (q := 57) rfl rfl rfl ?_
          refine R_iconst (q := 58) (v := nI 0) rfl rfl (by decide) ?_
          refine R_callv4 (q := 61) rfl rfl rfl rfl h51 (Nat.le_of_ble_eq_true rfl) rfl ?_
          refine R_mono (c51b hs) (fun v58 M58 hr58 => ?_)
          obtain ⟨rfl, hm58⟩ := hr58
          rw [hm58]
          dsimp only [Option.toList, List.cons_append, List.nil_append]
          refine R_iinc (q := 64) rfl rfl rfl (nI_i1 x) rfl ?_
          dsimp only [List.set]
          refine R_goto (t := 26) rfl rfl ?_
          have hk := ihj (x + 1) (if 0 < flen (lkd g (f y)) x g w then Plev y s x (flen (lkd g (f y)) x g w) else s) (some (.int (nI (flen (lkd g (f y)) x g w)))) (by omega) (by
            split
            · exact fapp_le hs
            · exact hs)
          first
            | (have hpos : 0 < flen (lkd g (f y)) x g w := by
                 rcases Nat.eq_zero_or_pos (flen (lkd g (f y)) x g w) with q | q
                 · rw [q] at h46; exact absurd (by decide) h46
                 · exact q
               rw [if_pos hpos] at hk
               refine R_mono hk (fun v M' hr => ⟨hr.1, ?_⟩)
               rw [hr.2]
               show itm M 51 _ = itm M 51 _
               rw [show ffx (lkd g (f y)) g w (Plev y) (j + 1) x s = ffx (lkd g (f y)) g w (Plev y) j (x + 1) (Plev y s x (flen (lkd g (f y)) x g w)) from (by
                 show ffx _ _ _ _ j (x + 1) (if 0 < flen (lkd g (f y)) x g w then _ else s) = _
                 rw [if_pos hpos])]
               done)
            | (have hz : ¬ 0 < flen (lkd g (f y)) x g w := fun q => nI_nle q (by omega) h46
               rw [if_neg hz] at hk
               refine R_mono hk (fun v M' hr => ⟨hr.1, ?_⟩)
               rw [hr.2]
               show itm M 51 _ = itm M 51 _
               rw [show ffx (lkd g (f y)) g w (Plev y) (j + 1) x s = ffx (lkd g (f y)) g w (Plev y) j (x + 1) s from (by
                 show ffx _ _ _ _ j (x + 1) (if 0 < flen (lkd g (f y)) x g w then _ else s) = _
                 rw [if_neg hz])]
               done)
    refine R_iload (q := 10) rfl rfl rfl ?_
    refine R_bipush (q := 12) (v := nI 16) rfl rfl (by decide) ?_
    refine R_icmp_ge (q := 15) (t := 73) rfl rfl rfl (fun h12 => absurd h12 (nI_ge (by omega) (by omega))) (fun h12 => ?_)
    refine R_aload_n (q := 16) rfl rfl rfl ?_
    refine R_iload (q := 18) rfl rfl rfl ?_
    refine R_callv1 (q := 21) rfl rfl rfl rfl (itm_CA ha haa).1 (Nat.le_of_ble_eq_true rfl) rfl ?_
    refine R_mono (c2 (itm_CA ha haa)) (fun v18 M18 hr18 => ?_)
    obtain ⟨rfl, hm18⟩ := hr18
    rw [hm18]
    dsimp only [Option.toList, List.cons_append, List.nil_append]
    rw [rowv_nI (by omega)]
    refine R_istore (q := 23) rfl rfl (Nat.le_of_ble_eq_true rfl) rfl ?_
    dsimp only [List.set]
    refine R_iconst (q := 24) (v := nI 0) rfl rfl (by decide) ?_
    refine R_istore (q := 26) rfl rfl (Nat.le_of_ble_eq_true rfl) rfl ?_
    dsimp only [List.set]
    exact hin 16 0 s _ rfl hs
set_option maxRecDepth 8000 in
theorem c89 {f p : Nat → Int32} {g : Bool} {n w : Nat} (hw : w < 100) (ha : CA M a f) (haa : a + 1 < 51 ∨ 52 < a) (hi : IT M 51 n p) : mm_R S (d + 3) 89 0 (mm_en 89 [.ref 30, .ref a, .int (zb g), .int (nI w), .ref 51]) [] M (fun v M' => v = none ∧ M' = itm M 51 (ffall f g w p)) := by
  refine R_atM (itm_self (s := (n, p)) hi) ?_
  have h51 := (itm_IT (M := M) (a := 51) (s := (n, p)) hi.2.2).1
  show mm_R S (d + 3) 89 0 [some (.ref 30), some (.ref a), some (.int (zb g)), some (.int (nI w)), some (.ref 51), none, none, none, none] [] (itm M 51 (n, p)) _
  refine R_aload (q := 2) rfl rfl rfl ?_
  refine R_callv0 (q := 5) rfl rfl rfl rfl h51 (Nat.le_of_ble_eq_true rfl) rfl ?_
  refine R_mono (c49b (s := (n, p)) hi.2.2) (fun v2 M2 hr2 => ?_)
  obtain ⟨rfl, hm2⟩ := hr2
  rw [hm2]
  dsimp only [Option.toList, List.cons_append, List.nil_append]
  refine R_iconst (q := 6) (v := nI 0) rfl rfl (by decide) ?_
  refine R_istore (q := 8) rfl rfl (Nat.le_of_ble_eq_true rfl) rfl ?_
  dsimp only [List.set]
  exact c89_lev hw ha haa 16 0 (0, p) _ _ _ rfl (Nat.zero_le _)
end P26
end
section
theorem nI_lt_of2 {a b : Nat} (h : ¬ nI b ≤ nI a) (ha : a < 2147483648) : a < b := nI_lt_of ha h
/-! ===== Chords: the object at 35, its rows at 36 .. 41 ===== -/
abbrev ia (n : Nat) (f : Nat → Int32) : mm_E := .inl (0, n, .inl f)
abbrev chh (n lv ch tr : Int32) : mm_E := .inr (1, [.ref 36, .ref 37, .ref 38, .ref 39, .ref 40, .ref 41, .int n, .int lv, .int ch, .int tr])
def chm (M : mm_M) (co ln st en to pa : Nat → Int32) (n lv ch tr : Int32) : mm_M := (fun k => if k = 35 then some (chh n lv ch tr) else if k = 36 then some (ia 17 co) else if k = 37 then some (ia 14 ln) else if k = 38 then some (ia 14 st) else if k = 39 then some (ia 14 en) else if k = 40 then some (ia 14 to) else if k = 41 then some (ia 14 pa) else M.1 k, M.2)
section P27a
variable {M : mm_M} {co ln st en to pa f : Nat → Int32} {n lv ch tr : Int32}
theorem ch_35 : (chm M co ln st en to pa n lv ch tr).1 35 = some (chh n lv ch tr) := rfl
theorem ch_36 : (chm M co ln st en to pa n lv ch tr).1 36 = some (ia 17 co) := rfl
theorem ch_37 : (chm M co ln st en to pa n lv ch tr).1 37 = some (ia 14 ln) := rfl
theorem ch_38 : (chm M co ln st en to pa n lv ch tr).1 38 = some (ia 14 st) := rfl
theorem ch_39 : (chm M co ln st en to pa n lv ch tr).1 39 = some (ia 14 en) := rfl
theorem ch_40 : (chm M co ln st en to pa n lv ch tr).1 40 = some (ia 14 to) := rfl
theorem ch_41 : (chm M co ln st en to pa n lv ch tr).1 41 = some (ia 14 pa) := rfl
theorem ch_p36 {z : Nat → Int32} : mm_put (chm M co ln st en to pa n lv ch tr) 36 (ia 17 z) = chm M z ln st en to pa n lv ch tr := by
  unfold mm_put mm_u chm
  congr 1
  funext k
  by_cases h : k = 36
  · subst h; rfl
  · simp [h]
theorem ch_p37 {z : Nat → Int32} : mm_put (chm M co ln st en to pa n lv ch tr) 37 (ia 14 z) = chm M co z st en to pa n lv ch tr := by
  unfold mm_put mm_u chm
  congr 1
  funext k
  by_cases h : k = 37
  · subst h; rfl
  · simp [h]
theorem ch_p38 {z : Nat → Int32} : mm_put (chm M co ln st en to pa n lv ch tr) 38 (ia 14 z) = chm M co ln z en to pa n lv ch tr := by
  unfold mm_put mm_u chm
  congr 1
  funext k
  by_cases h : k = 38
  · subst h; rfl
  · simp [h]
theorem ch_p39 {z : Nat → Int32} : mm_put (chm M co ln st en to pa n lv ch tr) 39 (ia 14 z) = chm M co ln st z to pa n lv ch tr := by
  unfold mm_put mm_u chm
  congr 1
  funext k
  by_cases h : k = 39
  · subst h; rfl
  · simp [h]
theorem ch_p40 {z : Nat → Int32} : mm_put (chm M co ln st en to pa n lv ch tr) 40 (ia 14 z) = chm M co ln st en z pa n lv ch tr := by
  unfold mm_put mm_u chm
  congr 1
  funext k
  by_cases h : k = 40
  · subst h; rfl
  · simp [h]
theorem ch_p41 {z : Nat → Int32} : mm_put (chm M co ln st en to pa n lv ch tr) 41 (ia 14 z) = chm M co ln st en to z n lv ch tr := by
  unfold mm_put mm_u chm
  congr 1
  funext k
  by_cases h : k = 41
  · subst h; rfl
  · simp [h]
theorem ch_p35 {n' lv' ch' tr' : Int32} : mm_put (chm M co ln st en to pa n lv ch tr) 35 (chh n' lv' ch' tr') = chm M co ln st en to pa n' lv' ch' tr' := by
  unfold mm_put mm_u chm
  congr 1
  funext k
  by_cases h : k = 35
  · subst h; rfl
  · simp [h]
theorem ch_off {k : Nat} (hk : k < 35 ∨ 41 < k) : (chm M co ln st en to pa n lv ch tr).1 k = M.1 k := by
  unfold chm
  dsimp only
  rw [if_neg (by omega), if_neg (by omega), if_neg (by omega), if_neg (by omega), if_neg (by omega), if_neg (by omega), if_neg (by omega)]
theorem ch_CA {a : Nat} (h : CA M a f) (ha : a + 1 < 35 ∨ 41 < a) : CA (chm M co ln st en to pa n lv ch tr) a f := ⟨by rw [ch_off (by omega)]; exact h.1, by rw [ch_off (by omega)]; exact h.2⟩
def CHF (M : mm_M) (co ln st en to pa : Nat → Int32) (n lv ch tr : Int32) : Prop := M.1 35 = some (chh n lv ch tr) ∧ M.1 36 = some (ia 17 co) ∧ M.1 37 = some (ia 14 ln) ∧ M.1 38 = some (ia 14 st) ∧ M.1 39 = some (ia 14 en) ∧ M.1 40 = some (ia 14 to) ∧ M.1 41 = some (ia 14 pa)
theorem ch_self (h : CHF M co ln st en to pa n lv ch tr) : chm M co ln st en to pa n lv ch tr = M := by
  obtain ⟨h1, h2, h3, h4, h5, h6, h7⟩ := h
  obtain ⟨m, z⟩ := M
  unfold chm
  congr 1
  funext k
  by_cases e1 : k = 35
  · subst e1; exact h1.symm
  · by_cases e2 : k = 36
    · subst e2; exact h2.symm
    · by_cases e3 : k = 37
      · subst e3; exact h3.symm
      · by_cases e4 : k = 38
        · subst e4; exact h4.symm
        · by_cases e5 : k = 39
          · subst e5; exact h5.symm
          · by_cases e6 : k = 40
            · subst e6; exact h6.symm
            · by_cases e7 : k = 41
              · subst e7; exact h7.symm
              · rw [if_neg e1, if_neg e2, if_neg e3, if_neg e4, if_neg e5, if_neg e6, if_neg e7]
end P27a
section P27
variable {S : mm_S} {d : Nat} {M : mm_M} {co ln st en to pa f : Nat → Int32} {ch tr lvI nI0 : Int32} {n lv a : Nat}
set_option maxRecDepth 8000 in
theorem c20 : mm_R S d 20 0 (mm_en 20 [.ref 35]) [] (chm M co ln st en to pa nI0 lvI ch tr) (fun v M' => v = some (.int nI0) ∧ M' = (chm M co ln st en to pa nI0 lvI ch tr)) := by
  show mm_R S d 20 0 [some (.ref 35)] [] (chm M co ln st en to pa nI0 lvI ch tr) _
  refine R_aload_n (q := 1) rfl rfl rfl ?_
  refine R_getf (q := 4) rfl rfl rfl ch_35 rfl ?_
  refine R_ireturn rfl rfl ?_
  exact ⟨rfl, rfl⟩
set_option maxRecDepth 8000 in
theorem c21 (hn : n < 1000) : mm_R S d 21 0 (mm_en 21 [.ref 35]) [] (chm M co ln st en to pa (nI n) (nI lv) ch tr) (fun v M' => v = some (.int (zb (decide (n ≤ 14)))) ∧ M' = (chm M co ln st en to pa (nI n) (nI lv) ch tr)) := by
  have hnn := i_n n (by omega)
  show mm_R S d 21 0 [some (.ref 35)] [] (chm M co ln st en to pa (nI n) (nI lv) ch tr) _
  refine R_aload_n (q := 1) rfl rfl rfl ?_
  refine R_getf (q := 4) rfl rfl rfl ch_35 rfl ?_
  refine R_bipush (q := 6) (v := nI 14) rfl rfl (by decide) ?_
  refine R_icmp_gt (q := 9) (t := 13) rfl rfl rfl (fun h6 => ?_) (fun h6 => ?_)
  · refine R_iconst (q := 14) (v := nI 0) rfl rfl (by decide) ?_
    refine R_zreturn rfl rfl (by first | exact Or.inl rfl | exact Or.inr rfl | assumption) ?_
    refine ⟨congrArg some (congrArg Value.int ?_), rfl⟩
    first | exact (zb_t (by (try simp only [i_lt, i_le, i_eq, i_0, ik_0, ik_1, ik_2, ik_3, ik_4, ik_5, ik_6, ik_7, ik_8, ik_9, ik_10, ik_11, ik_12, ik_13, ik_14, ik_15, ik_16, ik_17, ik_18, ik_19, ik_20, ik_21, ik_22, ik_23, ik_24, ik_25, ik_26, ik_27, ik_28, ik_29, ik_30, ik_31, ik_32, ik_33, ik_34, ik_35, ik_36, ik_127, ik_128, ik_200, ik_201, ik_255, ik_256, ik_272, ik_289, ik_400, ik_512] at *) <;> omega)).symm | exact (zb_f (by (try simp only [i_lt, i_le, i_eq, i_0, ik_0, ik_1, ik_2, ik_3, ik_4, ik_5, ik_6, ik_7, ik_8, ik_9, ik_10, ik_11, ik_12, ik_13, ik_14, ik_15, ik_16, ik_17, ik_18, ik_19, ik_20, ik_21, ik_22, ik_23, ik_24, ik_25, ik_26, ik_27, ik_28, ik_29, ik_30, ik_31, ik_32, ik_33, ik_34, ik_35, ik_36, ik_127, ik_128, ik_200, ik_201, ik_255, ik_256, ik_272, ik_289, ik_400, ik_512] at *) <;> omega)).symm
  · refine R_iconst (q := 10) (v := nI 1) rfl rfl (by decide) ?_
    refine R_goto (t := 14) rfl rfl ?_
    refine R_zreturn rfl rfl (by first | exact Or.inl rfl | exact Or.inr rfl | assumption) ?_
    refine ⟨congrArg some (congrArg Value.int ?_), rfl⟩
    first | exact (zb_t (by (try simp only [i_lt, i_le, i_eq, i_0, ik_0, ik_1, ik_2, ik_3, ik_4, ik_5, ik_6, ik_7, ik_8, ik_9, ik_10, ik_11, ik_12, ik_13, ik_14, ik_15, ik_16, ik_17, ik_18, ik_19, ik_20, ik_21, ik_22, ik_23, ik_24, ik_25, ik_26, ik_27, ik_28, ik_29, ik_30, ik_31, ik_32, ik_33, ik_34, ik_35, ik_36, ik_127, ik_128, ik_200, ik_201, ik_255, ik_256, ik_272, ik_289, ik_400, ik_512] at *) <;> omega)).symm | exact (zb_f (by (try simp only [i_lt, i_le, i_eq, i_0, ik_0, ik_1, ik_2, ik_3, ik_4, ik_5, ik_6, ik_7, ik_8, ik_9, ik_10, ik_11, ik_12, ik_13, ik_14, ik_15, ik_16, ik_17, ik_18, ik_19, ik_20, ik_21, ik_22, ik_23, ik_24, ik_25, ik_26, ik_27, ik_28, ik_29, ik_30, ik_31, ik_32, ik_33, ik_34, ik_35, ik_36, ik_127, ik_128, ik_200, ik_201, ik_255, ik_256, ik_272, ik_289, ik_400, ik_512] at *) <;> omega)).symm
set_option maxRecDepth 8000 in
theorem c24 {i : Nat} (hi : i < 32) : mm_R S (d + 1) 24 0 (mm_en 24 [.ref 35, .int (nI i)]) [] (chm M co ln st en to pa nI0 lvI ch tr) (fun v M' => v = some (.int (zb (bt ch i))) ∧ M' = (chm M co ln st en to pa nI0 lvI ch tr)) := by
  show mm_R S (d + 1) 24 0 [some (.ref 35), some (.int (nI i))] [] (chm M co ln st en to pa nI0 lvI ch tr) _
  refine R_aload_n (q := 1) rfl rfl rfl ?_
  refine R_getf (q := 4) rfl rfl rfl ch_35 rfl ?_
  refine R_iload_n (q := 5) rfl rfl rfl ?_
  refine R_calls2 (q := 8) rfl rfl rfl rfl (Nat.le_of_ble_eq_true rfl) rfl ?_
  refine R_mono (c142 hi) (fun v5 M5 hr5 => ?_)
  obtain ⟨rfl, hm5⟩ := hr5
  rw [hm5]
  dsimp only [Option.toList, List.cons_append, List.nil_append]
  refine R_zreturn rfl rfl (zb_01 _) ?_
  exact ⟨rfl, rfl⟩
set_option maxRecDepth 8000 in
theorem c25 {i : Nat} (hi : i < 1000) (hlv : lv < 1000) : mm_R S d 25 0 (mm_en 25 [.ref 35, .int (nI i)]) [] (chm M co ln st en to pa (nI n) (nI lv) ch tr) (fun v M' => v = some (.int (zb (decide (i < lv)))) ∧ M' = (chm M co ln st en to pa (nI n) (nI lv) ch tr)) := by
  have hii := i_n i (by omega)
  have hll := i_n lv (by omega)
  show mm_R S d 25 0 [some (.ref 35), some (.int (nI i))] [] (chm M co ln st en to pa (nI n) (nI lv) ch tr) _
  refine R_iload_n (q := 1) rfl rfl rfl ?_
  refine R_aload_n (q := 2) rfl rfl rfl ?_
  refine R_getf (q := 5) rfl rfl rfl ch_35 rfl ?_
  refine R_icmp_ge (q := 8) (t := 12) rfl rfl rfl (fun h5 => ?_) (fun h5 => ?_)
  · refine R_iconst (q := 13) (v := nI 0) rfl rfl (by decide) ?_
    refine R_zreturn rfl rfl (by first | exact Or.inl rfl | exact Or.inr rfl | assumption) ?_
    refine ⟨congrArg some (congrArg Value.int ?_), rfl⟩
    first | exact (zb_t (by (try simp only [i_lt, i_le, i_eq, i_0, ik_0, ik_1, ik_2, ik_3, ik_4, ik_5, ik_6, ik_7, ik_8, ik_9, ik_10, ik_11, ik_12, ik_13, ik_14, ik_15, ik_16, ik_17, ik_18, ik_19, ik_20, ik_21, ik_22, ik_23, ik_24, ik_25, ik_26, ik_27, ik_28, ik_29, ik_30, ik_31, ik_32, ik_33, ik_34, ik_35, ik_36, ik_127, ik_128, ik_200, ik_201, ik_255, ik_256, ik_272, ik_289, ik_400, ik_512] at *) <;> omega)).symm | exact (zb_f (by (try simp only [i_lt, i_le, i_eq, i_0, ik_0, ik_1, ik_2, ik_3, ik_4, ik_5, ik_6, ik_7, ik_8, ik_9, ik_10, ik_11, ik_12, ik_13, ik_14, ik_15, ik_16, ik_17, ik_18, ik_19, ik_20, ik_21, ik_22, ik_23, ik_24, ik_25, ik_26, ik_27, ik_28, ik_29, ik_30, ik_31, ik_32, ik_33, ik_34, ik_35, ik_36, ik_127, ik_128, ik_200, ik_201, ik_255, ik_256, ik_272, ik_289, ik_400, ik_512] at *) <;> omega)).symm
  · refine R_iconst (q := 9) (v := nI 1) rfl rfl (by decide) ?_
    refine R_goto (t := 13) rfl rfl ?_
    refine R_zreturn rfl rfl (by first | exact Or.inl rfl | exact Or.inr rfl | assumption) ?_
    refine ⟨congrArg some (congrArg Value.int ?_), rfl⟩
    first | exact (zb_t (by (try simp only [i_lt, i_le, i_eq, i_0, ik_0, ik_1, ik_2, ik_3, ik_4, ik_5, ik_6, ik_7, ik_8, ik_9, ik_10, ik_11, ik_12, ik_13, ik_14, ik_15, ik_16, ik_17, ik_18, ik_19, ik_20, ik_21, ik_22, ik_23, ik_24, ik_25, ik_26, ik_27, ik_28, ik_29, ik_30, ik_31, ik_32, ik_33, ik_34, ik_35, ik_36, ik_127, ik_128, ik_200, ik_201, ik_255, ik_256, ik_272, ik_289, ik_400, ik_512] at *) <;> omega)).symm | exact (zb_f (by (try simp only [i_lt, i_le, i_eq, i_0, ik_0, ik_1, ik_2, ik_3, ik_4, ik_5, ik_6, ik_7, ik_8, ik_9, ik_10, ik_11, ik_12, ik_13, ik_14, ik_15, ik_16, ik_17, ik_18, ik_19, ik_20, ik_21, ik_22, ik_23, ik_24, ik_25, ik_26, ik_27, ik_28, ik_29, ik_30, ik_31, ik_32, ik_33, ik_34, ik_35, ik_36, ik_127, ik_128, ik_200, ik_201, ik_255, ik_256, ik_272, ik_289, ik_400, ik_512] at *) <;> omega)).symm
set_option maxRecDepth 8000 in
theorem c26 {i : Nat} (hi : i < 14) : mm_R S d 26 0 (mm_en 26 [.ref 35, .int (nI i)]) [] (chm M co ln st en to pa nI0 lvI ch tr) (fun v M' => v = some (.int (ln i)) ∧ M' = (chm M co ln st en to pa nI0 lvI ch tr)) := by
  show mm_R S d 26 0 [some (.ref 35), some (.int (nI i))] [] (chm M co ln st en to pa nI0 lvI ch tr) _
  refine R_aload_n (q := 1) rfl rfl rfl ?_
  refine R_getf (q := 4) rfl rfl rfl ch_35 rfl ?_
  refine R_iload_n (q := 5) rfl rfl rfl ?_
  refine R_iaload (q := 6) rfl rfl ch_37 (by omega) (by first | assumption | exact in_nI (by omega) (by decide)) ?_
  rw [cl_nI (by omega)]
  refine R_ireturn rfl rfl ?_
  exact ⟨rfl, rfl⟩
set_option maxRecDepth 8000 in
theorem c27 {i : Nat} (hi : i < 14) : mm_R S d 27 0 (mm_en 27 [.ref 35, .int (nI i)]) [] (chm M co ln st en to pa nI0 lvI ch tr) (fun v M' => v = some (.int (st i)) ∧ M' = (chm M co ln st en to pa nI0 lvI ch tr)) := by
  show mm_R S d 27 0 [some (.ref 35), some (.int (nI i))] [] (chm M co ln st en to pa nI0 lvI ch tr) _
  refine R_aload_n (q := 1) rfl rfl rfl ?_
  refine R_getf (q := 4) rfl rfl rfl ch_35 rfl ?_
  refine R_iload_n (q := 5) rfl rfl rfl ?_
  refine R_iaload (q := 6) rfl rfl ch_38 (by omega) (by first | assumption | exact in_nI (by omega) (by decide)) ?_
  rw [cl_nI (by omega)]
  refine R_ireturn rfl rfl ?_
  exact ⟨rfl, rfl⟩
set_option maxRecDepth 8000 in
theorem c28 {i : Nat} (hi : i < 14) : mm_R S d 28 0 (mm_en 28 [.ref 35, .int (nI i)]) [] (chm M co ln st en to pa nI0 lvI ch tr) (fun v M' => v = some (.int (en i)) ∧ M' = (chm M co ln st en to pa nI0 lvI ch tr)) := by
  show mm_R S d 28 0 [some (.ref 35), some (.int (nI i))] [] (chm M co ln st en to pa nI0 lvI ch tr) _
  refine R_aload_n (q := 1) rfl rfl rfl ?_
  refine R_getf (q := 4) rfl rfl rfl ch_35 rfl ?_
  refine R_iload_n (q := 5) rfl rfl rfl ?_
  refine R_iaload (q := 6) rfl rfl ch_39 (by omega) (by first | assumption | exact in_nI (by omega) (by decide)) ?_
  rw [cl_nI (by omega)]
  refine R_ireturn rfl rfl ?_
  exact ⟨rfl, rfl⟩
def row17 (c : Nat → Int32) (y : Int32) : Int32 := if 0 ≤ y.toInt ∧ y.toInt ≤ 16 then c y.toNatClampNeg else nI 0
set_option maxRecDepth 8000 in
theorem c23 {y : Int32} : mm_R S d 23 0 (mm_en 23 [.ref 35, .int y]) [] (chm M co ln st en to pa nI0 lvI ch tr) (fun v M' => v = some (.int (row17 co y)) ∧ M' = (chm M co ln st en to pa nI0 lvI ch tr)) := by
  unfold row17
  show mm_R S d 23 0 [some (.ref 35), some (.int y)] [] (chm M co ln st en to pa nI0 lvI ch tr) _
  refine R_iload_n (q := 1) rfl rfl rfl ?_
  refine R_if_lt (q := 4) (t := 19) rfl rfl rfl (fun h1 => ?_) (fun h1 => ?_)
  · refine R_iconst (q := 20) (v := nI 0) rfl rfl (by decide) ?_
    refine R_ireturn rfl rfl ?_
    refine ⟨congrArg some (congrArg Value.int ?_), rfl⟩
    first | exact (if_pos (by (try simp only [i_lt, i_le, i_eq, i_0, ik_0, ik_1, ik_2, ik_3, ik_4, ik_5, ik_6, ik_7, ik_8, ik_9, ik_10, ik_11, ik_12, ik_13, ik_14, ik_15, ik_16, ik_17, ik_18, ik_19, ik_20, ik_21, ik_22, ik_23, ik_24, ik_25, ik_26, ik_27, ik_28, ik_29, ik_30, ik_31, ik_32, ik_33, ik_34, ik_35, ik_36, ik_127, ik_128, ik_200, ik_201, ik_255, ik_256, ik_272, ik_289, ik_400, ik_512] at *) <;> omega)).symm | exact (if_neg (by (try simp only [i_lt, i_le, i_eq, i_0, ik_0, ik_1, ik_2, ik_3, ik_4, ik_5, ik_6, ik_7, ik_8, ik_9, ik_10, ik_11, ik_12, ik_13, ik_14, ik_15, ik_16, ik_17, ik_18, ik_19, ik_20, ik_21, ik_22, ik_23, ik_24, ik_25, ik_26, ik_27, ik_28, ik_29, ik_30, ik_31, ik_32, ik_33, ik_34, ik_35, ik_36, ik_127, ik_128, ik_200, ik_201, ik_255, ik_256, ik_272, ik_289, ik_400, ik_512] at *) <;> omega)).symm
  · refine R_iload_n (q := 5) rfl rfl rfl ?_
    refine R_bipush (q := 7) (v := nI 16) rfl rfl (by decide) ?_
    refine R_icmp_gt (q := 10) (t := 19) rfl rfl rfl (fun h7 => ?_) (fun h7 => ?_)
    · refine R_iconst (q := 20) (v := nI 0) rfl rfl (by decide) ?_
      refine R_ireturn rfl rfl ?_
      refine ⟨congrArg some (congrArg Value.int ?_), rfl⟩
      first | exact (if_pos (by (try simp only [i_lt, i_le, i_eq, i_0, ik_0, ik_1, ik_2, ik_3, ik_4, ik_5, ik_6, ik_7, ik_8, ik_9, ik_10, ik_11, ik_12, ik_13, ik_14, ik_15, ik_16, ik_17, ik_18, ik_19, ik_20, ik_21, ik_22, ik_23, ik_24, ik_25, ik_26, ik_27, ik_28, ik_29, ik_30, ik_31, ik_32, ik_33, ik_34, ik_35, ik_36, ik_127, ik_128, ik_200, ik_201, ik_255, ik_256, ik_272, ik_289, ik_400, ik_512] at *) <;> omega)).symm | exact (if_neg (by (try simp only [i_lt, i_le, i_eq, i_0, ik_0, ik_1, ik_2, ik_3, ik_4, ik_5, ik_6, ik_7, ik_8, ik_9, ik_10, ik_11, ik_12, ik_13, ik_14, ik_15, ik_16, ik_17, ik_18, ik_19, ik_20, ik_21, ik_22, ik_23, ik_24, ik_25, ik_26, ik_27, ik_28, ik_29, ik_30, ik_31, ik_32, ik_33, ik_34, ik_35, ik_36, ik_127, ik_128, ik_200, ik_201, ik_255, ik_256, ik_272, ik_289, ik_400, ik_512] at *) <;> omega)).symm
    · refine R_aload_n (q := 11) rfl rfl rfl ?_
      refine R_getf (q := 14) rfl rfl rfl ch_35 rfl ?_
      refine R_iload_n (q := 15) rfl rfl rfl ?_
      refine R_iaload (q := 16) rfl rfl ch_36 (by omega) (vp_in_iff.mpr (by (try simp only [i_lt, i_le, i_eq, i_0, ik_0, ik_1, ik_2, ik_3, ik_4, ik_5, ik_6, ik_7, ik_8, ik_9, ik_10, ik_11, ik_12, ik_13, ik_14, ik_15, ik_16, ik_17, ik_18, ik_19, ik_20, ik_21, ik_22, ik_23, ik_24, ik_25, ik_26, ik_27, ik_28, ik_29, ik_30, ik_31, ik_32, ik_33, ik_34, ik_35, ik_36, ik_127, ik_128, ik_200, ik_201, ik_255, ik_256, ik_272, ik_289, ik_400, ik_512] at *) <;> omega)) ?_
      refine R_goto (t := 20) rfl rfl ?_
      refine R_ireturn rfl rfl ?_
      refine ⟨congrArg some (congrArg Value.int ?_), rfl⟩
      first | exact (if_pos (by (try simp only [i_lt, i_le, i_eq, i_0, ik_0, ik_1, ik_2, ik_3, ik_4, ik_5, ik_6, ik_7, ik_8, ik_9, ik_10, ik_11, ik_12, ik_13, ik_14, ik_15, ik_16, ik_17, ik_18, ik_19, ik_20, ik_21, ik_22, ik_23, ik_24, ik_25, ik_26, ik_27, ik_28, ik_29, ik_30, ik_31, ik_32, ik_33, ik_34, ik_35, ik_36, ik_127, ik_128, ik_200, ik_201, ik_255, ik_256, ik_272, ik_289, ik_400, ik_512] at *) <;> omega)).symm | exact (if_neg (by (try simp only [i_lt, i_le, i_eq, i_0, ik_0, ik_1, ik_2, ik_3, ik_4, ik_5, ik_6, ik_7, ik_8, ik_9, ik_10, ik_11, ik_12, ik_13, ik_14, ik_15, ik_16, ik_17, ik_18, ik_19, ik_20, ik_21, ik_22, ik_23, ik_24, ik_25, ik_26, ik_27, ik_28, ik_29, ik_30, ik_31, ik_32, ik_33, ik_34, ik_35, ik_36, ik_127, ik_128, ik_200, ik_201, ik_255, ik_256, ik_272, ik_289, ik_400, ik_512] at *) <;> omega)).symm
set_option maxRecDepth 8000 in
theorem c32 {x y : Nat} (hx : x < 32) (hy : y < 17) : mm_R S (d + 1) 32 0 (mm_en 32 [.ref 35, .int (nI x), .int (nI y)]) [] (chm M co ln st en to pa nI0 lvI ch tr) (fun v M' => v = some (.int (zb (bt (co y) x))) ∧ M' = (chm M co ln st en to pa nI0 lvI ch tr)) := by
  show mm_R S (d + 1) 32 0 [some (.ref 35), some (.int (nI x)), some (.int (nI y))] [] (chm M co ln st en to pa nI0 lvI ch tr) _
  refine R_aload_n (q := 1) rfl rfl rfl ?_
  refine R_getf (q := 4) rfl rfl rfl ch_35 rfl ?_
  refine R_iload_n (q := 5) rfl rfl rfl ?_
  refine R_iaload (q := 6) rfl rfl ch_36 (by omega) (by first | assumption | exact in_nI (by omega) (by decide)) ?_
  rw [cl_nI (by omega)]
  refine R_iload_n (q := 7) rfl rfl rfl ?_
  refine R_calls2 (q := 10) rfl rfl rfl rfl (Nat.le_of_ble_eq_true rfl) rfl ?_
  refine R_mono (c142 hx) (fun v7 M7 hr7 => ?_)
  obtain ⟨rfl, hm7⟩ := hr7
  rw [hm7]
  dsimp only [Option.toList, List.cons_append, List.nil_append]
  refine R_zreturn rfl rfl (zb_01 _) ?_
  exact ⟨rfl, rfl⟩
set_option maxRecDepth 8000 in
theorem c22 : mm_R S (d + 1) 22 0 (mm_en 22 [.ref 35]) [] (chm M co ln st en to pa nI0 lvI ch tr) (fun v M' => v = some (.int (cntv co 17)) ∧ M' = (chm M co ln st en to pa nI0 lvI ch tr)) := by
  show mm_R S (d + 1) 22 0 [some (.ref 35), none, none] [] (chm M co ln st en to pa nI0 lvI ch tr) _
  refine R_iconst (q := 1) (v := nI 0) rfl rfl (by decide) ?_
  refine R_istore_n (q := 2) rfl rfl (Nat.le_of_ble_eq_true rfl) rfl ?_
  dsimp only [List.set]
  refine R_iconst (q := 3) (v := nI 0) rfl rfl (by decide) ?_
  refine R_istore_n (q := 4) rfl rfl (Nat.le_of_ble_eq_true rfl) rfl ?_
  dsimp only [List.set]
  refine lpN (fun j => mm_R S (d + 1) 22 4 [some (.ref 35), some (.int (cntv co j)), some (.int (nI j))] [] (chm M co ln st en to pa nI0 lvI ch tr) (fun v M' => v = some (.int (cntv co 17)) ∧ M' = (chm M co ln st en to pa nI0 lvI ch tr))) 17 (fun j hj ih => ?_) ?_ 0 (Nat.zero_le _)
  · skip
    refine R_iload_n (q := 5) rfl rfl rfl ?_
    refine R_bipush (q := 7) (v := nI 16) rfl rfl (by decide) ?_
    refine R_icmp_gt (q := 10) (t := 28) rfl rfl rfl (fun h7 => absurd h7 (nI_nlt (by omega) (by omega))) (fun h7 => ?_)
    refine R_iload_n (q := 11) rfl rfl rfl ?_
    refine R_aload_n (q := 12) rfl rfl rfl ?_
    refine R_getf (q := 15) rfl rfl rfl ch_35 rfl ?_
    refine R_iload_n (q := 16) rfl rfl rfl ?_
    refine R_iaload (q := 17) rfl rfl ch_36 (by omega) (by first | assumption | exact in_nI (by omega) (by decide)) ?_
    rw [cl_nI (by omega)]
    refine R_calls1 (q := 20) rfl rfl rfl rfl (Nat.le_of_ble_eq_true rfl) rfl ?_
    refine R_mono (c201) (fun v17 M17 hr17 => ?_)
    obtain ⟨rfl, hm17⟩ := hr17
    rw [hm17]
    dsimp only [Option.toList, List.cons_append, List.nil_append]
    refine R_iadd (q := 21) rfl rfl ?_
    refine R_istore_n (q := 22) rfl rfl (Nat.le_of_ble_eq_true rfl) rfl ?_
    dsimp only [List.set]
    refine R_iinc (q := 25) rfl rfl rfl (nI_i1 j) rfl ?_
    dsimp only [List.set]
    refine R_goto (t := 4) rfl rfl ?_
    exact ih
  · refine R_iload_n (q := 5) rfl rfl rfl ?_
    refine R_bipush (q := 7) (v := nI 16) rfl rfl (by decide) ?_
    refine R_icmp_gt (q := 10) (t := 28) rfl rfl rfl (fun h7 => ?_) (fun h7 => absurd (nI_lt (by decide) (by decide)) h7)
    refine R_iload_n (q := 29) rfl rfl rfl ?_
    refine R_ireturn rfl rfl ?_
    exact ⟨rfl, rfl⟩
def cornv (f : Nat → Int32) (y : Nat) : Int32 := ((((rm f y) <<< (nI 1 &&& 31)) &&& rm f y) &&& (((rowv f (nI y)) <<< (nI 1 &&& 31)) ^^^ rowv f (nI y))) ||| (((((rm f y) <<< (nI 1 &&& 31)) ^^^ rm f y) &&& ((rowv f (nI y)) <<< (nI 1 &&& 31))) &&& rowv f (nI y))
set_option maxRecDepth 8000 in
theorem c29 (ha : CA M a f) (haa : a + 1 < 35 ∨ 41 < a) : mm_R S (d + 1) 29 0 (mm_en 29 [.ref 35, .ref a]) [] (chm M co ln st en to pa nI0 lvI ch tr) (fun v M' => v = none ∧ M' = (chm M (ifl (cornv f) co 17) ln st en to pa nI0 lvI ch tr)) := by
  show mm_R S (d + 1) 29 0 [some (.ref 35), some (.ref a), none, none, none, none, none] [] (chm M co ln st en to pa nI0 lvI ch tr) _
  refine R_iconst (q := 1) (v := nI 0) rfl rfl (by decide) ?_
  refine R_istore_n (q := 2) rfl rfl (Nat.le_of_ble_eq_true rfl) rfl ?_
  dsimp only [List.set]
  refine R_atM (M' := (chm M (ifl (cornv f) co 0) ln st en to pa nI0 lvI ch tr)) (by rw [ifl_0]) ?_
  refine lpN (fun j => ∀ t3 t4 t5 t6 : Option Value, mm_R S (d + 1) 29 2 [some (.ref 35), some (.ref a), some (.int (nI j)), t3, t4, t5, t6] [] (chm M (ifl (cornv f) co j) ln st en to pa nI0 lvI ch tr) (fun v M' => v = none ∧ M' = (chm M (ifl (cornv f) co 17) ln st en to pa nI0 lvI ch tr))) 17 (fun j hj ih t3 t4 t5 t6 => ?_) (fun t3 t4 t5 t6 => ?_) 0 (Nat.zero_le _) none none none none
  · have hca := ch_CA (co := ifl (cornv f) co j) (ln := ln) (st := st) (en := en) (to := to) (pa := pa) (n := nI0) (lv := lvI) (ch := ch) (tr := tr) ha haa
    have hca1 := hca.1
    refine R_iload_n (q := 3) rfl rfl rfl ?_
    refine R_bipush (q := 5) (v := nI 16) rfl rfl (by decide) ?_
    refine R_icmp_gt (q := 8) (t := 67) rfl rfl rfl (fun h5 => absurd h5 (nI_nlt (by omega) (by omega))) (fun h5 => ?_)
    refine R_aload_n (q := 9) rfl rfl rfl ?_
    refine R_iload_n (q := 10) rfl rfl rfl ?_
    refine R_iconst (q := 11) (v := nI 1) rfl rfl (by decide) ?_
    refine R_isub (q := 12) rfl rfl ?_
    refine R_callv1 (q := 15) rfl rfl rfl rfl hca1 (Nat.le_of_ble_eq_true rfl) rfl ?_
    refine R_mono (c2 hca) (fun v12 M12 hr12 => ?_)
    obtain ⟨rfl, hm12⟩ := hr12
    rw [hm12]
    dsimp only [Option.toList, List.cons_append, List.nil_append]
    refine R_istore_n (q := 16) rfl rfl (Nat.le_of_ble_eq_true rfl) rfl ?_
    dsimp only [List.set]
    refine R_iload_n (q := 17) rfl rfl rfl ?_
    refine R_iconst (q := 18) (v := nI 1) rfl rfl (by decide) ?_
    refine R_ishl (q := 19) rfl rfl ?_
    refine R_istore (q := 21) rfl rfl (Nat.le_of_ble_eq_true rfl) rfl ?_
    dsimp only [List.set]
    refine R_aload_n (q := 22) rfl rfl rfl ?_
    refine R_iload_n (q := 23) rfl rfl rfl ?_
    refine R_callv1 (q := 26) rfl rfl rfl rfl hca1 (Nat.le_of_ble_eq_true rfl) rfl ?_
    refine R_mono (c2 hca) (fun v23 M23 hr23 => ?_)
    obtain ⟨rfl, hm23⟩ := hr23
    rw [hm23]
    dsimp only [Option.toList, List.cons_append, List.nil_append]
    refine R_istore (q := 28) rfl rfl (Nat.le_of_ble_eq_true rfl) rfl ?_
    dsimp only [List.set]
    refine R_iload (q := 30) rfl rfl rfl ?_
    refine R_iconst (q := 31) (v := nI 1) rfl rfl (by decide) ?_
    refine R_ishl (q := 32) rfl rfl ?_
    refine R_istore (q := 34) rfl rfl (Nat.le_of_ble_eq_true rfl) rfl ?_
    dsimp only [List.set]
    refine R_aload_n (q := 35) rfl rfl rfl ?_
    refine R_getf (q := 38) rfl rfl rfl ch_35 rfl ?_
    refine R_iload_n (q := 39) rfl rfl rfl ?_
    refine R_iload (q := 41) rfl rfl rfl ?_
    refine R_iload_n (q := 42) rfl rfl rfl ?_
    refine R_iand (q := 43) rfl rfl ?_
    refine R_iload (q := 45) rfl rfl rfl ?_
    refine R_iload (q := 47) rfl rfl rfl ?_
    refine R_ixor (q := 48) rfl rfl ?_
    refine R_iand (q := 49) rfl rfl ?_
    refine R_iload (q := 51) rfl rfl rfl ?_
    refine R_iload_n (q := 52) rfl rfl rfl ?_
    refine R_ixor (q := 53) rfl rfl ?_
    refine R_iload (q := 55) rfl rfl rfl ?_
    refine R_iand (q := 56) rfl rfl ?_
    refine R_iload (q := 58) rfl rfl rfl ?_
    refine R_iand (q := 59) rfl rfl ?_
    refine R_ior (q := 60) rfl rfl ?_
    refine R_iastore (q := 61) rfl rfl ch_36 (by first | assumption | exact in_nI (by omega) (by decide)) ?_
    refine R_iinc (q := 64) rfl rfl rfl (nI_i1 j) rfl ?_
    dsimp only [List.set]
    refine R_goto (t := 2) rfl rfl ?_
    refine R_atM ?_ (ih _ _ _ _)
    rw [ch_p36, cl_nI (by omega)]
    exact (congrArg (fun z => chm M z ln st en to pa nI0 lvI ch tr) (ifl_s (n := cornv f))).symm
  · refine R_iload_n (q := 3) rfl rfl rfl ?_
    refine R_bipush (q := 5) (v := nI 16) rfl rfl (by decide) ?_
    refine R_icmp_gt (q := 8) (t := 67) rfl rfl rfl (fun h5 => ?_) (fun h5 => absurd (nI_lt (by decide) (by decide)) h5)
    refine R_return rfl rfl ?_
    exact ⟨rfl, rfl⟩
/-- the chords that are kept: how many, their lines, starts, ends -/
abbrev KS : Type := Nat × (Nat → Int32) × (Nat → Int32) × (Nat → Int32)
def kp (s : KS) (x y z : Int32) : KS := if s.1 < 14 then (s.1 + 1, upd s.2.1 s.1 x, upd s.2.2.1 s.1 y, upd s.2.2.2 s.1 z) else (s.1 + 1, s.2.1, s.2.2.1, s.2.2.2)
def chk (M : mm_M) (co to pa : Nat → Int32) (lv ch tr : Int32) (s : KS) : mm_M := chm M co s.2.1 s.2.2.1 s.2.2.2 to pa (nI s.1) lv ch tr
set_option maxRecDepth 8000 in
theorem c33 {x y z : Int32} {s : KS} (hs : s.1 < 1000) : mm_R S d 33 0 (mm_en 33 [.ref 35, .int x, .int y, .int z]) [] (chk M co to pa lvI ch tr s) (fun v M' => v = none ∧ M' = chk M co to pa lvI ch tr (kp s x y z)) := by
  obtain ⟨n, ln, st, en⟩ := s
  have hs : n < 1000 := hs
  unfold kp chk
  dsimp only
  show mm_R S d 33 0 [some (.ref 35), some (.int x), some (.int y), some (.int z)] [] (chm M co ln st en to pa (nI n) lvI ch tr) _
  by_cases hn : n < 14
  · rw [if_pos hn]
    refine R_aload_n (q := 1) rfl rfl rfl ?_
    refine R_getf (q := 4) rfl rfl rfl ch_35 rfl ?_
    refine R_bipush (q := 6) (v := nI 14) rfl rfl (by decide) ?_
    refine R_icmp_ge (q := 9) (t := 39) rfl rfl rfl (fun h6 => absurd h6 (nI_ge hn (by decide))) (fun h6 => ?_)
    refine R_aload_n (q := 10) rfl rfl rfl ?_
    refine R_getf (q := 13) rfl rfl rfl ch_35 rfl ?_
    refine R_aload_n (q := 14) rfl rfl rfl ?_
    refine R_getf (q := 17) rfl rfl rfl ch_35 rfl ?_
    refine R_iload_n (q := 18) rfl rfl rfl ?_
    refine R_iastore (q := 19) rfl rfl ch_37 (by first | assumption | exact in_nI (by omega) (by decide)) ?_
    rw [cl_nI (by omega), ch_p37]
    refine R_aload_n (q := 20) rfl rfl rfl ?_
    refine R_getf (q := 23) rfl rfl rfl ch_35 rfl ?_
    refine R_aload_n (q := 24) rfl rfl rfl ?_
    refine R_getf (q := 27) rfl rfl rfl ch_35 rfl ?_
    refine R_iload_n (q := 28) rfl rfl rfl ?_
    refine R_iastore (q := 29) rfl rfl ch_38 (by first | assumption | exact in_nI (by omega) (by decide)) ?_
    rw [cl_nI (by omega), ch_p38]
    refine R_aload_n (q := 30) rfl rfl rfl ?_
    refine R_getf (q := 33) rfl rfl rfl ch_35 rfl ?_
    refine R_aload_n (q := 34) rfl rfl rfl ?_
    refine R_getf (q := 37) rfl rfl rfl ch_35 rfl ?_
    refine R_iload_n (q := 38) rfl rfl rfl ?_
    refine R_iastore (q := 39) rfl rfl ch_39 (by first | assumption | exact in_nI (by omega) (by decide)) ?_
    rw [cl_nI (by omega), ch_p39]
    refine R_aload_n (q := 40) rfl rfl rfl ?_
    first | refine R_dupa (q := 41) rfl rfl ?_ | refine R_dupi (q := 41) rfl rfl ?_
    refine R_getf (q := 44) rfl rfl rfl ch_35 rfl ?_
    refine R_iconst (q := 45) (v := nI 1) rfl rfl (by decide) ?_
    refine R_iadd (q := 46) rfl rfl ?_
    rw [nI_add]
    refine R_putf (q := 49) rfl rfl rfl ch_35 (Nat.le_of_ble_eq_true rfl) rfl (fun hf => absurd hf (by decide)) rfl ?_
    dsimp only [List.set]
    refine R_return rfl rfl ?_
    exact ⟨rfl, ch_p35⟩
  · rw [if_neg hn]
    refine R_aload_n (q := 1) rfl rfl rfl ?_
    refine R_getf (q := 4) rfl rfl rfl ch_35 rfl ?_
    refine R_bipush (q := 6) (v := nI 14) rfl rfl (by decide) ?_
    refine R_icmp_ge (q := 9) (t := 39) rfl rfl rfl (fun h6 => ?_) (fun h6 => absurd (nI_le (by omega) (by omega)) h6)
    refine R_aload_n (q := 40) rfl rfl rfl ?_
    first | refine R_dupa (q := 41) rfl rfl ?_ | refine R_dupi (q := 41) rfl rfl ?_
    refine R_getf (q := 44) rfl rfl rfl ch_35 rfl ?_
    refine R_iconst (q := 45) (v := nI 1) rfl rfl (by decide) ?_
    refine R_iadd (q := 46) rfl rfl ?_
    rw [nI_add]
    refine R_putf (q := 49) rfl rfl rfl ch_35 (Nat.le_of_ble_eq_true rfl) rfl (fun hf => absurd hf (by decide)) rfl ?_
    dsimp only [List.set]
    refine R_return rfl rfl ?_
    exact ⟨rfl, ch_p35⟩
def lvx (inn : Int32) (C : Nat → Bool) (y : Nat) : Nat → Nat → KS → KS
  | 0, _, s => s
  | k + 1, x, s => lvx inn C y k (x + 1) (if C x = true ∧ x < re (bt inn) (16 - x) x ∧ C (re (bt inn) (16 - x) x) = true then kp s (nI y) (nI x) (nI (re (bt inn) (16 - x) x)) else s)
def lvy (I : Nat → Int32) (C : Nat → Nat → Bool) : Nat → Nat → KS → KS
  | 0, _, s => s
  | k + 1, y, s => lvy I C k (y + 1) (lvx (I y) (C y) y 15 1 s)
theorem kp_le {s : KS} {x y z : Int32} {b : Nat} (h : s.1 ≤ b) : (kp s x y z).1 ≤ b + 1 := by
  unfold kp
  split <;> exact Nat.add_le_add_right h 1
theorem lvx_le {inn : Int32} {C : Nat → Bool} {y : Nat} : ∀ k x s b, s.1 ≤ b → (lvx inn C y k x s).1 ≤ b + k := by
  intro k
  induction k with
  | zero => intro x s b h; exact h
  | succ k ih =>
    intro x s b h
    have := ih (x + 1) (if C x = true ∧ x < re (bt inn) (16 - x) x ∧ C (re (bt inn) (16 - x) x) = true then kp s (nI y) (nI x) (nI (re (bt inn) (16 - x) x)) else s) (b + 1) (by
      split
      · exact kp_le h
      · omega)
    show (lvx inn C y k (x + 1) _).1 ≤ _
    omega
theorem lvy_le {I : Nat → Int32} {C : Nat → Nat → Bool} : ∀ k y s b, s.1 ≤ b → (lvy I C k y s).1 ≤ b + 15 * k := by
  intro k
  induction k with
  | zero => intro y s b h; exact h
  | succ k ih =>
    intro y s b h
    have := ih (y + 1) (lvx (I y) (C y) y 15 1 s) (b + 15) (lvx_le 15 1 s b h)
    show (lvy I C k (y + 1) _).1 ≤ _
    omega
set_option maxRecDepth 8000 in
theorem c30_loop (ha : CA M a f) (haa : a + 1 < 35 ∨ 41 < a) : ∀ (k y : Nat) (s : KS) (t3 t4 t5 : Option Value), y + k = 16 → 1 ≤ y → s.1 ≤ 900 - 15 * k → mm_R S (d + 2) 30 2 [some (.ref 35), some (.ref a), some (.int (nI y)), t3, t4, t5] [] (chk M co to pa lvI ch tr s) (fun v M' => v = none ∧ M' = (chk M co to pa lvI ch tr (lvy (fun y => rm f y &&& rowv f (nI y)) (fun y x => bt (co y) x) k y s))) := by
  intro k
  induction k with
  | zero =>
    intro y s t3 t4 t5 hy hy1 hs
    refine R_iload_n (q := 3) rfl rfl rfl ?_
    refine R_bipush (q := 5) (v := nI 16) rfl rfl (by decide) ?_
    refine R_icmp_ge (q := 8) (t := 93) rfl rfl rfl (fun h5 => ?_) (fun h5 => absurd (nI_le (by omega) (by omega)) h5)
    refine R_return rfl rfl ?_
    exact ⟨rfl, rfl⟩
  | succ k ih =>
    intro y s t3 t4 t5 hy hy1 hs
    have hin : ∀ (j x : Nat) (s : KS) (t5 : Option Value), x + j = 16 → 1 ≤ x → s.1 ≤ 900 - 15 * k - j → mm_R S (d + 2) 30 25 [some (.ref 35), some (.ref a), some (.int (nI y)), some (.int (rm f y &&& rowv f (nI y))), some (.int (nI x)), t5] [] (chk M co to pa lvI ch tr s) (fun v M' => v = none ∧ M' = (chk M co to pa lvI ch tr (lvy (fun y => rm f y &&& rowv f (nI y)) (fun y x => bt (co y) x) k (y + 1) (lvx (rm f y &&& rowv f (nI y)) (fun x => bt (co y) (x)) y j x s)))) := by
      intro j
      induction j with
      | zero =>
        intro x s t5 hx hx1 hs
        refine R_iload (q := 27) rfl rfl rfl ?_
        refine R_bipush (q := 29) (v := nI 16) rfl rfl (by decide) ?_
        refine R_icmp_ge (q := 32) (t := 87) rfl rfl rfl (fun h29 => ?_) (fun h29 => absurd (nI_le (by omega) (by omega)) h29)
        refine R_iinc (q := 90) rfl rfl rfl (nI_i1 y) rfl ?_
        dsimp only [List.set]
        refine R_goto (t := 2) rfl rfl ?_
        exact ih (y + 1) s _ _ _ (by omega) (by omega) (by omega)
      | succ j ihj =>
        intro x s t5 hx hx1 hs
        have hre := re_ge (bt (rm f y &&& rowv f (nI y))) (16 - x) x
        have hk := ihj (x + 1) (if (bt (co y) (x)) = true ∧ x < re (bt (rm f y &&& rowv f (nI y))) (16 - x) x ∧ (bt (co y) (re (bt (rm f y &&& rowv f (nI y))) (16 - x) x)) = true then kp s (nI y) (nI x) (nI (re (bt (rm f y &&& rowv f (nI y))) (16 - x) x)) else s)
        have hst : lvx (rm f y &&& rowv f (nI y)) (fun x => bt (co y) (x)) y (j + 1) x s = lvx (rm f y &&& rowv f (nI y)) (fun x => bt (co y) (x)) y j (x + 1) (if (bt (co y) (x)) = true ∧ x < re (bt (rm f y &&& rowv f (nI y))) (16 - x) x ∧ (bt (co y) (re (bt (rm f y &&& rowv f (nI y))) (16 - x) x)) = true then kp s (nI y) (nI x) (nI (re (bt (rm f y &&& rowv f (nI y))) (16 - x) x)) else s) := rfl
        refine R_iload (q := 27) rfl rfl rfl ?_
        refine R_bipush (q := 29) (v := nI 16) rfl rfl (by decide) ?_
        refine R_icmp_ge (q := 32) (t := 87) rfl rfl rfl (fun h29 => absurd h29 (nI_ge (by omega) (by omega))) (fun h29 => ?_)
        refine R_aload_n (q := 33) rfl rfl rfl ?_
        refine R_iload (q := 35) rfl rfl rfl ?_
        refine R_iload_n (q := 36) rfl rfl rfl ?_
        refine R_callv2 (q := 39) rfl rfl rfl rfl rfl (Nat.le_of_ble_eq_true rfl) rfl ?_
        refine R_mono (c32 (by omega) (by omega)) (fun v36 M36 hr36 => ?_)
        obtain ⟨rfl, hm36⟩ := hr36
        rw [hm36]
        dsimp only [Option.toList, List.cons_append, List.nil_append]
        refine R_if_eq (q := 42) (t := 51) rfl rfl rfl (fun h39 => ?_) (fun h39 => ?_)
        · refine R_iload (q := 53) rfl rfl rfl ?_
          refine R_istore (q := 55) rfl rfl (Nat.le_of_ble_eq_true rfl) rfl ?_
          dsimp only [List.set]
          refine R_iload (q := 57) rfl rfl rfl ?_
          refine R_iload (q := 59) rfl rfl rfl ?_
          refine R_icmp_le (q := 62) (t := 81) rfl rfl rfl (fun h59 => ?_) (fun h59 => ?_)
          · refine R_iinc (q := 84) rfl rfl rfl (nI_i1 x) rfl ?_
            dsimp only [List.set]
            refine R_goto (t := 25) rfl rfl ?_
            first
              | exact absurd (nI_le (Nat.le_refl x) (by omega)) h59
              | (have q1 := zb_ne0.mp h39
                 have q2 := nI_lt_of2 h59 (by omega)
                 have q3 := zb_ne0.mp h69
                 rw [hst, if_pos ⟨q1, q2, q3⟩]
                 rw [if_pos ⟨q1, q2, q3⟩] at hk
                 exact hk _ (by omega) (by omega) (by have := kp_le (s := s) (x := nI y) (y := nI x) (z := nI (re (bt (rm f y &&& rowv f (nI y))) (16 - x) x)) (b := 900 - 15 * k - (j + 1)) (by omega); omega))
              | (have hno : ¬ ((bt (co y) (x)) = true ∧ x < re (bt (rm f y &&& rowv f (nI y))) (16 - x) x ∧ (bt (co y) (re (bt (rm f y &&& rowv f (nI y))) (16 - x) x)) = true) := by
                   rintro ⟨q1, q2, q3⟩
                   first
                     | (rw [zb_eq0.mp h39] at q1; cases q1; done)
                     | (rw [zb_eq0.mp h69] at q3; cases q3; done)
                     | exact absurd h59 (nI_ge q2 (by omega))
                 rw [hst, if_neg hno]
                 rw [if_neg hno] at hk
                 exact hk _ (by omega) (by omega) (by omega))
          · refine R_aload_n (q := 63) rfl rfl rfl ?_
            refine R_iload (q := 65) rfl rfl rfl ?_
            refine R_iload_n (q := 66) rfl rfl rfl ?_
            refine R_callv2 (q := 69) rfl rfl rfl rfl rfl (Nat.le_of_ble_eq_true rfl) rfl ?_
            refine R_mono (c32 (by omega) (by omega)) (fun v66 M66 hr66 => ?_)
            obtain ⟨rfl, hm66⟩ := hr66
            rw [hm66]
            dsimp only [Option.toList, List.cons_append, List.nil_append]
            refine R_if_eq (q := 72) (t := 81) rfl rfl rfl (fun h69 => ?_) (fun h69 => ?_)
            · refine R_iinc (q := 84) rfl rfl rfl (nI_i1 x) rfl ?_
              dsimp only [List.set]
              refine R_goto (t := 25) rfl rfl ?_
              first
                | exact absurd (nI_le (Nat.le_refl x) (by omega)) h59
                | (have q1 := zb_ne0.mp h39
                   have q2 := nI_lt_of2 h59 (by omega)
                   have q3 := zb_ne0.mp h69
                   rw [hst, if_pos ⟨q1, q2, q3⟩]
                   rw [if_pos ⟨q1, q2, q3⟩] at hk
                   exact hk _ (by omega) (by omega) (by have := kp_le (s := s) (x := nI y) (y := nI x) (z := nI (re (bt (rm f y &&& rowv f (nI y))) (16 - x) x)) (b := 900 - 15 * k - (j + 1)) (by omega); omega))
                | (have hno : ¬ ((bt (co y) (x)) = true ∧ x < re (bt (rm f y &&& rowv f (nI y))) (16 - x) x ∧ (bt (co y) (re (bt (rm f y &&& rowv f (nI y))) (16 - x) x)) = true) := by
                     rintro ⟨q1, q2, q3⟩
                     first
                       | (rw [zb_eq0.mp h39] at q1; cases q1; done)
                       | (rw [zb_eq0.mp h69] at q3; cases q3; done)
                       | exact absurd h59 (nI_ge q2 (by omega))
                   rw [hst, if_neg hno]
                   rw [if_neg hno] at hk
                   exact hk _ (by omega) (by omega) (by omega))
            · refine R_aload_n (q := 73) rfl rfl rfl ?_
              refine R_iload_n (q := 74) rfl rfl rfl ?_
              refine R_iload (q := 76) rfl rfl rfl ?_
              refine R_iload (q := 78) rfl rfl rfl ?_
              refine R_callv3 (q := 81) rfl rfl rfl rfl rfl (Nat.le_of_ble_eq_true rfl) rfl ?_
              refine R_mono (c33 (by omega)) (fun v78 M78 hr78 => ?_)
              obtain ⟨rfl, hm78⟩ := hr78
              rw [hm78]
              dsimp only [Option.toList, List.cons_append, List.nil_append]
              refine R_iinc (q := 84) rfl rfl rfl (nI_i1 x) rfl ?_
              dsimp only [List.set]
              refine R_goto (t := 25) rfl rfl ?_
              first
                | exact absurd (nI_le (Nat.le_refl x) (by omega)) h59
                | (have q1 := zb_ne0.mp h39
                   have q2 := nI_lt_of2 h59 (by omega)
                   have q3 := zb_ne0.mp h69
                   rw [hst, if_pos ⟨q1, q2, q3⟩]
                   rw [if_pos ⟨q1, q2, q3⟩] at hk
                   exact hk _ (by omega) (by omega) (by have := kp_le (s := s) (x := nI y) (y := nI x) (z := nI (re (bt (rm f y &&& rowv f (nI y))) (16 - x) x)) (b := 900 - 15 * k - (j + 1)) (by omega); omega))
                | (have hno : ¬ ((bt (co y) (x)) = true ∧ x < re (bt (rm f y &&& rowv f (nI y))) (16 - x) x ∧ (bt (co y) (re (bt (rm f y &&& rowv f (nI y))) (16 - x) x)) = true) := by
                     rintro ⟨q1, q2, q3⟩
                     first
                       | (rw [zb_eq0.mp h39] at q1; cases q1; done)
                       | (rw [zb_eq0.mp h69] at q3; cases q3; done)
                       | exact absurd h59 (nI_ge q2 (by omega))
                   rw [hst, if_neg hno]
                   rw [if_neg hno] at hk
                   exact hk _ (by omega) (by omega) (by omega))
        · refine R_iload_n (q := 43) rfl rfl rfl ?_
          refine R_iload (q := 45) rfl rfl rfl ?_
          refine R_calls2 (q := 48) rfl rfl rfl rfl (Nat.le_of_ble_eq_true rfl) rfl ?_
          refine R_mono (c144 (by omega)) (fun v45 M45 hr45 => ?_)
          obtain ⟨rfl, hm45⟩ := hr45
          rw [hm45]
          dsimp only [Option.toList, List.cons_append, List.nil_append]
          refine R_goto (t := 53) rfl rfl ?_
          refine R_istore (q := 55) rfl rfl (Nat.le_of_ble_eq_true rfl) rfl ?_
          dsimp only [List.set]
          refine R_iload (q := 57) rfl rfl rfl ?_
          refine R_iload (q := 59) rfl rfl rfl ?_
          refine R_icmp_le (q := 62) (t := 81) rfl rfl rfl (fun h59 => ?_) (fun h59 => ?_)
          · refine R_iinc (q := 84) rfl rfl rfl (nI_i1 x) rfl ?_
            dsimp only [List.set]
            refine R_goto (t := 25) rfl rfl ?_
            first
              | exact absurd (nI_le (Nat.le_refl x) (by omega)) h59
              | (have q1 := zb_ne0.mp h39
                 have q2 := nI_lt_of2 h59 (by omega)
                 have q3 := zb_ne0.mp h69
                 rw [hst, if_pos ⟨q1, q2, q3⟩]
                 rw [if_pos ⟨q1, q2, q3⟩] at hk
                 exact hk _ (by omega) (by omega) (by have := kp_le (s := s) (x := nI y) (y := nI x) (z := nI (re (bt (rm f y &&& rowv f (nI y))) (16 - x) x)) (b := 900 - 15 * k - (j + 1)) (by omega); omega))
              | (have hno : ¬ ((bt (co y) (x)) = true ∧ x < re (bt (rm f y &&& rowv f (nI y))) (16 - x) x ∧ (bt (co y) (re (bt (rm f y &&& rowv f (nI y))) (16 - x) x)) = true) := by
                   rintro ⟨q1, q2, q3⟩
                   first
                     | (rw [zb_eq0.mp h39] at q1; cases q1; done)
                     | (rw [zb_eq0.mp h69] at q3; cases q3; done)
                     | exact absurd h59 (nI_ge q2 (by omega))
                 rw [hst, if_neg hno]
                 rw [if_neg hno] at hk
                 exact hk _ (by omega) (by omega) (by omega))
          · refine R_aload_n (q := 63) rfl rfl rfl ?_
            refine R_iload (q := 65) rfl rfl rfl ?_
            refine R_iload_n (q := 66) rfl rfl rfl ?_
            refine R_callv2 (q := 69) rfl rfl rfl rfl rfl (Nat.le_of_ble_eq_true rfl) rfl ?_
            refine R_mono (c32 (by omega) (by omega)) (fun v66 M66 hr66 => ?_)
            obtain ⟨rfl, hm66⟩ := hr66
            rw [hm66]
            dsimp only [Option.toList, List.cons_append, List.nil_append]
            refine R_if_eq (q := 72) (t := 81) rfl rfl rfl (fun h69 => ?_) (fun h69 => ?_)
            · refine R_iinc (q := 84) rfl rfl rfl (nI_i1 x) rfl ?_
              dsimp only [List.set]
              refine R_goto (t := 25) rfl rfl ?_
              first
                | exact absurd (nI_le (Nat.le_refl x) (by omega)) h59
                | (have q1 := zb_ne0.mp h39
                   have q2 := nI_lt_of2 h59 (by omega)
                   have q3 := zb_ne0.mp h69
                   rw [hst, if_pos ⟨q1, q2, q3⟩]
                   rw [if_pos ⟨q1, q2, q3⟩] at hk
                   exact hk _ (by omega) (by omega) (by have := kp_le (s := s) (x := nI y) (y := nI x) (z := nI (re (bt (rm f y &&& rowv f (nI y))) (16 - x) x)) (b := 900 - 15 * k - (j + 1)) (by omega); omega))
                | (have hno : ¬ ((bt (co y) (x)) = true ∧ x < re (bt (rm f y &&& rowv f (nI y))) (16 - x) x ∧ (bt (co y) (re (bt (rm f y &&& rowv f (nI y))) (16 - x) x)) = true) := by
                     rintro ⟨q1, q2, q3⟩
                     first
                       | (rw [zb_eq0.mp h39] at q1; cases q1; done)
                       | (rw [zb_eq0.mp h69] at q3; cases q3; done)
                       | exact absurd h59 (nI_ge q2 (by omega))
                   rw [hst, if_neg hno]
                   rw [if_neg hno] at hk
                   exact hk _ (by omega) (by omega) (by omega))
            · refine R_aload_n (q := 73) rfl rfl rfl ?_
              refine R_iload_n (q := 74) rfl rfl rfl ?_
              refine R_iload (q := 76) rfl rfl rfl ?_
              refine R_iload (q := 78) rfl rfl rfl ?_
              refine R_callv3 (q := 81) rfl rfl rfl rfl rfl (Nat.le_of_ble_eq_true rfl) rfl ?_
              refine R_mono (c33 (by omega)) (fun v78 M78 hr78 => ?_)
              obtain ⟨rfl, hm78⟩ := hr78
              rw [hm78]
              dsimp only [Option.toList, List.cons_append, List.nil_append]
              refine R_iinc (q := 84) rfl rfl rfl (nI_i1 x) rfl ?_
              dsimp only [List.set]
              refine R_goto (t := 25) rfl rfl ?_
              first
                | exact absurd (nI_le (Nat.le_refl x) (by omega)) h59
                | (have q1 := zb_ne0.mp h39
                   have q2 := nI_lt_of2 h59 (by omega)
                   have q3 := zb_ne0.mp h69
                   rw [hst, if_pos ⟨q1, q2, q3⟩]
                   rw [if_pos ⟨q1, q2, q3⟩] at hk
                   exact hk _ (by omega) (by omega) (by have := kp_le (s := s) (x := nI y) (y := nI x) (z := nI (re (bt (rm f y &&& rowv f (nI y))) (16 - x) x)) (b := 900 - 15 * k - (j + 1)) (by omega); omega))
                | (have hno : ¬ ((bt (co y) (x)) = true ∧ x < re (bt (rm f y &&& rowv f (nI y))) (16 - x) x ∧ (bt (co y) (re (bt (rm f y &&& rowv f (nI y))) (16 - x) x)) = true) := by
                     rintro ⟨q1, q2, q3⟩
                     first
                       | (rw [zb_eq0.mp h39] at q1; cases q1; done)
                       | (rw [zb_eq0.mp h69] at q3; cases q3; done)
                       | exact absurd h59 (nI_ge q2 (by omega))
                   rw [hst, if_neg hno]
                   rw [if_neg hno] at hk
                   exact hk _ (by omega) (by omega) (by omega))
    refine R_iload_n (q := 3) rfl rfl rfl ?_
    refine R_bipush (q := 5) (v := nI 16) rfl rfl (by decide) ?_
    refine R_icmp_ge (q := 8) (t := 93) rfl rfl rfl (fun h5 => absurd h5 (nI_ge (by omega) (by omega))) (fun h5 => ?_)
    refine R_aload_n (q := 9) rfl rfl rfl ?_
    refine R_iload_n (q := 10) rfl rfl rfl ?_
    refine R_iconst (q := 11) (v := nI 1) rfl rfl (by decide) ?_
    refine R_isub (q := 12) rfl rfl ?_
    refine R_callv1 (q := 15) rfl rfl rfl rfl (ch_CA ha haa).1 (Nat.le_of_ble_eq_true rfl) rfl ?_
    refine R_mono (c2 (ch_CA ha haa)) (fun v12 M12 hr12 => ?_)
    obtain ⟨rfl, hm12⟩ := hr12
    rw [hm12]
    dsimp only [Option.toList, List.cons_append, List.nil_append]
    refine R_aload_n (q := 16) rfl rfl rfl ?_
    refine R_iload_n (q := 17) rfl rfl rfl ?_
    refine R_callv1 (q := 20) rfl rfl rfl rfl (ch_CA ha haa).1 (Nat.le_of_ble_eq_true rfl) rfl ?_
    refine R_mono (c2 (ch_CA ha haa)) (fun v17 M17 hr17 => ?_)
    obtain ⟨rfl, hm17⟩ := hr17
    rw [hm17]
    dsimp only [Option.toList, List.cons_append, List.nil_append]
    refine R_iand (q := 21) rfl rfl ?_
    refine R_istore_n (q := 22) rfl rfl (Nat.le_of_ble_eq_true rfl) rfl ?_
    dsimp only [List.set]
    refine R_iconst (q := 23) (v := nI 1) rfl rfl (by decide) ?_
    refine R_istore (q := 25) rfl rfl (Nat.le_of_ble_eq_true rfl) rfl ?_
    dsimp only [List.set]
    exact hin 15 1 s _ rfl (by omega) (by omega)
set_option maxRecDepth 8000 in
theorem c30 {s : KS} (ha : CA M a f) (haa : a + 1 < 35 ∨ 41 < a) (hs : s.1 ≤ 600) : mm_R S (d + 2) 30 0 (mm_en 30 [.ref 35, .ref a]) [] (chk M co to pa lvI ch tr s) (fun v M' => v = none ∧ M' = (chk M co to pa lvI ch tr (lvy (fun y => rm f y &&& rowv f (nI y)) (fun y x => bt (co y) x) 15 1 s))) := by
  show mm_R S (d + 2) 30 0 [some (.ref 35), some (.ref a), none, none, none, none] [] (chk M co to pa lvI ch tr s) _
  refine R_iconst (q := 1) (v := nI 1) rfl rfl (by decide) ?_
  refine R_istore_n (q := 2) rfl rfl (Nat.le_of_ble_eq_true rfl) rfl ?_
  dsimp only [List.set]
  exact c30_loop ha haa 15 1 s _ _ _ rfl (by omega) (by omega)
set_option maxRecDepth 8000 in
theorem c31_loop (ha : CA M a f) (haa : a + 1 < 35 ∨ 41 < a) : ∀ (k y : Nat) (s : KS) (t3 t4 t5 : Option Value), y + k = 16 → 1 ≤ y → s.1 ≤ 900 - 15 * k → mm_R S (d + 2) 31 2 [some (.ref 35), some (.ref a), some (.int (nI y)), t3, t4, t5] [] (chk M co to pa lvI ch tr s) (fun v M' => v = none ∧ M' = (chk M co to pa lvI ch tr (lvy (fun y => colv f (y - 1) 16 &&& colv f y 16) (fun x y => bt (co y) x) k y s))) := by
  intro k
  induction k with
  | zero =>
    intro y s t3 t4 t5 hy hy1 hs
    refine R_iload_n (q := 3) rfl rfl rfl ?_
    refine R_bipush (q := 5) (v := nI 16) rfl rfl (by decide) ?_
    refine R_icmp_ge (q := 8) (t := 93) rfl rfl rfl (fun h5 => ?_) (fun h5 => absurd (nI_le (by omega) (by omega)) h5)
    refine R_return rfl rfl ?_
    exact ⟨rfl, rfl⟩
  | succ k ih =>
    intro y s t3 t4 t5 hy hy1 hs
    have hin : ∀ (j x : Nat) (s : KS) (t5 : Option Value), x + j = 16 → 1 ≤ x → s.1 ≤ 900 - 15 * k - j → mm_R S (d + 2) 31 25 [some (.ref 35), some (.ref a), some (.int (nI y)), some (.int (colv f (y - 1) 16 &&& colv f y 16)), some (.int (nI x)), t5] [] (chk M co to pa lvI ch tr s) (fun v M' => v = none ∧ M' = (chk M co to pa lvI ch tr (lvy (fun y => colv f (y - 1) 16 &&& colv f y 16) (fun x y => bt (co y) x) k (y + 1) (lvx (colv f (y - 1) 16 &&& colv f y 16) (fun x => bt (co (x)) y) y j x s)))) := by
      intro j
      induction j with
      | zero =>
        intro x s t5 hx hx1 hs
        refine R_iload (q := 27) rfl rfl rfl ?_
        refine R_bipush (q := 29) (v := nI 16) rfl rfl (by decide) ?_
        refine R_icmp_ge (q := 32) (t := 87) rfl rfl rfl (fun h29 => ?_) (fun h29 => absurd (nI_le (by omega) (by omega)) h29)
        refine R_iinc (q := 90) rfl rfl rfl (nI_i1 y) rfl ?_
        dsimp only [List.set]
        refine R_goto (t := 2) rfl rfl ?_
        exact ih (y + 1) s _ _ _ (by omega) (by omega) (by omega)
      | succ j ihj =>
        intro x s t5 hx hx1 hs
        have hre := re_ge (bt (colv f (y - 1) 16 &&& colv f y 16)) (16 - x) x
        have hk := ihj (x + 1) (if (bt (co (x)) y) = true ∧ x < re (bt (colv f (y - 1) 16 &&& colv f y 16)) (16 - x) x ∧ (bt (co (re (bt (colv f (y - 1) 16 &&& colv f y 16)) (16 - x) x)) y) = true then kp s (nI y) (nI x) (nI (re (bt (colv f (y - 1) 16 &&& colv f y 16)) (16 - x) x)) else s)
        have hst : lvx (colv f (y - 1) 16 &&& colv f y 16) (fun x => bt (co (x)) y) y (j + 1) x s = lvx (colv f (y - 1) 16 &&& colv f y 16) (fun x => bt (co (x)) y) y j (x + 1) (if (bt (co (x)) y) = true ∧ x < re (bt (colv f (y - 1) 16 &&& colv f y 16)) (16 - x) x ∧ (bt (co (re (bt (colv f (y - 1) 16 &&& colv f y 16)) (16 - x) x)) y) = true then kp s (nI y) (nI x) (nI (re (bt (colv f (y - 1) 16 &&& colv f y 16)) (16 - x) x)) else s) := rfl
        refine R_iload (q := 27) rfl rfl rfl ?_
        refine R_bipush (q := 29) (v := nI 16) rfl rfl (by decide) ?_
        refine R_icmp_ge (q := 32) (t := 87) rfl rfl rfl (fun h29 => absurd h29 (nI_ge (by omega) (by omega))) (fun h29 => ?_)
        refine R_aload_n (q := 33) rfl rfl rfl ?_
        refine R_iload_n (q := 34) rfl rfl rfl ?_
        refine R_iload (q := 36) rfl rfl rfl ?_
        refine R_callv2 (q := 39) rfl rfl rfl rfl rfl (Nat.le_of_ble_eq_true rfl) rfl ?_
        refine R_mono (c32 (by omega) (by omega)) (fun v36 M36 hr36 => ?_)
        obtain ⟨rfl, hm36⟩ := hr36
        rw [hm36]
        dsimp only [Option.toList, List.cons_append, List.nil_append]
        refine R_if_eq (q := 42) (t := 51) rfl rfl rfl (fun h39 => ?_) (fun h39 => ?_)
        · refine R_iload (q := 53) rfl rfl rfl ?_
          refine R_istore (q := 55) rfl rfl (Nat.le_of_ble_eq_true rfl) rfl ?_
          dsimp only [List.set]
          refine R_iload (q := 57) rfl rfl rfl ?_
          refine R_iload (q := 59) rfl rfl rfl ?_
          refine R_icmp_le (q := 62) (t := 81) rfl rfl rfl (fun h59 => ?_) (fun h59 => ?_)
          · refine R_iinc (q := 84) rfl rfl rfl (nI_i1 x) rfl ?_
            dsimp only [List.set]
            refine R_goto (t := 25) rfl rfl ?_
            first
              | exact absurd (nI_le (Nat.le_refl x) (by omega)) h59
              | (have q1 := zb_ne0.mp h39
                 have q2 := nI_lt_of2 h59 (by omega)
                 have q3 := zb_ne0.mp h69
                 rw [hst, if_pos ⟨q1, q2, q3⟩]
                 rw [if_pos ⟨q1, q2, q3⟩] at hk
                 exact hk _ (by omega) (by omega) (by have := kp_le (s := s) (x := nI y) (y := nI x) (z := nI (re (bt (colv f (y - 1) 16 &&& colv f y 16)) (16 - x) x)) (b := 900 - 15 * k - (j + 1)) (by omega); omega))
              | (have hno : ¬ ((bt (co (x)) y) = true ∧ x < re (bt (colv f (y - 1) 16 &&& colv f y 16)) (16 - x) x ∧ (bt (co (re (bt (colv f (y - 1) 16 &&& colv f y 16)) (16 - x) x)) y) = true) := by
                   rintro ⟨q1, q2, q3⟩
                   first
                     | (rw [zb_eq0.mp h39] at q1; cases q1; done)
                     | (rw [zb_eq0.mp h69] at q3; cases q3; done)
                     | exact absurd h59 (nI_ge q2 (by omega))
                 rw [hst, if_neg hno]
                 rw [if_neg hno] at hk
                 exact hk _ (by omega) (by omega) (by omega))
          · refine R_aload_n (q := 63) rfl rfl rfl ?_
            refine R_iload_n (q := 64) rfl rfl rfl ?_
            refine R_iload (q := 66) rfl rfl rfl ?_
            refine R_callv2 (q := 69) rfl rfl rfl rfl rfl (Nat.le_of_ble_eq_true rfl) rfl ?_
            refine R_mono (c32 (by omega) (by omega)) (fun v66 M66 hr66 => ?_)
            obtain ⟨rfl, hm66⟩ := hr66
            rw [hm66]
            dsimp only [Option.toList, List.cons_append, List.nil_append]
            refine R_if_eq (q := 72) (t := 81) rfl rfl rfl (fun h69 => ?_) (fun h69 => ?_)
            · refine R_iinc (q := 84) rfl rfl rfl (nI_i1 x) rfl ?_
              dsimp only [List.set]
              refine R_goto (t := 25) rfl rfl ?_
              first
                | exact absurd (nI_le (Nat.le_refl x) (by omega)) h59
                | (have q1 := zb_ne0.mp h39
                   have q2 := nI_lt_of2 h59 (by omega)
                   have q3 := zb_ne0.mp h69
                   rw [hst, if_pos ⟨q1, q2, q3⟩]
                   rw [if_pos ⟨q1, q2, q3⟩] at hk
                   exact hk _ (by omega) (by omega) (by have := kp_le (s := s) (x := nI y) (y := nI x) (z := nI (re (bt (colv f (y - 1) 16 &&& colv f y 16)) (16 - x) x)) (b := 900 - 15 * k - (j + 1)) (by omega); omega))
                | (have hno : ¬ ((bt (co (x)) y) = true ∧ x < re (bt (colv f (y - 1) 16 &&& colv f y 16)) (16 - x) x ∧ (bt (co (re (bt (colv f (y - 1) 16 &&& colv f y 16)) (16 - x) x)) y) = true) := by
                     rintro ⟨q1, q2, q3⟩
                     first
                       | (rw [zb_eq0.mp h39] at q1; cases q1; done)
                       | (rw [zb_eq0.mp h69] at q3; cases q3; done)
                       | exact absurd h59 (nI_ge q2 (by omega))
                   rw [hst, if_neg hno]
                   rw [if_neg hno] at hk
                   exact hk _ (by omega) (by omega) (by omega))
            · refine R_aload_n (q := 73) rfl rfl rfl ?_
              refine R_iload_n (q := 74) rfl rfl rfl ?_
              refine R_iload (q := 76) rfl rfl rfl ?_
              refine R_iload (q := 78) rfl rfl rfl ?_
              refine R_callv3 (q := 81) rfl rfl rfl rfl rfl (Nat.le_of_ble_eq_true rfl) rfl ?_
              refine R_mono (c33 (by omega)) (fun v78 M78 hr78 => ?_)
              obtain ⟨rfl, hm78⟩ := hr78
              rw [hm78]
              dsimp only [Option.toList, List.cons_append, List.nil_append]
              refine R_iinc (q := 84) rfl rfl rfl (nI_i1 x) rfl ?_
              dsimp only [List.set]
              refine R_goto (t := 25) rfl rfl ?_
              first
                | exact absurd (nI_le (Nat.le_refl x) (by omega)) h59
                | (have q1 := zb_ne0.mp h39
                   have q2 := nI_lt_of2 h59 (by omega)
                   have q3 := zb_ne0.mp h69
                   rw [hst, if_pos ⟨q1, q2, q3⟩]
                   rw [if_pos ⟨q1, q2, q3⟩] at hk
                   exact hk _ (by omega) (by omega) (by have := kp_le (s := s) (x := nI y) (y := nI x) (z := nI (re (bt (colv f (y - 1) 16 &&& colv f y 16)) (16 - x) x)) (b := 900 - 15 * k - (j + 1)) (by omega); omega))
                | (have hno : ¬ ((bt (co (x)) y) = true ∧ x < re (bt (colv f (y - 1) 16 &&& colv f y 16)) (16 - x) x ∧ (bt (co (re (bt (colv f (y - 1) 16 &&& colv f y 16)) (16 - x) x)) y) = true) := by
                     rintro ⟨q1, q2, q3⟩
                     first
                       | (rw [zb_eq0.mp h39] at q1; cases q1; done)
                       | (rw [zb_eq0.mp h69] at q3; cases q3; done)
                       | exact absurd h59 (nI_ge q2 (by omega))
                   rw [hst, if_neg hno]
                   rw [if_neg hno] at hk
                   exact hk _ (by omega) (by omega) (by omega))
        · refine R_iload_n (q := 43) rfl rfl rfl ?_
          refine R_iload (q := 45) rfl rfl rfl ?_
          refine R_calls2 (q := 48) rfl rfl rfl rfl (Nat.le_of_ble_eq_true rfl) rfl ?_
          refine R_mono (c144 (by omega)) (fun v45 M45 hr45 => ?_)
          obtain ⟨rfl, hm45⟩ := hr45
          rw [hm45]
          dsimp only [Option.toList, List.cons_append, List.nil_append]
          refine R_goto (t := 53) rfl rfl ?_
          refine R_istore (q := 55) rfl rfl (Nat.le_of_ble_eq_true rfl) rfl ?_
          dsimp only [List.set]
          refine R_iload (q := 57) rfl rfl rfl ?_
          refine R_iload (q := 59) rfl rfl rfl ?_
          refine R_icmp_le (q := 62) (t := 81) rfl rfl rfl (fun h59 => ?_) (fun h59 => ?_)
          · refine R_iinc (q := 84) rfl rfl rfl (nI_i1 x) rfl ?_
            dsimp only [List.set]
            refine R_goto (t := 25) rfl rfl ?_
            first
              | exact absurd (nI_le (Nat.le_refl x) (by omega)) h59
              | (have q1 := zb_ne0.mp h39
                 have q2 := nI_lt_of2 h59 (by omega)
                 have q3 := zb_ne0.mp h69
                 rw [hst, if_pos ⟨q1, q2, q3⟩]
                 rw [if_pos ⟨q1, q2, q3⟩] at hk
                 exact hk _ (by omega) (by omega) (by have := kp_le (s := s) (x := nI y) (y := nI x) (z := nI (re (bt (colv f (y - 1) 16 &&& colv f y 16)) (16 - x) x)) (b := 900 - 15 * k - (j + 1)) (by omega); omega))
              | (have hno : ¬ ((bt (co (x)) y) = true ∧ x < re (bt (colv f (y - 1) 16 &&& colv f y 16)) (16 - x) x ∧ (bt (co (re (bt (colv f (y - 1) 16 &&& colv f y 16)) (16 - x) x)) y) = true) := by
                   rintro ⟨q1, q2, q3⟩
                   first
                     | (rw [zb_eq0.mp h39] at q1; cases q1; done)
                     | (rw [zb_eq0.mp h69] at q3; cases q3; done)
                     | exact absurd h59 (nI_ge q2 (by omega))
                 rw [hst, if_neg hno]
                 rw [if_neg hno] at hk
                 exact hk _ (by omega) (by omega) (by omega))
          · refine R_aload_n (q := 63) rfl rfl rfl ?_
            refine R_iload_n (q := 64) rfl rfl rfl ?_
            refine R_iload (q := 66) rfl rfl rfl ?_
            refine R_callv2 (q := 69) rfl rfl rfl rfl rfl (Nat.le_of_ble_eq_true rfl) rfl ?_
            refine R_mono (c32 (by omega) (by omega)) (fun v66 M66 hr66 => ?_)
            obtain ⟨rfl, hm66⟩ := hr66
            rw [hm66]
            dsimp only [Option.toList, List.cons_append, List.nil_append]
            refine R_if_eq (q := 72) (t := 81) rfl rfl rfl (fun h69 => ?_) (fun h69 => ?_)
            · refine R_iinc (q := 84) rfl rfl rfl (nI_i1 x) rfl ?_
              dsimp only [List.set]
              refine R_goto (t := 25) rfl rfl ?_
              first
                | exact absurd (nI_le (Nat.le_refl x) (by omega)) h59
                | (have q1 := zb_ne0.mp h39
                   have q2 := nI_lt_of2 h59 (by omega)
                   have q3 := zb_ne0.mp h69
                   rw [hst, if_pos ⟨q1, q2, q3⟩]
                   rw [if_pos ⟨q1, q2, q3⟩] at hk
                   exact hk _ (by omega) (by omega) (by have := kp_le (s := s) (x := nI y) (y := nI x) (z := nI (re (bt (colv f (y - 1) 16 &&& colv f y 16)) (16 - x) x)) (b := 900 - 15 * k - (j + 1)) (by omega); omega))
                | (have hno : ¬ ((bt (co (x)) y) = true ∧ x < re (bt (colv f (y - 1) 16 &&& colv f y 16)) (16 - x) x ∧ (bt (co (re (bt (colv f (y - 1) 16 &&& colv f y 16)) (16 - x) x)) y) = true) := by
                     rintro ⟨q1, q2, q3⟩
                     first
                       | (rw [zb_eq0.mp h39] at q1; cases q1; done)
                       | (rw [zb_eq0.mp h69] at q3; cases q3; done)
                       | exact absurd h59 (nI_ge q2 (by omega))
                   rw [hst, if_neg hno]
                   rw [if_neg hno] at hk
                   exact hk _ (by omega) (by omega) (by omega))
            · refine R_aload_n (q := 73) rfl rfl rfl ?_
              refine R_iload_n (q := 74) rfl rfl rfl ?_
              refine R_iload (q := 76) rfl rfl rfl ?_
              refine R_iload (q := 78) rfl rfl rfl ?_
              refine R_callv3 (q := 81) rfl rfl rfl rfl rfl (Nat.le_of_ble_eq_true rfl) rfl ?_
              refine R_mono (c33 (by omega)) (fun v78 M78 hr78 => ?_)
              obtain ⟨rfl, hm78⟩ := hr78
              rw [hm78]
              dsimp only [Option.toList, List.cons_append, List.nil_append]
              refine R_iinc (q := 84) rfl rfl rfl (nI_i1 x) rfl ?_
              dsimp only [List.set]
              refine R_goto (t := 25) rfl rfl ?_
              first
                | exact absurd (nI_le (Nat.le_refl x) (by omega)) h59
                | (have q1 := zb_ne0.mp h39
                   have q2 := nI_lt_of2 h59 (by omega)
                   have q3 := zb_ne0.mp h69
                   rw [hst, if_pos ⟨q1, q2, q3⟩]
                   rw [if_pos ⟨q1, q2, q3⟩] at hk
                   exact hk _ (by omega) (by omega) (by have := kp_le (s := s) (x := nI y) (y := nI x) (z := nI (re (bt (colv f (y - 1) 16 &&& colv f y 16)) (16 - x) x)) (b := 900 - 15 * k - (j + 1)) (by omega); omega))
                | (have hno : ¬ ((bt (co (x)) y) = true ∧ x < re (bt (colv f (y - 1) 16 &&& colv f y 16)) (16 - x) x ∧ (bt (co (re (bt (colv f (y - 1) 16 &&& colv f y 16)) (16 - x) x)) y) = true) := by
                     rintro ⟨q1, q2, q3⟩
                     first
                       | (rw [zb_eq0.mp h39] at q1; cases q1; done)
                       | (rw [zb_eq0.mp h69] at q3; cases q3; done)
                       | exact absurd h59 (nI_ge q2 (by omega))
                   rw [hst, if_neg hno]
                   rw [if_neg hno] at hk
                   exact hk _ (by omega) (by omega) (by omega))
    refine R_iload_n (q := 3) rfl rfl rfl ?_
    refine R_bipush (q := 5) (v := nI 16) rfl rfl (by decide) ?_
    refine R_icmp_ge (q := 8) (t := 93) rfl rfl rfl (fun h5 => absurd h5 (nI_ge (by omega) (by omega))) (fun h5 => ?_)
    refine R_aload_n (q := 9) rfl rfl rfl ?_
    refine R_iload_n (q := 10) rfl rfl rfl ?_
    refine R_iconst (q := 11) (v := nI 1) rfl rfl (by decide) ?_
    refine R_isub (q := 12) rfl rfl ?_
    rw [pk_sub (by omega)]
    refine R_callv1 (q := 15) rfl rfl rfl rfl (ch_CA ha haa).1 (Nat.le_of_ble_eq_true rfl) rfl ?_
    refine R_mono (c3 (ch_CA ha haa)) (fun v12 M12 hr12 => ?_)
    obtain ⟨rfl, hm12⟩ := hr12
    rw [hm12]
    dsimp only [Option.toList, List.cons_append, List.nil_append]
    refine R_aload_n (q := 16) rfl rfl rfl ?_
    refine R_iload_n (q := 17) rfl rfl rfl ?_
    refine R_callv1 (q := 20) rfl rfl rfl rfl (ch_CA ha haa).1 (Nat.le_of_ble_eq_true rfl) rfl ?_
    refine R_mono (c3 (ch_CA ha haa)) (fun v17 M17 hr17 => ?_)
    obtain ⟨rfl, hm17⟩ := hr17
    rw [hm17]
    dsimp only [Option.toList, List.cons_append, List.nil_append]
    refine R_iand (q := 21) rfl rfl ?_
    refine R_istore_n (q := 22) rfl rfl (Nat.le_of_ble_eq_true rfl) rfl ?_
    dsimp only [List.set]
    refine R_iconst (q := 23) (v := nI 1) rfl rfl (by decide) ?_
    refine R_istore (q := 25) rfl rfl (Nat.le_of_ble_eq_true rfl) rfl ?_
    dsimp only [List.set]
    exact hin 15 1 s _ rfl (by omega) (by omega)
set_option maxRecDepth 8000 in
theorem c31 {s : KS} (ha : CA M a f) (haa : a + 1 < 35 ∨ 41 < a) (hs : s.1 ≤ 600) : mm_R S (d + 2) 31 0 (mm_en 31 [.ref 35, .ref a]) [] (chk M co to pa lvI ch tr s) (fun v M' => v = none ∧ M' = (chk M co to pa lvI ch tr (lvy (fun y => colv f (y - 1) 16 &&& colv f y 16) (fun x y => bt (co y) x) 15 1 s))) := by
  show mm_R S (d + 2) 31 0 [some (.ref 35), some (.ref a), none, none, none, none] [] (chk M co to pa lvI ch tr s) _
  refine R_iconst (q := 1) (v := nI 1) rfl rfl (by decide) ?_
  refine R_istore_n (q := 2) rfl rfl (Nat.le_of_ble_eq_true rfl) rfl ?_
  dsimp only [List.set]
  exact c31_loop ha haa 15 1 s _ _ _ rfl (by omega) (by omega)
end P27
end
