section
-- ===== PART A: goes FIRST, ahead of the names: the tables' words, and 'selects' of the private methods out of them =====
/-- a private method of a class that the tables say can be made, by its rows of tables_1 -/
def lw_okq (q : MethodName × Nat) : Prop := (q.1.cls ≠ "java/lang/invoke/MethodHandle" ∧ q.1.cls ≠ "java/lang/invoke/VarHandle") ∧ Cond.instantiable q.1.cls q.2 ∈ tables_1 ∧ Cond.privateMethod q.1 ∈ tables_1 ∧ Cond.instanceMethod q.1 ∈ tables_1
theorem lw_p0 : lw_okq (⟨"PlantedDoubts", "areTwo", "(II)Z"⟩, 12) := ⟨⟨by decide +kernel, by decide +kernel⟩, List.mem_of_getElem? (i := 23) (by decide +kernel), List.mem_of_getElem? (i := 438) (by decide +kernel), List.mem_of_getElem? (i := 439) (by decide +kernel)⟩
theorem lw_p1 : lw_okq (⟨"PlantedDoubts", "isHouse", "(I)Z"⟩, 12) := ⟨⟨by decide +kernel, by decide +kernel⟩, List.mem_of_getElem? (i := 23) (by decide +kernel), List.mem_of_getElem? (i := 442) (by decide +kernel), List.mem_of_getElem? (i := 443) (by decide +kernel)⟩
theorem lw_p2 : lw_okq (⟨"PlantedDoubts$Tape", "lettersEnd", "(I)I"⟩, 6) := ⟨⟨by decide +kernel, by decide +kernel⟩, List.mem_of_getElem? (i := 256) (by decide +kernel), List.mem_of_getElem? (i := 481) (by decide +kernel), List.mem_of_getElem? (i := 482) (by decide +kernel)⟩
theorem lw_p3 : lw_okq (⟨"PlantedDoubts$Tape", "wordOf", "(II)I"⟩, 6) := ⟨⟨by decide +kernel, by decide +kernel⟩, List.mem_of_getElem? (i := 256) (by decide +kernel), List.mem_of_getElem? (i := 485) (by decide +kernel), List.mem_of_getElem? (i := 486) (by decide +kernel)⟩
theorem lw_p4 : lw_okq (⟨"PlantedDoubts$Tape", "put", "(III)V"⟩, 6) := ⟨⟨by decide +kernel, by decide +kernel⟩, List.mem_of_getElem? (i := 256) (by decide +kernel), List.mem_of_getElem? (i := 538) (by decide +kernel), List.mem_of_getElem? (i := 539) (by decide +kernel)⟩
theorem lw_p5 : lw_okq (⟨"PlantedDoubts$Tape", "digitsEnd", "(I)I"⟩, 6) := ⟨⟨by decide +kernel, by decide +kernel⟩, List.mem_of_getElem? (i := 256) (by decide +kernel), List.mem_of_getElem? (i := 545) (by decide +kernel), List.mem_of_getElem? (i := 546) (by decide +kernel)⟩
theorem lw_p6 : lw_okq (⟨"PlantedDoubts$Tape", "numberOf", "(II)I"⟩, 6) := ⟨⟨by decide +kernel, by decide +kernel⟩, List.mem_of_getElem? (i := 256) (by decide +kernel), List.mem_of_getElem? (i := 549) (by decide +kernel), List.mem_of_getElem? (i := 550) (by decide +kernel)⟩
theorem lw_p7 : lw_okq (⟨"PlantedDoubts$Grammar", "kind", "()I"⟩, 10) := ⟨⟨by decide +kernel, by decide +kernel⟩, List.mem_of_getElem? (i := 286) (by decide +kernel), List.mem_of_getElem? (i := 616) (by decide +kernel), List.mem_of_getElem? (i := 617) (by decide +kernel)⟩
theorem lw_p8 : lw_okq (⟨"PlantedDoubts$Grammar", "readReason", "()V"⟩, 10) := ⟨⟨by decide +kernel, by decide +kernel⟩, List.mem_of_getElem? (i := 286) (by decide +kernel), List.mem_of_getElem? (i := 620) (by decide +kernel), List.mem_of_getElem? (i := 621) (by decide +kernel)⟩
theorem lw_p9 : lw_okq (⟨"PlantedDoubts$Grammar", "number", "(II)I"⟩, 10) := ⟨⟨by decide +kernel, by decide +kernel⟩, List.mem_of_getElem? (i := 286) (by decide +kernel), List.mem_of_getElem? (i := 624) (by decide +kernel), List.mem_of_getElem? (i := 625) (by decide +kernel)⟩
theorem lw_p10 : lw_okq (⟨"PlantedDoubts$Grammar", "fail", "(II)V"⟩, 10) := ⟨⟨by decide +kernel, by decide +kernel⟩, List.mem_of_getElem? (i := 286) (by decide +kernel), List.mem_of_getElem? (i := 628) (by decide +kernel), List.mem_of_getElem? (i := 629) (by decide +kernel)⟩
theorem lw_p11 : lw_okq (⟨"PlantedDoubts$Grammar", "another", "(I)I"⟩, 10) := ⟨⟨by decide +kernel, by decide +kernel⟩, List.mem_of_getElem? (i := 286) (by decide +kernel), List.mem_of_getElem? (i := 632) (by decide +kernel), List.mem_of_getElem? (i := 633) (by decide +kernel)⟩
theorem lw_p12 : lw_okq (⟨"PlantedDoubts$Grammar", "finish", "(IIIII)V"⟩, 10) := ⟨⟨by decide +kernel, by decide +kernel⟩, List.mem_of_getElem? (i := 286) (by decide +kernel), List.mem_of_getElem? (i := 636) (by decide +kernel), List.mem_of_getElem? (i := 637) (by decide +kernel)⟩
theorem lw_p13 : lw_okq (⟨"PlantedDoubts$Grammar", "takes", "(I)V"⟩, 10) := ⟨⟨by decide +kernel, by decide +kernel⟩, List.mem_of_getElem? (i := 286) (by decide +kernel), List.mem_of_getElem? (i := 640) (by decide +kernel), List.mem_of_getElem? (i := 641) (by decide +kernel)⟩
theorem lw_p14 : lw_okq (⟨"PlantedDoubts$Grammar", "readLaw", "()V"⟩, 10) := ⟨⟨by decide +kernel, by decide +kernel⟩, List.mem_of_getElem? (i := 286) (by decide +kernel), List.mem_of_getElem? (i := 648) (by decide +kernel), List.mem_of_getElem? (i := 649) (by decide +kernel)⟩
theorem lw_p15 : lw_okq (⟨"PlantedDoubts$Grammar", "begins", "(Z)V"⟩, 10) := ⟨⟨by decide +kernel, by decide +kernel⟩, List.mem_of_getElem? (i := 286) (by decide +kernel), List.mem_of_getElem? (i := 652) (by decide +kernel), List.mem_of_getElem? (i := 653) (by decide +kernel)⟩
def lw_privs_1 : List (MethodName × Nat) := [(⟨"PlantedDoubts", "areTwo", "(II)Z"⟩, 12), (⟨"PlantedDoubts", "isHouse", "(I)Z"⟩, 12), (⟨"PlantedDoubts$Tape", "lettersEnd", "(I)I"⟩, 6), (⟨"PlantedDoubts$Tape", "wordOf", "(II)I"⟩, 6), (⟨"PlantedDoubts$Tape", "put", "(III)V"⟩, 6), (⟨"PlantedDoubts$Tape", "digitsEnd", "(I)I"⟩, 6), (⟨"PlantedDoubts$Tape", "numberOf", "(II)I"⟩, 6), (⟨"PlantedDoubts$Grammar", "kind", "()I"⟩, 10), (⟨"PlantedDoubts$Grammar", "readReason", "()V"⟩, 10), (⟨"PlantedDoubts$Grammar", "number", "(II)I"⟩, 10), (⟨"PlantedDoubts$Grammar", "fail", "(II)V"⟩, 10), (⟨"PlantedDoubts$Grammar", "another", "(I)I"⟩, 10), (⟨"PlantedDoubts$Grammar", "finish", "(IIIII)V"⟩, 10), (⟨"PlantedDoubts$Grammar", "takes", "(I)V"⟩, 10), (⟨"PlantedDoubts$Grammar", "readLaw", "()V"⟩, 10), (⟨"PlantedDoubts$Grammar", "begins", "(Z)V"⟩, 10)]
theorem lw_r1 : ∀ q ∈ lw_privs_1, lw_okq q := List.forall_mem_cons.mpr ⟨lw_p0, List.forall_mem_cons.mpr ⟨lw_p1, List.forall_mem_cons.mpr ⟨lw_p2, List.forall_mem_cons.mpr ⟨lw_p3, List.forall_mem_cons.mpr ⟨lw_p4, List.forall_mem_cons.mpr ⟨lw_p5, List.forall_mem_cons.mpr ⟨lw_p6, List.forall_mem_cons.mpr ⟨lw_p7, List.forall_mem_cons.mpr ⟨lw_p8, List.forall_mem_cons.mpr ⟨lw_p9, List.forall_mem_cons.mpr ⟨lw_p10, List.forall_mem_cons.mpr ⟨lw_p11, List.forall_mem_cons.mpr ⟨lw_p12, List.forall_mem_cons.mpr ⟨lw_p13, List.forall_mem_cons.mpr ⟨lw_p14, List.forall_mem_cons.mpr ⟨lw_p15, fun _ h => absurd h List.not_mem_nil⟩⟩⟩⟩⟩⟩⟩⟩⟩⟩⟩⟩⟩⟩⟩⟩
theorem lw_p16 : lw_okq (⟨"PlantedDoubts$Grammar", "readSum", "()V"⟩, 10) := ⟨⟨by decide +kernel, by decide +kernel⟩, List.mem_of_getElem? (i := 286) (by decide +kernel), List.mem_of_getElem? (i := 656) (by decide +kernel), List.mem_of_getElem? (i := 657) (by decide +kernel)⟩
theorem lw_p17 : lw_okq (⟨"PlantedDoubts$Grammar", "readUnit", "()V"⟩, 10) := ⟨⟨by decide +kernel, by decide +kernel⟩, List.mem_of_getElem? (i := 286) (by decide +kernel), List.mem_of_getElem? (i := 660) (by decide +kernel), List.mem_of_getElem? (i := 661) (by decide +kernel)⟩
theorem lw_p18 : lw_okq (⟨"PlantedDoubts$Grammar", "readCondition", "()V"⟩, 10) := ⟨⟨by decide +kernel, by decide +kernel⟩, List.mem_of_getElem? (i := 286) (by decide +kernel), List.mem_of_getElem? (i := 668) (by decide +kernel), List.mem_of_getElem? (i := 669) (by decide +kernel)⟩
theorem lw_p19 : lw_okq (⟨"PlantedDoubts$Grammar", "opens", "()V"⟩, 10) := ⟨⟨by decide +kernel, by decide +kernel⟩, List.mem_of_getElem? (i := 286) (by decide +kernel), List.mem_of_getElem? (i := 672) (by decide +kernel), List.mem_of_getElem? (i := 673) (by decide +kernel)⟩
theorem lw_p20 : lw_okq (⟨"PlantedDoubts$Grammar", "waits", "()V"⟩, 10) := ⟨⟨by decide +kernel, by decide +kernel⟩, List.mem_of_getElem? (i := 286) (by decide +kernel), List.mem_of_getElem? (i := 676) (by decide +kernel), List.mem_of_getElem? (i := 677) (by decide +kernel)⟩
theorem lw_p21 : lw_okq (⟨"PlantedDoubts$Grammar", "joins", "()Z"⟩, 10) := ⟨⟨by decide +kernel, by decide +kernel⟩, List.mem_of_getElem? (i := 286) (by decide +kernel), List.mem_of_getElem? (i := 680) (by decide +kernel), List.mem_of_getElem? (i := 681) (by decide +kernel)⟩
theorem lw_p22 : lw_okq (⟨"PlantedDoubts$Grammar", "settle", "(I)V"⟩, 10) := ⟨⟨by decide +kernel, by decide +kernel⟩, List.mem_of_getElem? (i := 286) (by decide +kernel), List.mem_of_getElem? (i := 684) (by decide +kernel), List.mem_of_getElem? (i := 685) (by decide +kernel)⟩
theorem lw_p23 : lw_okq (⟨"PlantedDoubts$Grammar", "readWork", "()V"⟩, 10) := ⟨⟨by decide +kernel, by decide +kernel⟩, List.mem_of_getElem? (i := 286) (by decide +kernel), List.mem_of_getElem? (i := 688) (by decide +kernel), List.mem_of_getElem? (i := 689) (by decide +kernel)⟩
theorem lw_p24 : lw_okq (⟨"PlantedDoubts$Grammar", "readPlan", "()V"⟩, 10) := ⟨⟨by decide +kernel, by decide +kernel⟩, List.mem_of_getElem? (i := 286) (by decide +kernel), List.mem_of_getElem? (i := 692) (by decide +kernel), List.mem_of_getElem? (i := 693) (by decide +kernel)⟩
theorem lw_p25 : lw_okq (⟨"PlantedDoubts$Season", "write", "(III)V"⟩, 4) := ⟨⟨by decide +kernel, by decide +kernel⟩, List.mem_of_getElem? (i := 215) (by decide +kernel), List.mem_of_getElem? (i := 738) (by decide +kernel), List.mem_of_getElem? (i := 739) (by decide +kernel)⟩
theorem lw_p26 : lw_okq (⟨"PlantedDoubts$Season", "follow", "(I)V"⟩, 4) := ⟨⟨by decide +kernel, by decide +kernel⟩, List.mem_of_getElem? (i := 215) (by decide +kernel), List.mem_of_getElem? (i := 786) (by decide +kernel), List.mem_of_getElem? (i := 787) (by decide +kernel)⟩
theorem lw_p27 : lw_okq (⟨"PlantedDoubts$Season", "reasonOut", "(I)V"⟩, 4) := ⟨⟨by decide +kernel, by decide +kernel⟩, List.mem_of_getElem? (i := 215) (by decide +kernel), List.mem_of_getElem? (i := 795) (by decide +kernel), List.mem_of_getElem? (i := 796) (by decide +kernel)⟩
theorem lw_p28 : lw_okq (⟨"PlantedDoubts$Season", "growPot", "(II)V"⟩, 4) := ⟨⟨by decide +kernel, by decide +kernel⟩, List.mem_of_getElem? (i := 215) (by decide +kernel), List.mem_of_getElem? (i := 818) (by decide +kernel), List.mem_of_getElem? (i := 819) (by decide +kernel)⟩
theorem lw_p29 : lw_okq (⟨"PlantedDoubts$Law", "told", "(LPlantedDoubts$Text;IIII)I"⟩, 2) := ⟨⟨by decide +kernel, by decide +kernel⟩, List.mem_of_getElem? (i := 202) (by decide +kernel), List.mem_of_getElem? (i := 833) (by decide +kernel), List.mem_of_getElem? (i := 834) (by decide +kernel)⟩
theorem lw_p30 : lw_okq (⟨"PlantedDoubts$Law", "worthOf", "(LPlantedDoubts$Text;II)I"⟩, 2) := ⟨⟨by decide +kernel, by decide +kernel⟩, List.mem_of_getElem? (i := 202) (by decide +kernel), List.mem_of_getElem? (i := 838) (by decide +kernel), List.mem_of_getElem? (i := 839) (by decide +kernel)⟩
theorem lw_p31 : lw_okq (⟨"PlantedDoubts$Season", "freeze", "()V"⟩, 4) := ⟨⟨by decide +kernel, by decide +kernel⟩, List.mem_of_getElem? (i := 215) (by decide +kernel), List.mem_of_getElem? (i := 851) (by decide +kernel), List.mem_of_getElem? (i := 852) (by decide +kernel)⟩
def lw_privs_2 : List (MethodName × Nat) := [(⟨"PlantedDoubts$Grammar", "readSum", "()V"⟩, 10), (⟨"PlantedDoubts$Grammar", "readUnit", "()V"⟩, 10), (⟨"PlantedDoubts$Grammar", "readCondition", "()V"⟩, 10), (⟨"PlantedDoubts$Grammar", "opens", "()V"⟩, 10), (⟨"PlantedDoubts$Grammar", "waits", "()V"⟩, 10), (⟨"PlantedDoubts$Grammar", "joins", "()Z"⟩, 10), (⟨"PlantedDoubts$Grammar", "settle", "(I)V"⟩, 10), (⟨"PlantedDoubts$Grammar", "readWork", "()V"⟩, 10), (⟨"PlantedDoubts$Grammar", "readPlan", "()V"⟩, 10), (⟨"PlantedDoubts$Season", "write", "(III)V"⟩, 4), (⟨"PlantedDoubts$Season", "follow", "(I)V"⟩, 4), (⟨"PlantedDoubts$Season", "reasonOut", "(I)V"⟩, 4), (⟨"PlantedDoubts$Season", "growPot", "(II)V"⟩, 4), (⟨"PlantedDoubts$Law", "told", "(LPlantedDoubts$Text;IIII)I"⟩, 2), (⟨"PlantedDoubts$Law", "worthOf", "(LPlantedDoubts$Text;II)I"⟩, 2), (⟨"PlantedDoubts$Season", "freeze", "()V"⟩, 4)]
theorem lw_r2 : ∀ q ∈ lw_privs_2, lw_okq q := List.forall_mem_cons.mpr ⟨lw_p16, List.forall_mem_cons.mpr ⟨lw_p17, List.forall_mem_cons.mpr ⟨lw_p18, List.forall_mem_cons.mpr ⟨lw_p19, List.forall_mem_cons.mpr ⟨lw_p20, List.forall_mem_cons.mpr ⟨lw_p21, List.forall_mem_cons.mpr ⟨lw_p22, List.forall_mem_cons.mpr ⟨lw_p23, List.forall_mem_cons.mpr ⟨lw_p24, List.forall_mem_cons.mpr ⟨lw_p25, List.forall_mem_cons.mpr ⟨lw_p26, List.forall_mem_cons.mpr ⟨lw_p27, List.forall_mem_cons.mpr ⟨lw_p28, List.forall_mem_cons.mpr ⟨lw_p29, List.forall_mem_cons.mpr ⟨lw_p30, List.forall_mem_cons.mpr ⟨lw_p31, fun _ h => absurd h List.not_mem_nil⟩⟩⟩⟩⟩⟩⟩⟩⟩⟩⟩⟩⟩⟩⟩⟩
theorem lw_p32 : lw_okq (⟨"PlantedDoubts$Season", "draw", "(I)I"⟩, 4) := ⟨⟨by decide +kernel, by decide +kernel⟩, List.mem_of_getElem? (i := 215) (by decide +kernel), List.mem_of_getElem? (i := 855) (by decide +kernel), List.mem_of_getElem? (i := 856) (by decide +kernel)⟩
theorem lw_p33 : lw_okq (⟨"PlantedDoubts$Season", "fly", "()V"⟩, 4) := ⟨⟨by decide +kernel, by decide +kernel⟩, List.mem_of_getElem? (i := 215) (by decide +kernel), List.mem_of_getElem? (i := 861) (by decide +kernel), List.mem_of_getElem? (i := 862) (by decide +kernel)⟩
theorem lw_p34 : lw_okq (⟨"PlantedDoubts$Season", "carry", "(I)V"⟩, 4) := ⟨⟨by decide +kernel, by decide +kernel⟩, List.mem_of_getElem? (i := 215) (by decide +kernel), List.mem_of_getElem? (i := 865) (by decide +kernel), List.mem_of_getElem? (i := 866) (by decide +kernel)⟩
theorem lw_p35 : lw_okq (⟨"PlantedDoubts$Season", "inspect", "()I"⟩, 4) := ⟨⟨by decide +kernel, by decide +kernel⟩, List.mem_of_getElem? (i := 215) (by decide +kernel), List.mem_of_getElem? (i := 873) (by decide +kernel), List.mem_of_getElem? (i := 874) (by decide +kernel)⟩
theorem lw_p36 : lw_okq (⟨"PlantedDoubts", "lawOf", "(II)I"⟩, 12) := ⟨⟨by decide +kernel, by decide +kernel⟩, List.mem_of_getElem? (i := 23) (by decide +kernel), List.mem_of_getElem? (i := 882) (by decide +kernel), List.mem_of_getElem? (i := 883) (by decide +kernel)⟩
theorem lw_p37 : lw_okq (⟨"PlantedDoubts$Gifts", "place", "(II)Z"⟩, 5) := ⟨⟨by decide +kernel, by decide +kernel⟩, List.mem_of_getElem? (i := 328) (by decide +kernel), List.mem_of_getElem? (i := 926) (by decide +kernel), List.mem_of_getElem? (i := 927) (by decide +kernel)⟩
theorem lw_p38 : lw_okq (⟨"PlantedDoubts$Gifts", "frees", "(II)Z"⟩, 5) := ⟨⟨by decide +kernel, by decide +kernel⟩, List.mem_of_getElem? (i := 328) (by decide +kernel), List.mem_of_getElem? (i := 930) (by decide +kernel), List.mem_of_getElem? (i := 931) (by decide +kernel)⟩
theorem lw_p39 : lw_okq (⟨"PlantedDoubts$Gifts", "drop", "(II)V"⟩, 5) := ⟨⟨by decide +kernel, by decide +kernel⟩, List.mem_of_getElem? (i := 328) (by decide +kernel), List.mem_of_getElem? (i := 934) (by decide +kernel), List.mem_of_getElem? (i := 935) (by decide +kernel)⟩
theorem lw_p40 : lw_okq (⟨"PlantedDoubts$Gifts", "hand", "(II)V"⟩, 5) := ⟨⟨by decide +kernel, by decide +kernel⟩, List.mem_of_getElem? (i := 328) (by decide +kernel), List.mem_of_getElem? (i := 938) (by decide +kernel), List.mem_of_getElem? (i := 939) (by decide +kernel)⟩
theorem lw_p41 : lw_okq (⟨"PlantedDoubts$Gifts", "lessen", "(I)V"⟩, 5) := ⟨⟨by decide +kernel, by decide +kernel⟩, List.mem_of_getElem? (i := 328) (by decide +kernel), List.mem_of_getElem? (i := 942) (by decide +kernel), List.mem_of_getElem? (i := 943) (by decide +kernel)⟩
theorem lw_p42 : lw_okq (⟨"PlantedDoubts$Mind", "findClashes", "(LPlantedDoubts$Text;)V"⟩, 2) := ⟨⟨by decide +kernel, by decide +kernel⟩, List.mem_of_getElem? (i := 352) (by decide +kernel), List.mem_of_getElem? (i := 964) (by decide +kernel), List.mem_of_getElem? (i := 965) (by decide +kernel)⟩
theorem lw_p43 : lw_okq (⟨"PlantedDoubts$Mind", "isAtPeace", "(I)Z"⟩, 2) := ⟨⟨by decide +kernel, by decide +kernel⟩, List.mem_of_getElem? (i := 352) (by decide +kernel), List.mem_of_getElem? (i := 973) (by decide +kernel), List.mem_of_getElem? (i := 974) (by decide +kernel)⟩
theorem lw_p44 : lw_okq (⟨"PlantedDoubts$Mind", "follows", "(LPlantedDoubts$Text;I)I"⟩, 2) := ⟨⟨by decide +kernel, by decide +kernel⟩, List.mem_of_getElem? (i := 352) (by decide +kernel), List.mem_of_getElem? (i := 986) (by decide +kernel), List.mem_of_getElem? (i := 987) (by decide +kernel)⟩
theorem lw_p45 : lw_okq (⟨"PlantedDoubts$Mind", "isFit", "(LPlantedDoubts$Garden;III)Z"⟩, 2) := ⟨⟨by decide +kernel, by decide +kernel⟩, List.mem_of_getElem? (i := 352) (by decide +kernel), List.mem_of_getElem? (i := 1024) (by decide +kernel), List.mem_of_getElem? (i := 1025) (by decide +kernel)⟩
theorem lw_p46 : lw_okq (⟨"PlantedDoubts$Grounds", "leastFilled", "(LPlantedDoubts$Garden;II)I"⟩, 1) := ⟨⟨by decide +kernel, by decide +kernel⟩, List.mem_of_getElem? (i := 365) (by decide +kernel), List.mem_of_getElem? (i := 1069) (by decide +kernel), List.mem_of_getElem? (i := 1070) (by decide +kernel)⟩
theorem lw_p47 : lw_okq (⟨"PlantedDoubtsModel", "degreeBe", "(III)V"⟩, 61) := ⟨⟨by decide +kernel, by decide +kernel⟩, List.mem_of_getElem? (i := 1102) (by decide +kernel), List.mem_of_getElem? (i := 1304) (by decide +kernel), List.mem_of_getElem? (i := 1305) (by decide +kernel)⟩
def lw_privs_3 : List (MethodName × Nat) := [(⟨"PlantedDoubts$Season", "draw", "(I)I"⟩, 4), (⟨"PlantedDoubts$Season", "fly", "()V"⟩, 4), (⟨"PlantedDoubts$Season", "carry", "(I)V"⟩, 4), (⟨"PlantedDoubts$Season", "inspect", "()I"⟩, 4), (⟨"PlantedDoubts", "lawOf", "(II)I"⟩, 12), (⟨"PlantedDoubts$Gifts", "place", "(II)Z"⟩, 5), (⟨"PlantedDoubts$Gifts", "frees", "(II)Z"⟩, 5), (⟨"PlantedDoubts$Gifts", "drop", "(II)V"⟩, 5), (⟨"PlantedDoubts$Gifts", "hand", "(II)V"⟩, 5), (⟨"PlantedDoubts$Gifts", "lessen", "(I)V"⟩, 5), (⟨"PlantedDoubts$Mind", "findClashes", "(LPlantedDoubts$Text;)V"⟩, 2), (⟨"PlantedDoubts$Mind", "isAtPeace", "(I)Z"⟩, 2), (⟨"PlantedDoubts$Mind", "follows", "(LPlantedDoubts$Text;I)I"⟩, 2), (⟨"PlantedDoubts$Mind", "isFit", "(LPlantedDoubts$Garden;III)Z"⟩, 2), (⟨"PlantedDoubts$Grounds", "leastFilled", "(LPlantedDoubts$Garden;II)I"⟩, 1), (⟨"PlantedDoubtsModel", "degreeBe", "(III)V"⟩, 61)]
theorem lw_r3 : ∀ q ∈ lw_privs_3, lw_okq q := List.forall_mem_cons.mpr ⟨lw_p32, List.forall_mem_cons.mpr ⟨lw_p33, List.forall_mem_cons.mpr ⟨lw_p34, List.forall_mem_cons.mpr ⟨lw_p35, List.forall_mem_cons.mpr ⟨lw_p36, List.forall_mem_cons.mpr ⟨lw_p37, List.forall_mem_cons.mpr ⟨lw_p38, List.forall_mem_cons.mpr ⟨lw_p39, List.forall_mem_cons.mpr ⟨lw_p40, List.forall_mem_cons.mpr ⟨lw_p41, List.forall_mem_cons.mpr ⟨lw_p42, List.forall_mem_cons.mpr ⟨lw_p43, List.forall_mem_cons.mpr ⟨lw_p44, List.forall_mem_cons.mpr ⟨lw_p45, List.forall_mem_cons.mpr ⟨lw_p46, List.forall_mem_cons.mpr ⟨lw_p47, fun _ h => absurd h List.not_mem_nil⟩⟩⟩⟩⟩⟩⟩⟩⟩⟩⟩⟩⟩⟩⟩⟩
theorem lw_p48 : lw_okq (⟨"PlantedDoubtsModel", "isIn", "(III)Z"⟩, 61) := ⟨⟨by decide +kernel, by decide +kernel⟩, List.mem_of_getElem? (i := 1102) (by decide +kernel), List.mem_of_getElem? (i := 1312) (by decide +kernel), List.mem_of_getElem? (i := 1313) (by decide +kernel)⟩
theorem lw_p49 : lw_okq (⟨"PlantedDoubtsModel", "isThing", "(I)Z"⟩, 61) := ⟨⟨by decide +kernel, by decide +kernel⟩, List.mem_of_getElem? (i := 1102) (by decide +kernel), List.mem_of_getElem? (i := 1316) (by decide +kernel), List.mem_of_getElem? (i := 1317) (by decide +kernel)⟩
theorem lw_p50 : lw_okq (⟨"PlantedDoubtsModel", "isHouse", "(I)Z"⟩, 61) := ⟨⟨by decide +kernel, by decide +kernel⟩, List.mem_of_getElem? (i := 1102) (by decide +kernel), List.mem_of_getElem? (i := 1324) (by decide +kernel), List.mem_of_getElem? (i := 1325) (by decide +kernel)⟩
theorem lw_p51 : lw_okq (⟨"PlantedDoubtsModel", "types", "(I)V"⟩, 61) := ⟨⟨by decide +kernel, by decide +kernel⟩, List.mem_of_getElem? (i := 1102) (by decide +kernel), List.mem_of_getElem? (i := 1332) (by decide +kernel), List.mem_of_getElem? (i := 1333) (by decide +kernel)⟩
theorem lw_p52 : lw_okq (⟨"PlantedDoubtsModel", "readsText", "(I)I"⟩, 61) := ⟨⟨by decide +kernel, by decide +kernel⟩, List.mem_of_getElem? (i := 1102) (by decide +kernel), List.mem_of_getElem? (i := 1344) (by decide +kernel), List.mem_of_getElem? (i := 1345) (by decide +kernel)⟩
theorem lw_p53 : lw_okq (⟨"PlantedDoubtsModel", "reads", "()V"⟩, 61) := ⟨⟨by decide +kernel, by decide +kernel⟩, List.mem_of_getElem? (i := 1102) (by decide +kernel), List.mem_of_getElem? (i := 1348) (by decide +kernel), List.mem_of_getElem? (i := 1349) (by decide +kernel)⟩
theorem lw_p54 : lw_okq (⟨"PlantedDoubtsModel", "raw", "(I)I"⟩, 61) := ⟨⟨by decide +kernel, by decide +kernel⟩, List.mem_of_getElem? (i := 1102) (by decide +kernel), List.mem_of_getElem? (i := 1352) (by decide +kernel), List.mem_of_getElem? (i := 1353) (by decide +kernel)⟩
theorem lw_p55 : lw_okq (⟨"PlantedDoubtsModel", "isLetter", "(I)Z"⟩, 61) := ⟨⟨by decide +kernel, by decide +kernel⟩, List.mem_of_getElem? (i := 1102) (by decide +kernel), List.mem_of_getElem? (i := 1356) (by decide +kernel), List.mem_of_getElem? (i := 1357) (by decide +kernel)⟩
theorem lw_p56 : lw_okq (⟨"PlantedDoubtsModel", "wordAt", "(II)I"⟩, 61) := ⟨⟨by decide +kernel, by decide +kernel⟩, List.mem_of_getElem? (i := 1102) (by decide +kernel), List.mem_of_getElem? (i := 1360) (by decide +kernel), List.mem_of_getElem? (i := 1361) (by decide +kernel)⟩
theorem lw_p57 : lw_okq (⟨"PlantedDoubtsModel", "isDigit", "(I)Z"⟩, 61) := ⟨⟨by decide +kernel, by decide +kernel⟩, List.mem_of_getElem? (i := 1102) (by decide +kernel), List.mem_of_getElem? (i := 1364) (by decide +kernel), List.mem_of_getElem? (i := 1365) (by decide +kernel)⟩
theorem lw_p58 : lw_okq (⟨"PlantedDoubtsModel", "isMarkSign", "(I)Z"⟩, 61) := ⟨⟨by decide +kernel, by decide +kernel⟩, List.mem_of_getElem? (i := 1102) (by decide +kernel), List.mem_of_getElem? (i := 1368) (by decide +kernel), List.mem_of_getElem? (i := 1369) (by decide +kernel)⟩
theorem lw_p59 : lw_okq (⟨"PlantedDoubtsModel", "readReasons", "()I"⟩, 61) := ⟨⟨by decide +kernel, by decide +kernel⟩, List.mem_of_getElem? (i := 1102) (by decide +kernel), List.mem_of_getElem? (i := 1372) (by decide +kernel), List.mem_of_getElem? (i := 1373) (by decide +kernel)⟩
theorem lw_p60 : lw_okq (⟨"PlantedDoubtsModel", "errs", "(I)I"⟩, 61) := ⟨⟨by decide +kernel, by decide +kernel⟩, List.mem_of_getElem? (i := 1102) (by decide +kernel), List.mem_of_getElem? (i := 1376) (by decide +kernel), List.mem_of_getElem? (i := 1377) (by decide +kernel)⟩
theorem lw_p61 : lw_okq (⟨"PlantedDoubtsModel", "readReason", "(I)I"⟩, 61) := ⟨⟨by decide +kernel, by decide +kernel⟩, List.mem_of_getElem? (i := 1102) (by decide +kernel), List.mem_of_getElem? (i := 1380) (by decide +kernel), List.mem_of_getElem? (i := 1381) (by decide +kernel)⟩
theorem lw_p62 : lw_okq (⟨"PlantedDoubtsModel", "isWord", "(I)Z"⟩, 61) := ⟨⟨by decide +kernel, by decide +kernel⟩, List.mem_of_getElem? (i := 1102) (by decide +kernel), List.mem_of_getElem? (i := 1384) (by decide +kernel), List.mem_of_getElem? (i := 1385) (by decide +kernel)⟩
theorem lw_p63 : lw_okq (⟨"PlantedDoubtsModel", "readOther", "(I)I"⟩, 61) := ⟨⟨by decide +kernel, by decide +kernel⟩, List.mem_of_getElem? (i := 1102) (by decide +kernel), List.mem_of_getElem? (i := 1388) (by decide +kernel), List.mem_of_getElem? (i := 1389) (by decide +kernel)⟩
def lw_privs_4 : List (MethodName × Nat) := [(⟨"PlantedDoubtsModel", "isIn", "(III)Z"⟩, 61), (⟨"PlantedDoubtsModel", "isThing", "(I)Z"⟩, 61), (⟨"PlantedDoubtsModel", "isHouse", "(I)Z"⟩, 61), (⟨"PlantedDoubtsModel", "types", "(I)V"⟩, 61), (⟨"PlantedDoubtsModel", "readsText", "(I)I"⟩, 61), (⟨"PlantedDoubtsModel", "reads", "()V"⟩, 61), (⟨"PlantedDoubtsModel", "raw", "(I)I"⟩, 61), (⟨"PlantedDoubtsModel", "isLetter", "(I)Z"⟩, 61), (⟨"PlantedDoubtsModel", "wordAt", "(II)I"⟩, 61), (⟨"PlantedDoubtsModel", "isDigit", "(I)Z"⟩, 61), (⟨"PlantedDoubtsModel", "isMarkSign", "(I)Z"⟩, 61), (⟨"PlantedDoubtsModel", "readReasons", "()I"⟩, 61), (⟨"PlantedDoubtsModel", "errs", "(I)I"⟩, 61), (⟨"PlantedDoubtsModel", "readReason", "(I)I"⟩, 61), (⟨"PlantedDoubtsModel", "isWord", "(I)Z"⟩, 61), (⟨"PlantedDoubtsModel", "readOther", "(I)I"⟩, 61)]
theorem lw_r4 : ∀ q ∈ lw_privs_4, lw_okq q := List.forall_mem_cons.mpr ⟨lw_p48, List.forall_mem_cons.mpr ⟨lw_p49, List.forall_mem_cons.mpr ⟨lw_p50, List.forall_mem_cons.mpr ⟨lw_p51, List.forall_mem_cons.mpr ⟨lw_p52, List.forall_mem_cons.mpr ⟨lw_p53, List.forall_mem_cons.mpr ⟨lw_p54, List.forall_mem_cons.mpr ⟨lw_p55, List.forall_mem_cons.mpr ⟨lw_p56, List.forall_mem_cons.mpr ⟨lw_p57, List.forall_mem_cons.mpr ⟨lw_p58, List.forall_mem_cons.mpr ⟨lw_p59, List.forall_mem_cons.mpr ⟨lw_p60, List.forall_mem_cons.mpr ⟨lw_p61, List.forall_mem_cons.mpr ⟨lw_p62, List.forall_mem_cons.mpr ⟨lw_p63, fun _ h => absurd h List.not_mem_nil⟩⟩⟩⟩⟩⟩⟩⟩⟩⟩⟩⟩⟩⟩⟩⟩
theorem lw_p64 : lw_okq (⟨"PlantedDoubtsModel", "readMark", "(I)I"⟩, 61) := ⟨⟨by decide +kernel, by decide +kernel⟩, List.mem_of_getElem? (i := 1102) (by decide +kernel), List.mem_of_getElem? (i := 1392) (by decide +kernel), List.mem_of_getElem? (i := 1393) (by decide +kernel)⟩
theorem lw_p65 : lw_okq (⟨"PlantedDoubtsModel", "isSign", "(I)Z"⟩, 61) := ⟨⟨by decide +kernel, by decide +kernel⟩, List.mem_of_getElem? (i := 1102) (by decide +kernel), List.mem_of_getElem? (i := 1396) (by decide +kernel), List.mem_of_getElem? (i := 1397) (by decide +kernel)⟩
theorem lw_p66 : lw_okq (⟨"PlantedDoubtsModel", "readTold", "(III)I"⟩, 61) := ⟨⟨by decide +kernel, by decide +kernel⟩, List.mem_of_getElem? (i := 1102) (by decide +kernel), List.mem_of_getElem? (i := 1400) (by decide +kernel), List.mem_of_getElem? (i := 1401) (by decide +kernel)⟩
theorem lw_p67 : lw_okq (⟨"PlantedDoubtsModel", "readWord", "(I)I"⟩, 61) := ⟨⟨by decide +kernel, by decide +kernel⟩, List.mem_of_getElem? (i := 1102) (by decide +kernel), List.mem_of_getElem? (i := 1404) (by decide +kernel), List.mem_of_getElem? (i := 1405) (by decide +kernel)⟩
theorem lw_p68 : lw_okq (⟨"PlantedDoubtsModel", "readNumber", "(II)I"⟩, 61) := ⟨⟨by decide +kernel, by decide +kernel⟩, List.mem_of_getElem? (i := 1102) (by decide +kernel), List.mem_of_getElem? (i := 1408) (by decide +kernel), List.mem_of_getElem? (i := 1409) (by decide +kernel)⟩
theorem lw_p69 : lw_okq (⟨"PlantedDoubtsModel", "readWorks", "()I"⟩, 61) := ⟨⟨by decide +kernel, by decide +kernel⟩, List.mem_of_getElem? (i := 1102) (by decide +kernel), List.mem_of_getElem? (i := 1412) (by decide +kernel), List.mem_of_getElem? (i := 1413) (by decide +kernel)⟩
theorem lw_p70 : lw_okq (⟨"PlantedDoubtsModel", "readPlan", "()I"⟩, 61) := ⟨⟨by decide +kernel, by decide +kernel⟩, List.mem_of_getElem? (i := 1102) (by decide +kernel), List.mem_of_getElem? (i := 1416) (by decide +kernel), List.mem_of_getElem? (i := 1417) (by decide +kernel)⟩
theorem lw_p71 : lw_okq (⟨"PlantedDoubtsModel", "readPlanLine", "(I)I"⟩, 61) := ⟨⟨by decide +kernel, by decide +kernel⟩, List.mem_of_getElem? (i := 1102) (by decide +kernel), List.mem_of_getElem? (i := 1420) (by decide +kernel), List.mem_of_getElem? (i := 1421) (by decide +kernel)⟩
theorem lw_p72 : lw_okq (⟨"PlantedDoubtsModel", "kindOf", "(I)I"⟩, 61) := ⟨⟨by decide +kernel, by decide +kernel⟩, List.mem_of_getElem? (i := 1102) (by decide +kernel), List.mem_of_getElem? (i := 1424) (by decide +kernel), List.mem_of_getElem? (i := 1425) (by decide +kernel)⟩
theorem lw_p73 : lw_okq (⟨"PlantedDoubtsModel", "readDeed", "(I)I"⟩, 61) := ⟨⟨by decide +kernel, by decide +kernel⟩, List.mem_of_getElem? (i := 1102) (by decide +kernel), List.mem_of_getElem? (i := 1428) (by decide +kernel), List.mem_of_getElem? (i := 1429) (by decide +kernel)⟩
theorem lw_p74 : lw_okq (⟨"PlantedDoubtsModel", "readLaw", "()I"⟩, 61) := ⟨⟨by decide +kernel, by decide +kernel⟩, List.mem_of_getElem? (i := 1102) (by decide +kernel), List.mem_of_getElem? (i := 1432) (by decide +kernel), List.mem_of_getElem? (i := 1433) (by decide +kernel)⟩
theorem lw_p75 : lw_okq (⟨"PlantedDoubtsModel", "isLineWord", "()Z"⟩, 61) := ⟨⟨by decide +kernel, by decide +kernel⟩, List.mem_of_getElem? (i := 1102) (by decide +kernel), List.mem_of_getElem? (i := 1436) (by decide +kernel), List.mem_of_getElem? (i := 1437) (by decide +kernel)⟩
theorem lw_p76 : lw_okq (⟨"PlantedDoubtsModel", "readSum", "()I"⟩, 61) := ⟨⟨by decide +kernel, by decide +kernel⟩, List.mem_of_getElem? (i := 1102) (by decide +kernel), List.mem_of_getElem? (i := 1440) (by decide +kernel), List.mem_of_getElem? (i := 1441) (by decide +kernel)⟩
theorem lw_p77 : lw_okq (⟨"PlantedDoubtsModel", "readProduct", "()I"⟩, 61) := ⟨⟨by decide +kernel, by decide +kernel⟩, List.mem_of_getElem? (i := 1102) (by decide +kernel), List.mem_of_getElem? (i := 1444) (by decide +kernel), List.mem_of_getElem? (i := 1445) (by decide +kernel)⟩
theorem lw_p78 : lw_okq (⟨"PlantedDoubtsModel", "readUnit", "()I"⟩, 61) := ⟨⟨by decide +kernel, by decide +kernel⟩, List.mem_of_getElem? (i := 1102) (by decide +kernel), List.mem_of_getElem? (i := 1448) (by decide +kernel), List.mem_of_getElem? (i := 1449) (by decide +kernel)⟩
theorem lw_p79 : lw_okq (⟨"PlantedDoubtsModel", "canAsk", "(I)Z"⟩, 61) := ⟨⟨by decide +kernel, by decide +kernel⟩, List.mem_of_getElem? (i := 1102) (by decide +kernel), List.mem_of_getElem? (i := 1452) (by decide +kernel), List.mem_of_getElem? (i := 1453) (by decide +kernel)⟩
def lw_privs_5 : List (MethodName × Nat) := [(⟨"PlantedDoubtsModel", "readMark", "(I)I"⟩, 61), (⟨"PlantedDoubtsModel", "isSign", "(I)Z"⟩, 61), (⟨"PlantedDoubtsModel", "readTold", "(III)I"⟩, 61), (⟨"PlantedDoubtsModel", "readWord", "(I)I"⟩, 61), (⟨"PlantedDoubtsModel", "readNumber", "(II)I"⟩, 61), (⟨"PlantedDoubtsModel", "readWorks", "()I"⟩, 61), (⟨"PlantedDoubtsModel", "readPlan", "()I"⟩, 61), (⟨"PlantedDoubtsModel", "readPlanLine", "(I)I"⟩, 61), (⟨"PlantedDoubtsModel", "kindOf", "(I)I"⟩, 61), (⟨"PlantedDoubtsModel", "readDeed", "(I)I"⟩, 61), (⟨"PlantedDoubtsModel", "readLaw", "()I"⟩, 61), (⟨"PlantedDoubtsModel", "isLineWord", "()Z"⟩, 61), (⟨"PlantedDoubtsModel", "readSum", "()I"⟩, 61), (⟨"PlantedDoubtsModel", "readProduct", "()I"⟩, 61), (⟨"PlantedDoubtsModel", "readUnit", "()I"⟩, 61), (⟨"PlantedDoubtsModel", "canAsk", "(I)Z"⟩, 61)]
theorem lw_r5 : ∀ q ∈ lw_privs_5, lw_okq q := List.forall_mem_cons.mpr ⟨lw_p64, List.forall_mem_cons.mpr ⟨lw_p65, List.forall_mem_cons.mpr ⟨lw_p66, List.forall_mem_cons.mpr ⟨lw_p67, List.forall_mem_cons.mpr ⟨lw_p68, List.forall_mem_cons.mpr ⟨lw_p69, List.forall_mem_cons.mpr ⟨lw_p70, List.forall_mem_cons.mpr ⟨lw_p71, List.forall_mem_cons.mpr ⟨lw_p72, List.forall_mem_cons.mpr ⟨lw_p73, List.forall_mem_cons.mpr ⟨lw_p74, List.forall_mem_cons.mpr ⟨lw_p75, List.forall_mem_cons.mpr ⟨lw_p76, List.forall_mem_cons.mpr ⟨lw_p77, List.forall_mem_cons.mpr ⟨lw_p78, List.forall_mem_cons.mpr ⟨lw_p79, fun _ h => absurd h List.not_mem_nil⟩⟩⟩⟩⟩⟩⟩⟩⟩⟩⟩⟩⟩⟩⟩⟩
theorem lw_p80 : lw_okq (⟨"PlantedDoubtsModel", "emits", "(II)V"⟩, 61) := ⟨⟨by decide +kernel, by decide +kernel⟩, List.mem_of_getElem? (i := 1102) (by decide +kernel), List.mem_of_getElem? (i := 1456) (by decide +kernel), List.mem_of_getElem? (i := 1457) (by decide +kernel)⟩
theorem lw_p81 : lw_okq (⟨"PlantedDoubtsModel", "readAny", "()I"⟩, 61) := ⟨⟨by decide +kernel, by decide +kernel⟩, List.mem_of_getElem? (i := 1102) (by decide +kernel), List.mem_of_getElem? (i := 1460) (by decide +kernel), List.mem_of_getElem? (i := 1461) (by decide +kernel)⟩
theorem lw_p82 : lw_okq (⟨"PlantedDoubtsModel", "waits", "(I)V"⟩, 61) := ⟨⟨by decide +kernel, by decide +kernel⟩, List.mem_of_getElem? (i := 1102) (by decide +kernel), List.mem_of_getElem? (i := 1464) (by decide +kernel), List.mem_of_getElem? (i := 1465) (by decide +kernel)⟩
theorem lw_p83 : lw_okq (⟨"PlantedDoubtsModel", "readCompared", "()I"⟩, 61) := ⟨⟨by decide +kernel, by decide +kernel⟩, List.mem_of_getElem? (i := 1102) (by decide +kernel), List.mem_of_getElem? (i := 1468) (by decide +kernel), List.mem_of_getElem? (i := 1469) (by decide +kernel)⟩
theorem lw_p84 : lw_okq (⟨"PlantedDoubtsModel", "settles", "(I)V"⟩, 61) := ⟨⟨by decide +kernel, by decide +kernel⟩, List.mem_of_getElem? (i := 1102) (by decide +kernel), List.mem_of_getElem? (i := 1472) (by decide +kernel), List.mem_of_getElem? (i := 1473) (by decide +kernel)⟩
theorem lw_p85 : lw_okq (⟨"PlantedDoubtsModel", "takesLaw", "(I)V"⟩, 61) := ⟨⟨by decide +kernel, by decide +kernel⟩, List.mem_of_getElem? (i := 1102) (by decide +kernel), List.mem_of_getElem? (i := 1476) (by decide +kernel), List.mem_of_getElem? (i := 1477) (by decide +kernel)⟩
theorem lw_p86 : lw_okq (⟨"PlantedDoubtsModel", "takesOther", "(II)V"⟩, 61) := ⟨⟨by decide +kernel, by decide +kernel⟩, List.mem_of_getElem? (i := 1102) (by decide +kernel), List.mem_of_getElem? (i := 1480) (by decide +kernel), List.mem_of_getElem? (i := 1481) (by decide +kernel)⟩
theorem lw_p87 : lw_okq (⟨"PlantedDoubtsModel", "acts", "(IIII)Z"⟩, 61) := ⟨⟨by decide +kernel, by decide +kernel⟩, List.mem_of_getElem? (i := 1102) (by decide +kernel), List.mem_of_getElem? (i := 1492) (by decide +kernel), List.mem_of_getElem? (i := 1493) (by decide +kernel)⟩
theorem lw_p88 : lw_okq (⟨"PlantedDoubtsModel", "canDo", "(II)Z"⟩, 61) := ⟨⟨by decide +kernel, by decide +kernel⟩, List.mem_of_getElem? (i := 1102) (by decide +kernel), List.mem_of_getElem? (i := 1496) (by decide +kernel), List.mem_of_getElem? (i := 1497) (by decide +kernel)⟩
theorem lw_p89 : lw_okq (⟨"PlantedDoubtsModel", "potOf", "(I)I"⟩, 61) := ⟨⟨by decide +kernel, by decide +kernel⟩, List.mem_of_getElem? (i := 1102) (by decide +kernel), List.mem_of_getElem? (i := 1500) (by decide +kernel), List.mem_of_getElem? (i := 1501) (by decide +kernel)⟩
theorem lw_p90 : lw_okq (⟨"PlantedDoubtsModel", "keepsAhead", "()V"⟩, 61) := ⟨⟨by decide +kernel, by decide +kernel⟩, List.mem_of_getElem? (i := 1102) (by decide +kernel), List.mem_of_getElem? (i := 1504) (by decide +kernel), List.mem_of_getElem? (i := 1505) (by decide +kernel)⟩
theorem lw_p91 : lw_okq (⟨"PlantedDoubtsModel", "does", "(IIII)V"⟩, 61) := ⟨⟨by decide +kernel, by decide +kernel⟩, List.mem_of_getElem? (i := 1102) (by decide +kernel), List.mem_of_getElem? (i := 1508) (by decide +kernel), List.mem_of_getElem? (i := 1509) (by decide +kernel)⟩
theorem lw_p92 : lw_okq (⟨"PlantedDoubtsModel", "pots", "(IIIII)V"⟩, 61) := ⟨⟨by decide +kernel, by decide +kernel⟩, List.mem_of_getElem? (i := 1102) (by decide +kernel), List.mem_of_getElem? (i := 1512) (by decide +kernel), List.mem_of_getElem? (i := 1513) (by decide +kernel)⟩
theorem lw_p93 : lw_okq (⟨"PlantedDoubtsModel", "notes", "(III)V"⟩, 61) := ⟨⟨by decide +kernel, by decide +kernel⟩, List.mem_of_getElem? (i := 1102) (by decide +kernel), List.mem_of_getElem? (i := 1516) (by decide +kernel), List.mem_of_getElem? (i := 1517) (by decide +kernel)⟩
theorem lw_p94 : lw_okq (⟨"PlantedDoubtsModel", "loses", "(II)V"⟩, 61) := ⟨⟨by decide +kernel, by decide +kernel⟩, List.mem_of_getElem? (i := 1102) (by decide +kernel), List.mem_of_getElem? (i := 1520) (by decide +kernel), List.mem_of_getElem? (i := 1521) (by decide +kernel)⟩
theorem lw_p95 : lw_okq (⟨"PlantedDoubtsModel", "held", "(III)I"⟩, 61) := ⟨⟨by decide +kernel, by decide +kernel⟩, List.mem_of_getElem? (i := 1102) (by decide +kernel), List.mem_of_getElem? (i := 1524) (by decide +kernel), List.mem_of_getElem? (i := 1525) (by decide +kernel)⟩
def lw_privs_6 : List (MethodName × Nat) := [(⟨"PlantedDoubtsModel", "emits", "(II)V"⟩, 61), (⟨"PlantedDoubtsModel", "readAny", "()I"⟩, 61), (⟨"PlantedDoubtsModel", "waits", "(I)V"⟩, 61), (⟨"PlantedDoubtsModel", "readCompared", "()I"⟩, 61), (⟨"PlantedDoubtsModel", "settles", "(I)V"⟩, 61), (⟨"PlantedDoubtsModel", "takesLaw", "(I)V"⟩, 61), (⟨"PlantedDoubtsModel", "takesOther", "(II)V"⟩, 61), (⟨"PlantedDoubtsModel", "acts", "(IIII)Z"⟩, 61), (⟨"PlantedDoubtsModel", "canDo", "(II)Z"⟩, 61), (⟨"PlantedDoubtsModel", "potOf", "(I)I"⟩, 61), (⟨"PlantedDoubtsModel", "keepsAhead", "()V"⟩, 61), (⟨"PlantedDoubtsModel", "does", "(IIII)V"⟩, 61), (⟨"PlantedDoubtsModel", "pots", "(IIIII)V"⟩, 61), (⟨"PlantedDoubtsModel", "notes", "(III)V"⟩, 61), (⟨"PlantedDoubtsModel", "loses", "(II)V"⟩, 61), (⟨"PlantedDoubtsModel", "held", "(III)I"⟩, 61)]
theorem lw_r6 : ∀ q ∈ lw_privs_6, lw_okq q := List.forall_mem_cons.mpr ⟨lw_p80, List.forall_mem_cons.mpr ⟨lw_p81, List.forall_mem_cons.mpr ⟨lw_p82, List.forall_mem_cons.mpr ⟨lw_p83, List.forall_mem_cons.mpr ⟨lw_p84, List.forall_mem_cons.mpr ⟨lw_p85, List.forall_mem_cons.mpr ⟨lw_p86, List.forall_mem_cons.mpr ⟨lw_p87, List.forall_mem_cons.mpr ⟨lw_p88, List.forall_mem_cons.mpr ⟨lw_p89, List.forall_mem_cons.mpr ⟨lw_p90, List.forall_mem_cons.mpr ⟨lw_p91, List.forall_mem_cons.mpr ⟨lw_p92, List.forall_mem_cons.mpr ⟨lw_p93, List.forall_mem_cons.mpr ⟨lw_p94, List.forall_mem_cons.mpr ⟨lw_p95, fun _ h => absurd h List.not_mem_nil⟩⟩⟩⟩⟩⟩⟩⟩⟩⟩⟩⟩⟩⟩⟩⟩
theorem lw_p96 : lw_okq (⟨"PlantedDoubtsModel", "goesBy", "()V"⟩, 61) := ⟨⟨by decide +kernel, by decide +kernel⟩, List.mem_of_getElem? (i := 1102) (by decide +kernel), List.mem_of_getElem? (i := 1544) (by decide +kernel), List.mem_of_getElem? (i := 1545) (by decide +kernel)⟩
theorem lw_p97 : lw_okq (⟨"PlantedDoubtsModel", "reasonsAt", "(I)V"⟩, 61) := ⟨⟨by decide +kernel, by decide +kernel⟩, List.mem_of_getElem? (i := 1102) (by decide +kernel), List.mem_of_getElem? (i := 1548) (by decide +kernel), List.mem_of_getElem? (i := 1549) (by decide +kernel)⟩
theorem lw_p98 : lw_okq (⟨"PlantedDoubtsModel", "ofReason", "(II)I"⟩, 61) := ⟨⟨by decide +kernel, by decide +kernel⟩, List.mem_of_getElem? (i := 1102) (by decide +kernel), List.mem_of_getElem? (i := 1552) (by decide +kernel), List.mem_of_getElem? (i := 1553) (by decide +kernel)⟩
theorem lw_p99 : lw_okq (⟨"PlantedDoubtsModel", "suresOf", "(I)I"⟩, 61) := ⟨⟨by decide +kernel, by decide +kernel⟩, List.mem_of_getElem? (i := 1102) (by decide +kernel), List.mem_of_getElem? (i := 1556) (by decide +kernel), List.mem_of_getElem? (i := 1557) (by decide +kernel)⟩
theorem lw_p100 : lw_okq (⟨"PlantedDoubtsModel", "degreeOf", "(II)I"⟩, 61) := ⟨⟨by decide +kernel, by decide +kernel⟩, List.mem_of_getElem? (i := 1102) (by decide +kernel), List.mem_of_getElem? (i := 1560) (by decide +kernel), List.mem_of_getElem? (i := 1561) (by decide +kernel)⟩
theorem lw_p101 : lw_okq (⟨"PlantedDoubtsModel", "grows", "(I)V"⟩, 61) := ⟨⟨by decide +kernel, by decide +kernel⟩, List.mem_of_getElem? (i := 1102) (by decide +kernel), List.mem_of_getElem? (i := 1564) (by decide +kernel), List.mem_of_getElem? (i := 1565) (by decide +kernel)⟩
theorem lw_p102 : lw_okq (⟨"PlantedDoubtsModel", "asks", "(I)V"⟩, 61) := ⟨⟨by decide +kernel, by decide +kernel⟩, List.mem_of_getElem? (i := 1102) (by decide +kernel), List.mem_of_getElem? (i := 1568) (by decide +kernel), List.mem_of_getElem? (i := 1569) (by decide +kernel)⟩
theorem lw_p103 : lw_okq (⟨"PlantedDoubtsModel", "onesOf", "(I)I"⟩, 61) := ⟨⟨by decide +kernel, by decide +kernel⟩, List.mem_of_getElem? (i := 1102) (by decide +kernel), List.mem_of_getElem? (i := 1572) (by decide +kernel), List.mem_of_getElem? (i := 1573) (by decide +kernel)⟩
theorem lw_p104 : lw_okq (⟨"PlantedDoubtsModel", "lowerAsked", "()I"⟩, 61) := ⟨⟨by decide +kernel, by decide +kernel⟩, List.mem_of_getElem? (i := 1102) (by decide +kernel), List.mem_of_getElem? (i := 1576) (by decide +kernel), List.mem_of_getElem? (i := 1577) (by decide +kernel)⟩
theorem lw_p105 : lw_okq (⟨"PlantedDoubtsModel", "lawTells", "(IIII)I"⟩, 61) := ⟨⟨by decide +kernel, by decide +kernel⟩, List.mem_of_getElem? (i := 1102) (by decide +kernel), List.mem_of_getElem? (i := 1580) (by decide +kernel), List.mem_of_getElem? (i := 1581) (by decide +kernel)⟩
theorem lw_p106 : lw_okq (⟨"PlantedDoubtsModel", "lineOf", "(I)I"⟩, 61) := ⟨⟨by decide +kernel, by decide +kernel⟩, List.mem_of_getElem? (i := 1102) (by decide +kernel), List.mem_of_getElem? (i := 1584) (by decide +kernel), List.mem_of_getElem? (i := 1585) (by decide +kernel)⟩
theorem lw_p107 : lw_okq (⟨"PlantedDoubtsModel", "runs", "(III)I"⟩, 61) := ⟨⟨by decide +kernel, by decide +kernel⟩, List.mem_of_getElem? (i := 1102) (by decide +kernel), List.mem_of_getElem? (i := 1588) (by decide +kernel), List.mem_of_getElem? (i := 1589) (by decide +kernel)⟩
theorem lw_p108 : lw_okq (⟨"PlantedDoubtsModel", "twoOf", "(III)I"⟩, 61) := ⟨⟨by decide +kernel, by decide +kernel⟩, List.mem_of_getElem? (i := 1102) (by decide +kernel), List.mem_of_getElem? (i := 1592) (by decide +kernel), List.mem_of_getElem? (i := 1593) (by decide +kernel)⟩
theorem lw_p109 : lw_okq (⟨"PlantedDoubtsModel", "growAsked", "()I"⟩, 61) := ⟨⟨by decide +kernel, by decide +kernel⟩, List.mem_of_getElem? (i := 1102) (by decide +kernel), List.mem_of_getElem? (i := 1596) (by decide +kernel), List.mem_of_getElem? (i := 1597) (by decide +kernel)⟩
theorem lw_p110 : lw_okq (⟨"PlantedDoubtsModel", "greater", "(II)I"⟩, 61) := ⟨⟨by decide +kernel, by decide +kernel⟩, List.mem_of_getElem? (i := 1102) (by decide +kernel), List.mem_of_getElem? (i := 1600) (by decide +kernel), List.mem_of_getElem? (i := 1601) (by decide +kernel)⟩
theorem lw_p111 : lw_okq (⟨"PlantedDoubtsModel", "freezes", "()V"⟩, 61) := ⟨⟨by decide +kernel, by decide +kernel⟩, List.mem_of_getElem? (i := 1102) (by decide +kernel), List.mem_of_getElem? (i := 1604) (by decide +kernel), List.mem_of_getElem? (i := 1605) (by decide +kernel)⟩
def lw_privs_7 : List (MethodName × Nat) := [(⟨"PlantedDoubtsModel", "goesBy", "()V"⟩, 61), (⟨"PlantedDoubtsModel", "reasonsAt", "(I)V"⟩, 61), (⟨"PlantedDoubtsModel", "ofReason", "(II)I"⟩, 61), (⟨"PlantedDoubtsModel", "suresOf", "(I)I"⟩, 61), (⟨"PlantedDoubtsModel", "degreeOf", "(II)I"⟩, 61), (⟨"PlantedDoubtsModel", "grows", "(I)V"⟩, 61), (⟨"PlantedDoubtsModel", "asks", "(I)V"⟩, 61), (⟨"PlantedDoubtsModel", "onesOf", "(I)I"⟩, 61), (⟨"PlantedDoubtsModel", "lowerAsked", "()I"⟩, 61), (⟨"PlantedDoubtsModel", "lawTells", "(IIII)I"⟩, 61), (⟨"PlantedDoubtsModel", "lineOf", "(I)I"⟩, 61), (⟨"PlantedDoubtsModel", "runs", "(III)I"⟩, 61), (⟨"PlantedDoubtsModel", "twoOf", "(III)I"⟩, 61), (⟨"PlantedDoubtsModel", "growAsked", "()I"⟩, 61), (⟨"PlantedDoubtsModel", "greater", "(II)I"⟩, 61), (⟨"PlantedDoubtsModel", "freezes", "()V"⟩, 61)]
theorem lw_r7 : ∀ q ∈ lw_privs_7, lw_okq q := List.forall_mem_cons.mpr ⟨lw_p96, List.forall_mem_cons.mpr ⟨lw_p97, List.forall_mem_cons.mpr ⟨lw_p98, List.forall_mem_cons.mpr ⟨lw_p99, List.forall_mem_cons.mpr ⟨lw_p100, List.forall_mem_cons.mpr ⟨lw_p101, List.forall_mem_cons.mpr ⟨lw_p102, List.forall_mem_cons.mpr ⟨lw_p103, List.forall_mem_cons.mpr ⟨lw_p104, List.forall_mem_cons.mpr ⟨lw_p105, List.forall_mem_cons.mpr ⟨lw_p106, List.forall_mem_cons.mpr ⟨lw_p107, List.forall_mem_cons.mpr ⟨lw_p108, List.forall_mem_cons.mpr ⟨lw_p109, List.forall_mem_cons.mpr ⟨lw_p110, List.forall_mem_cons.mpr ⟨lw_p111, fun _ h => absurd h List.not_mem_nil⟩⟩⟩⟩⟩⟩⟩⟩⟩⟩⟩⟩⟩⟩⟩⟩
theorem lw_p112 : lw_okq (⟨"PlantedDoubtsModel", "draw", "(I)I"⟩, 61) := ⟨⟨by decide +kernel, by decide +kernel⟩, List.mem_of_getElem? (i := 1102) (by decide +kernel), List.mem_of_getElem? (i := 1608) (by decide +kernel), List.mem_of_getElem? (i := 1609) (by decide +kernel)⟩
theorem lw_p113 : lw_okq (⟨"PlantedDoubtsModel", "carriesOn", "()V"⟩, 61) := ⟨⟨by decide +kernel, by decide +kernel⟩, List.mem_of_getElem? (i := 1102) (by decide +kernel), List.mem_of_getElem? (i := 1614) (by decide +kernel), List.mem_of_getElem? (i := 1615) (by decide +kernel)⟩
theorem lw_p114 : lw_okq (⟨"PlantedDoubtsModel", "swarms", "(I)V"⟩, 61) := ⟨⟨by decide +kernel, by decide +kernel⟩, List.mem_of_getElem? (i := 1102) (by decide +kernel), List.mem_of_getElem? (i := 1618) (by decide +kernel), List.mem_of_getElem? (i := 1619) (by decide +kernel)⟩
theorem lw_p115 : lw_okq (⟨"PlantedDoubtsModel", "emptyBy", "(I)I"⟩, 61) := ⟨⟨by decide +kernel, by decide +kernel⟩, List.mem_of_getElem? (i := 1102) (by decide +kernel), List.mem_of_getElem? (i := 1622) (by decide +kernel), List.mem_of_getElem? (i := 1623) (by decide +kernel)⟩
theorem lw_p116 : lw_okq (⟨"PlantedDoubtsModel", "seedAsked", "()I"⟩, 61) := ⟨⟨by decide +kernel, by decide +kernel⟩, List.mem_of_getElem? (i := 1102) (by decide +kernel), List.mem_of_getElem? (i := 1626) (by decide +kernel), List.mem_of_getElem? (i := 1627) (by decide +kernel)⟩
theorem lw_p117 : lw_okq (⟨"PlantedDoubtsModel", "inspects", "()V"⟩, 61) := ⟨⟨by decide +kernel, by decide +kernel⟩, List.mem_of_getElem? (i := 1102) (by decide +kernel), List.mem_of_getElem? (i := 1630) (by decide +kernel), List.mem_of_getElem? (i := 1631) (by decide +kernel)⟩
theorem lw_p118 : lw_okq (⟨"PlantedDoubtsModel", "most", "()I"⟩, 61) := ⟨⟨by decide +kernel, by decide +kernel⟩, List.mem_of_getElem? (i := 1102) (by decide +kernel), List.mem_of_getElem? (i := 1634) (by decide +kernel), List.mem_of_getElem? (i := 1635) (by decide +kernel)⟩
theorem lw_p119 : lw_okq (⟨"PlantedDoubtsModel", "ofPot", "(II)I"⟩, 61) := ⟨⟨by decide +kernel, by decide +kernel⟩, List.mem_of_getElem? (i := 1102) (by decide +kernel), List.mem_of_getElem? (i := 1642) (by decide +kernel), List.mem_of_getElem? (i := 1643) (by decide +kernel)⟩
theorem lw_p120 : lw_okq (⟨"PlantedDoubtsModel", "thinks", "()V"⟩, 61) := ⟨⟨by decide +kernel, by decide +kernel⟩, List.mem_of_getElem? (i := 1102) (by decide +kernel), List.mem_of_getElem? (i := 1658) (by decide +kernel), List.mem_of_getElem? (i := 1659) (by decide +kernel)⟩
theorem lw_p121 : lw_okq (⟨"PlantedDoubtsModel", "endsThought", "()V"⟩, 61) := ⟨⟨by decide +kernel, by decide +kernel⟩, List.mem_of_getElem? (i := 1102) (by decide +kernel), List.mem_of_getElem? (i := 1662) (by decide +kernel), List.mem_of_getElem? (i := 1663) (by decide +kernel)⟩
theorem lw_p122 : lw_okq (⟨"PlantedDoubtsModel", "thinksAnew", "()V"⟩, 61) := ⟨⟨by decide +kernel, by decide +kernel⟩, List.mem_of_getElem? (i := 1102) (by decide +kernel), List.mem_of_getElem? (i := 1666) (by decide +kernel), List.mem_of_getElem? (i := 1667) (by decide +kernel)⟩
theorem lw_p123 : lw_okq (⟨"PlantedDoubtsModel", "findsNeeds", "()V"⟩, 61) := ⟨⟨by decide +kernel, by decide +kernel⟩, List.mem_of_getElem? (i := 1102) (by decide +kernel), List.mem_of_getElem? (i := 1674) (by decide +kernel), List.mem_of_getElem? (i := 1675) (by decide +kernel)⟩
theorem lw_p124 : lw_okq (⟨"PlantedDoubtsModel", "setFor", "(I)I"⟩, 61) := ⟨⟨by decide +kernel, by decide +kernel⟩, List.mem_of_getElem? (i := 1102) (by decide +kernel), List.mem_of_getElem? (i := 1678) (by decide +kernel), List.mem_of_getElem? (i := 1679) (by decide +kernel)⟩
theorem lw_p125 : lw_okq (⟨"PlantedDoubtsModel", "canTake", "(II)Z"⟩, 61) := ⟨⟨by decide +kernel, by decide +kernel⟩, List.mem_of_getElem? (i := 1102) (by decide +kernel), List.mem_of_getElem? (i := 1682) (by decide +kernel), List.mem_of_getElem? (i := 1683) (by decide +kernel)⟩
theorem lw_p126 : lw_okq (⟨"PlantedDoubtsModel", "canAll", "(I)Z"⟩, 61) := ⟨⟨by decide +kernel, by decide +kernel⟩, List.mem_of_getElem? (i := 1102) (by decide +kernel), List.mem_of_getElem? (i := 1686) (by decide +kernel), List.mem_of_getElem? (i := 1687) (by decide +kernel)⟩
theorem lw_p127 : lw_okq (⟨"PlantedDoubtsModel", "getsOne", "(II)Z"⟩, 61) := ⟨⟨by decide +kernel, by decide +kernel⟩, List.mem_of_getElem? (i := 1102) (by decide +kernel), List.mem_of_getElem? (i := 1690) (by decide +kernel), List.mem_of_getElem? (i := 1691) (by decide +kernel)⟩
def lw_privs_8 : List (MethodName × Nat) := [(⟨"PlantedDoubtsModel", "draw", "(I)I"⟩, 61), (⟨"PlantedDoubtsModel", "carriesOn", "()V"⟩, 61), (⟨"PlantedDoubtsModel", "swarms", "(I)V"⟩, 61), (⟨"PlantedDoubtsModel", "emptyBy", "(I)I"⟩, 61), (⟨"PlantedDoubtsModel", "seedAsked", "()I"⟩, 61), (⟨"PlantedDoubtsModel", "inspects", "()V"⟩, 61), (⟨"PlantedDoubtsModel", "most", "()I"⟩, 61), (⟨"PlantedDoubtsModel", "ofPot", "(II)I"⟩, 61), (⟨"PlantedDoubtsModel", "thinks", "()V"⟩, 61), (⟨"PlantedDoubtsModel", "endsThought", "()V"⟩, 61), (⟨"PlantedDoubtsModel", "thinksAnew", "()V"⟩, 61), (⟨"PlantedDoubtsModel", "findsNeeds", "()V"⟩, 61), (⟨"PlantedDoubtsModel", "setFor", "(I)I"⟩, 61), (⟨"PlantedDoubtsModel", "canTake", "(II)Z"⟩, 61), (⟨"PlantedDoubtsModel", "canAll", "(I)Z"⟩, 61), (⟨"PlantedDoubtsModel", "getsOne", "(II)Z"⟩, 61)]
theorem lw_r8 : ∀ q ∈ lw_privs_8, lw_okq q := List.forall_mem_cons.mpr ⟨lw_p112, List.forall_mem_cons.mpr ⟨lw_p113, List.forall_mem_cons.mpr ⟨lw_p114, List.forall_mem_cons.mpr ⟨lw_p115, List.forall_mem_cons.mpr ⟨lw_p116, List.forall_mem_cons.mpr ⟨lw_p117, List.forall_mem_cons.mpr ⟨lw_p118, List.forall_mem_cons.mpr ⟨lw_p119, List.forall_mem_cons.mpr ⟨lw_p120, List.forall_mem_cons.mpr ⟨lw_p121, List.forall_mem_cons.mpr ⟨lw_p122, List.forall_mem_cons.mpr ⟨lw_p123, List.forall_mem_cons.mpr ⟨lw_p124, List.forall_mem_cons.mpr ⟨lw_p125, List.forall_mem_cons.mpr ⟨lw_p126, List.forall_mem_cons.mpr ⟨lw_p127, fun _ h => absurd h List.not_mem_nil⟩⟩⟩⟩⟩⟩⟩⟩⟩⟩⟩⟩⟩⟩⟩⟩
theorem lw_p128 : lw_okq (⟨"PlantedDoubtsModel", "reaches", "(II)I"⟩, 61) := ⟨⟨by decide +kernel, by decide +kernel⟩, List.mem_of_getElem? (i := 1102) (by decide +kernel), List.mem_of_getElem? (i := 1694) (by decide +kernel), List.mem_of_getElem? (i := 1695) (by decide +kernel)⟩
theorem lw_p129 : lw_okq (⟨"PlantedDoubtsModel", "freeThing", "(I)I"⟩, 61) := ⟨⟨by decide +kernel, by decide +kernel⟩, List.mem_of_getElem? (i := 1102) (by decide +kernel), List.mem_of_getElem? (i := 1698) (by decide +kernel), List.mem_of_getElem? (i := 1699) (by decide +kernel)⟩
theorem lw_p130 : lw_okq (⟨"PlantedDoubtsModel", "areAtPeace", "(I)Z"⟩, 61) := ⟨⟨by decide +kernel, by decide +kernel⟩, List.mem_of_getElem? (i := 1102) (by decide +kernel), List.mem_of_getElem? (i := 1711) (by decide +kernel), List.mem_of_getElem? (i := 1712) (by decide +kernel)⟩
theorem lw_p131 : lw_okq (⟨"PlantedDoubtsModel", "doesStand", "(II)Z"⟩, 61) := ⟨⟨by decide +kernel, by decide +kernel⟩, List.mem_of_getElem? (i := 1102) (by decide +kernel), List.mem_of_getElem? (i := 1719) (by decide +kernel), List.mem_of_getElem? (i := 1720) (by decide +kernel)⟩
theorem lw_p132 : lw_okq (⟨"PlantedDoubtsModel", "linesOut", "(I)I"⟩, 61) := ⟨⟨by decide +kernel, by decide +kernel⟩, List.mem_of_getElem? (i := 1102) (by decide +kernel), List.mem_of_getElem? (i := 1731) (by decide +kernel), List.mem_of_getElem? (i := 1732) (by decide +kernel)⟩
theorem lw_p133 : lw_okq (⟨"PlantedDoubtsModel", "fitsWith", "(III)I"⟩, 61) := ⟨⟨by decide +kernel, by decide +kernel⟩, List.mem_of_getElem? (i := 1102) (by decide +kernel), List.mem_of_getElem? (i := 1743) (by decide +kernel), List.mem_of_getElem? (i := 1744) (by decide +kernel)⟩
theorem lw_p134 : lw_okq (⟨"PlantedDoubtsModel", "doesFit", "(III)Z"⟩, 61) := ⟨⟨by decide +kernel, by decide +kernel⟩, List.mem_of_getElem? (i := 1102) (by decide +kernel), List.mem_of_getElem? (i := 1747) (by decide +kernel), List.mem_of_getElem? (i := 1748) (by decide +kernel)⟩
theorem lw_p135 : lw_okq (⟨"PlantedDoubtsModel", "livesBy", "(III)Z"⟩, 61) := ⟨⟨by decide +kernel, by decide +kernel⟩, List.mem_of_getElem? (i := 1102) (by decide +kernel), List.mem_of_getElem? (i := 1759) (by decide +kernel), List.mem_of_getElem? (i := 1760) (by decide +kernel)⟩
theorem lw_p136 : lw_okq (⟨"PlantedDoubtsModel", "highOf", "(I)I"⟩, 61) := ⟨⟨by decide +kernel, by decide +kernel⟩, List.mem_of_getElem? (i := 1102) (by decide +kernel), List.mem_of_getElem? (i := 1767) (by decide +kernel), List.mem_of_getElem? (i := 1768) (by decide +kernel)⟩
theorem lw_p137 : lw_okq (⟨"PlantedDoubtsModel", "sumOf", "(I)I"⟩, 61) := ⟨⟨by decide +kernel, by decide +kernel⟩, List.mem_of_getElem? (i := 1102) (by decide +kernel), List.mem_of_getElem? (i := 1775) (by decide +kernel), List.mem_of_getElem? (i := 1776) (by decide +kernel)⟩
theorem lw_p138 : lw_okq (⟨"PlantedDoubtsModel", "keeps", "(I)I"⟩, 61) := ⟨⟨by decide +kernel, by decide +kernel⟩, List.mem_of_getElem? (i := 1102) (by decide +kernel), List.mem_of_getElem? (i := 1783) (by decide +kernel), List.mem_of_getElem? (i := 1784) (by decide +kernel)⟩
theorem lw_p139 : lw_okq (⟨"PlantedDoubtsModel", "keepsTold", "()V"⟩, 61) := ⟨⟨by decide +kernel, by decide +kernel⟩, List.mem_of_getElem? (i := 1102) (by decide +kernel), List.mem_of_getElem? (i := 1787) (by decide +kernel), List.mem_of_getElem? (i := 1788) (by decide +kernel)⟩
theorem lw_p140 : lw_okq (⟨"PlantedDoubtsModel", "keepsLaw", "()V"⟩, 61) := ⟨⟨by decide +kernel, by decide +kernel⟩, List.mem_of_getElem? (i := 1102) (by decide +kernel), List.mem_of_getElem? (i := 1791) (by decide +kernel), List.mem_of_getElem? (i := 1792) (by decide +kernel)⟩
theorem lw_p141 : lw_okq (⟨"PlantedDoubtsModel", "potMany", "()I"⟩, 61) := ⟨⟨by decide +kernel, by decide +kernel⟩, List.mem_of_getElem? (i := 1102) (by decide +kernel), List.mem_of_getElem? (i := 1799) (by decide +kernel), List.mem_of_getElem? (i := 1800) (by decide +kernel)⟩
def lw_privs_9 : List (MethodName × Nat) := [(⟨"PlantedDoubtsModel", "reaches", "(II)I"⟩, 61), (⟨"PlantedDoubtsModel", "freeThing", "(I)I"⟩, 61), (⟨"PlantedDoubtsModel", "areAtPeace", "(I)Z"⟩, 61), (⟨"PlantedDoubtsModel", "doesStand", "(II)Z"⟩, 61), (⟨"PlantedDoubtsModel", "linesOut", "(I)I"⟩, 61), (⟨"PlantedDoubtsModel", "fitsWith", "(III)I"⟩, 61), (⟨"PlantedDoubtsModel", "doesFit", "(III)Z"⟩, 61), (⟨"PlantedDoubtsModel", "livesBy", "(III)Z"⟩, 61), (⟨"PlantedDoubtsModel", "highOf", "(I)I"⟩, 61), (⟨"PlantedDoubtsModel", "sumOf", "(I)I"⟩, 61), (⟨"PlantedDoubtsModel", "keeps", "(I)I"⟩, 61), (⟨"PlantedDoubtsModel", "keepsTold", "()V"⟩, 61), (⟨"PlantedDoubtsModel", "keepsLaw", "()V"⟩, 61), (⟨"PlantedDoubtsModel", "potMany", "()I"⟩, 61)]
theorem lw_r9 : ∀ q ∈ lw_privs_9, lw_okq q := List.forall_mem_cons.mpr ⟨lw_p128, List.forall_mem_cons.mpr ⟨lw_p129, List.forall_mem_cons.mpr ⟨lw_p130, List.forall_mem_cons.mpr ⟨lw_p131, List.forall_mem_cons.mpr ⟨lw_p132, List.forall_mem_cons.mpr ⟨lw_p133, List.forall_mem_cons.mpr ⟨lw_p134, List.forall_mem_cons.mpr ⟨lw_p135, List.forall_mem_cons.mpr ⟨lw_p136, List.forall_mem_cons.mpr ⟨lw_p137, List.forall_mem_cons.mpr ⟨lw_p138, List.forall_mem_cons.mpr ⟨lw_p139, List.forall_mem_cons.mpr ⟨lw_p140, List.forall_mem_cons.mpr ⟨lw_p141, fun _ h => absurd h List.not_mem_nil⟩⟩⟩⟩⟩⟩⟩⟩⟩⟩⟩⟩⟩⟩
def lw_privs : List (MethodName × Nat) := lw_privs_1 ++ (lw_privs_2 ++ (lw_privs_3 ++ (lw_privs_4 ++ (lw_privs_5 ++ (lw_privs_6 ++ (lw_privs_7 ++ (lw_privs_8 ++ (lw_privs_9))))))))
def lw_tbl : List Cond := k2_sels lw_privs ++ tables_1
theorem lw_privs_ok : ∀ q ∈ lw_privs, lw_okq q := by
  show ∀ q ∈ lw_privs_1 ++ (lw_privs_2 ++ (lw_privs_3 ++ (lw_privs_4 ++ (lw_privs_5 ++ (lw_privs_6 ++ (lw_privs_7 ++ (lw_privs_8 ++ (lw_privs_9)))))))), lw_okq q
  exact List.forall_mem_append.mpr ⟨lw_r1, List.forall_mem_append.mpr ⟨lw_r2, List.forall_mem_append.mpr ⟨lw_r3, List.forall_mem_append.mpr ⟨lw_r4, List.forall_mem_append.mpr ⟨lw_r5, List.forall_mem_append.mpr ⟨lw_r6, List.forall_mem_append.mpr ⟨lw_r7, List.forall_mem_append.mpr ⟨lw_r8, lw_r9⟩⟩⟩⟩⟩⟩⟩⟩
end
section
/-! the memory of a fixed set of cells, and the machine's world that holds it -/
abbrev z_M : Type := Nat → Nat → Int32
def z_set (σ : z_M) (c k : Nat) (v : Int32) : z_M := fun c' => if c' = c then upd (σ c) k v else σ c'
def z_row (σ : z_M) (c : Nat) (f : Nat → Int32) : z_M := fun c' => if c' = c then f else σ c'
abbrev z_S : Type := (Nat → Nat) × (Nat → Nat) × (Nat → Nat → Option Nat) × Nat
abbrev z_Y : Type := ClassId × ClassId × ClassId
def z_fv (S : z_S) (a : Nat → Nat) (σ : z_M) (c k : Nat) : Value := match S.2.2.1 c k with
  | some q => .ref (a q)
  | none => .int (σ c k)
def z_E (S : z_S) (Y : z_Y) (a : Nat → Nat) (σ : z_M) (c : Nat) : va_E :=
  if S.1 c < 100 then .inr (S.1 c, (List.range (S.2.1 c)).map (z_fv S a σ c))
  else if S.1 c = 100 then .inl (Y.1, S.2.1 c, .inl (σ c))
  else if S.1 c = 101 then .inl (Y.2.1, S.2.1 c, .inl (σ c))
  else .inl (Y.2.2, S.2.1 c, .inr (.inr (.inr (.inr (fun k => (S.2.2.1 c k).map a)))))
def z_wl (S : z_S) (Y : z_Y) (a : Nat → Nat) (σ : z_M) : va_W := (List.range S.2.2.2).map (fun c => (a c, z_E S Y a σ c))
theorem z_wl_at {S : z_S} {Y : z_Y} {a : Nat → Nat} {σ : z_M} {c : Nat} (h : c < S.2.2.2) : (z_wl S Y a σ)[c]? = some (a c, z_E S Y a σ c) := by
  simp [z_wl, h]
theorem z_wl_of {S : z_S} {Y : z_Y} {a : Nat → Nat} {σ : z_M} {c : Nat} {q : Nat × va_E} (h : (z_wl S Y a σ)[c]? = some q) : c < S.2.2.2 ∧ q = (a c, z_E S Y a σ c) := by
  have hl : c < (z_wl S Y a σ).length := (List.getElem?_eq_some_iff.mp h).1
  have hc : c < S.2.2.2 := by simpa [z_wl] using hl
  rw [z_wl_at hc] at h
  exact ⟨hc, (Option.some.inj h).symm⟩
theorem z_wl_set {S : z_S} {Y : z_Y} {a : Nat → Nat} {σ σ' : z_M} {c : Nat} {e : va_E} (h : c < S.2.2.2) (he : e = z_E S Y a σ' c) (ho : ∀ c', c' ≠ c → σ' c' = σ c') : (z_wl S Y a σ).set c (a c, e) = z_wl S Y a σ' := by
  apply List.ext_getElem?
  intro i
  by_cases hi : i = c
  · subst hi
    rw [List.getElem?_set_self (by simpa [z_wl] using h), z_wl_at h, he]
  · rw [List.getElem?_set_ne (Ne.symm hi)]
    by_cases hl : i < S.2.2.2
    · rw [z_wl_at hl, z_wl_at hl]
      have h1 := ho i hi
      have h2 : z_E S Y a σ i = z_E S Y a σ' i := by
        unfold z_E
        have h3 : z_fv S a σ i = z_fv S a σ' i := by
          funext k
          unfold z_fv
          rw [h1]
        rw [h3, h1]
      rw [h2]
    · rw [List.getElem?_eq_none (by simp [z_wl]; omega), List.getElem?_eq_none (by simp [z_wl]; omega)]
/-- the addresses of the cells -/
def z_A (S : z_S) (a : Nat → Nat) : Nat → Prop := fun q => ∃ c, c < S.2.2.2 ∧ q = a c
def z_In (S : z_S) (a : Nat → Nat) : Prop := ∀ i j, i < S.2.2.2 → j < S.2.2.2 → a i = a j → i = j
theorem z_D {S : z_S} {Y : z_Y} {a : Nat → Nat} {σ : z_M} (h : z_In S a) : va_D (z_A S a) (z_wl S Y a σ) := by
  refine ⟨fun i j p q hi hj hpq => ?_, fun k q hk => ?_⟩
  · obtain ⟨h1, rfl⟩ := z_wl_of hi
    obtain ⟨h2, rfl⟩ := z_wl_of hj
    exact h i j h1 h2 hpq
  · obtain ⟨h1, rfl⟩ := z_wl_of hk
    exact ⟨k, h1, rfl⟩
/-- the good words of the tables -/
def z_T : List Cond := lw_tbl.filter goodWord
theorem z_T_good {w : Cond} (h : w ∈ z_T) : w ∈ z_T ∧ ((w.onTables && w.keeps) = true ∨ ∃ ty, w = .arrayClass ty) := ⟨h, good_of_word (List.mem_filter.mp h).2⟩
theorem z_t1 (i : Nat) {w : Cond} (h : tables_1_1[i]? = some w) (g : goodWord w = true) : w ∈ z_T := List.mem_filter.mpr ⟨List.mem_append_right _ (List.mem_append_left _ (List.mem_of_getElem? h)), g⟩
theorem z_t2 (i : Nat) {w : Cond} (h : tables_1_2[i]? = some w) (g : goodWord w = true) : w ∈ z_T := List.mem_filter.mpr ⟨List.mem_append_right _ (List.mem_append_right _ (List.mem_append_left _ (List.mem_of_getElem? h))), g⟩
theorem z_t3 (i : Nat) {w : Cond} (h : tables_1_3[i]? = some w) (g : goodWord w = true) : w ∈ z_T := List.mem_filter.mpr ⟨List.mem_append_right _ (List.mem_append_right _ (List.mem_append_right _ (List.mem_append_left _ (List.mem_of_getElem? h)))), g⟩
theorem z_t4 (i : Nat) {w : Cond} (h : tables_1_4[i]? = some w) (g : goodWord w = true) : w ∈ z_T := List.mem_filter.mpr ⟨List.mem_append_right _ (List.mem_append_right _ (List.mem_append_right _ (List.mem_append_right _ (List.mem_append_left _ (List.mem_of_getElem? h))))), g⟩
theorem z_t5 (i : Nat) {w : Cond} (h : tables_1_5[i]? = some w) (g : goodWord w = true) : w ∈ z_T := List.mem_filter.mpr ⟨List.mem_append_right _ (List.mem_append_right _ (List.mem_append_right _ (List.mem_append_right _ (List.mem_append_right _ (List.mem_append_left _ (List.mem_of_getElem? h)))))), g⟩
theorem z_t6 (i : Nat) {w : Cond} (h : tables_1_6[i]? = some w) (g : goodWord w = true) : w ∈ z_T := List.mem_filter.mpr ⟨List.mem_append_right _ (List.mem_append_right _ (List.mem_append_right _ (List.mem_append_right _ (List.mem_append_right _ (List.mem_append_right _ (List.mem_append_left _ (List.mem_of_getElem? h))))))), g⟩
theorem z_t7 (i : Nat) {w : Cond} (h : tables_1_7[i]? = some w) (g : goodWord w = true) : w ∈ z_T := List.mem_filter.mpr ⟨List.mem_append_right _ (List.mem_append_right _ (List.mem_append_right _ (List.mem_append_right _ (List.mem_append_right _ (List.mem_append_right _ (List.mem_append_right _ (List.mem_append_left _ (List.mem_of_getElem? h)))))))), g⟩
theorem z_t8 (i : Nat) {w : Cond} (h : tables_1_8[i]? = some w) (g : goodWord w = true) : w ∈ z_T := List.mem_filter.mpr ⟨List.mem_append_right _ (List.mem_append_right _ (List.mem_append_right _ (List.mem_append_right _ (List.mem_append_right _ (List.mem_append_right _ (List.mem_append_right _ (List.mem_append_right _ (List.mem_of_getElem? h)))))))), g⟩
theorem z_t0 (i : Nat) {w : Cond} (h : (k2_sels lw_privs)[i]? = some w) (g : goodWord w = true) : w ∈ z_T := List.mem_filter.mpr ⟨List.mem_append_left _ (List.mem_of_getElem? h), g⟩
end
section
def RX0 : String := "PlantedDoubts$Beds"
def TX0 : u_T := fun k => match k with
  | 0 => ("PlantedDoubts$Beds", "degree", "[I", true)
  | 1 => ("PlantedDoubts$Beds", "thing", "[I", true)
  | 2 => ("PlantedDoubts$Beds", "height", "[I", true)
  | 3 => ("PlantedDoubts$Beds", "tender", "[I", true)
  | 4 => ("PlantedDoubts$Beds", "water", "[I", true)
  | 5 => ("PlantedDoubts$Beds", "draws", "I", false)
  | 6 => ("PlantedDoubts$Beds", "week", "I", false)
  | 7 => ("PlantedDoubts$Beds", "breaches", "I", false)
  | _ => ("PlantedDoubts$Beds", "leaves", "I", false)
def tyX0 : Nat → FieldType := fun k => match k with
  | 0 => .array .int
  | 1 => .array .int
  | 2 => .array .int
  | 3 => .array .int
  | 4 => .array .int
  | 5 => .int
  | 6 => .int
  | 7 => .int
  | _ => .int
abbrev wsX00 : List Cond := u_ws RX0 TX0 9
theorem nmX0 : ∀ a, a < 9 → ∀ b, b < 9 → a ≠ b → (TX0 a).2.1 ≠ (TX0 b).2.1 := by decide +kernel
theorem tyX0_ok : ∀ k, k < 9 → parseFieldDescriptor (TX0 k).2.2.1 = some (tyX0 k) := by decide +kernel
abbrev cX0_init : ByteArray := prog_2_method_1_code
def yX0_init : MethodName := ⟨RX0, "<init>", "()V"⟩
abbrev cX0_copyFrom : ByteArray := prog_2_method_2_code
def yX0_copyFrom : MethodName := ⟨RX0, "copyFrom", "(LPlantedDoubts$Beds;)V"⟩
abbrev cX0_hasPot : ByteArray := prog_2_method_3_code
def yX0_hasPot : MethodName := ⟨RX0, "hasPot", "(I)Z"⟩
abbrev cX0_putPot : ByteArray := prog_2_method_4_code
def yX0_putPot : MethodName := ⟨RX0, "putPot", "(IIII)V"⟩
abbrev cX0_clearPot : ByteArray := prog_2_method_5_code
def yX0_clearPot : MethodName := ⟨RX0, "clearPot", "(I)V"⟩
abbrev cX0_degreeOf : ByteArray := prog_2_method_6_code
def yX0_degreeOf : MethodName := ⟨RX0, "degreeOf", "(II)I"⟩
abbrev cX0_believe : ByteArray := prog_2_method_7_code
def yX0_believe : MethodName := ⟨RX0, "believe", "(III)V"⟩
abbrev cX0_sureOf : ByteArray := prog_2_method_8_code
def yX0_sureOf : MethodName := ⟨RX0, "sureOf", "(I)I"⟩
abbrev cX0_sures : ByteArray := prog_2_method_9_code
def yX0_sures : MethodName := ⟨RX0, "sures", "(I)I"⟩
abbrev cX0_sumOf : ByteArray := prog_2_method_10_code
def yX0_sumOf : MethodName := ⟨RX0, "sumOf", "(II)I"⟩
def RX1 : String := "PlantedDoubts$Garden"
def TX1 : u_T := fun k => match k with
  | 0 => ("PlantedDoubts$Garden", "houses", "I", false)
  | 1 => ("PlantedDoubts$Garden", "most", "I", false)
  | 2 => ("PlantedDoubts$Garden", "frost", "I", false)
  | 3 => ("PlantedDoubts$Garden", "bees", "I", false)
  | 4 => ("PlantedDoubts$Garden", "stock", "[I", true)
  | 5 => ("PlantedDoubts$Garden", "lines", "[I", true)
  | 6 => ("PlantedDoubts$Garden", "reasons", "LPlantedDoubts$Text;", true)
  | 7 => ("PlantedDoubts$Garden", "law", "LPlantedDoubts$Text;", true)
  | 8 => ("PlantedDoubts$Garden", "works", "LPlantedDoubts$Text;", true)
  | 9 => ("PlantedDoubts$Garden", "plan", "LPlantedDoubts$Text;", true)
  | 10 => ("PlantedDoubts$Garden", "talk", "[I", true)
  | 11 => ("PlantedDoubts$Garden", "talks", "I", false)
  | 12 => ("PlantedDoubts$Garden", "book", "[I", true)
  | _ => ("PlantedDoubts$Garden", "beds", "LPlantedDoubts$Beds;", true)
def tyX1 : Nat → FieldType := fun k => match k with
  | 0 => .int
  | 1 => .int
  | 2 => .int
  | 3 => .int
  | 4 => .array .int
  | 5 => .array .int
  | 6 => .object "PlantedDoubts$Text"
  | 7 => .object "PlantedDoubts$Text"
  | 8 => .object "PlantedDoubts$Text"
  | 9 => .object "PlantedDoubts$Text"
  | 10 => .array .int
  | 11 => .int
  | 12 => .array .int
  | _ => .object "PlantedDoubts$Beds"
abbrev wsX10 : List Cond := u_ws RX1 TX1 14
theorem nmX1 : ∀ a, a < 14 → ∀ b, b < 14 → a ≠ b → (TX1 a).2.1 ≠ (TX1 b).2.1 := by decide +kernel
theorem tyX1_ok : ∀ k, k < 14 → parseFieldDescriptor (TX1 k).2.2.1 = some (tyX1 k) := by decide +kernel
abbrev cX1_init : ByteArray := prog_3_method_1_code
def yX1_init : MethodName := ⟨RX1, "<init>", "()V"⟩
abbrev cX1_copyFrom : ByteArray := prog_3_method_2_code
def yX1_copyFrom : MethodName := ⟨RX1, "copyFrom", "(LPlantedDoubts$Garden;)V"⟩
abbrev cX1_told : ByteArray := prog_3_method_3_code
def yX1_told : MethodName := ⟨RX1, "told", "(I)LPlantedDoubts$Text;"⟩
abbrev cX1_join : ByteArray := prog_3_method_4_code
def yX1_join : MethodName := ⟨RX1, "join", "(IIZ)V"⟩
abbrev cX1_heard : ByteArray := prog_3_method_5_code
def yX1_heard : MethodName := ⟨RX1, "heard", "(III)V"⟩
abbrev cX1_pots : ByteArray := prog_3_method_6_code
def yX1_pots : MethodName := ⟨RX1, "pots", "()I"⟩
def RX2 : String := "PlantedDoubts$Gifts"
def TX2 : u_T := fun k => match k with
  | 0 => ("PlantedDoubts$Gifts", "all", "I", false)
  | 1 => ("PlantedDoubts$Gifts", "given", "[I", true)
  | 2 => ("PlantedDoubts$Gifts", "may", "[I", true)
  | 3 => ("PlantedDoubts$Gifts", "left", "[I", true)
  | _ => ("PlantedDoubts$Gifts", "tried", "I", false)
def tyX2 : Nat → FieldType := fun k => match k with
  | 0 => .int
  | 1 => .array .int
  | 2 => .array .int
  | 3 => .array .int
  | _ => .int
abbrev wsX20 : List Cond := u_ws RX2 TX2 5
theorem nmX2 : ∀ a, a < 5 → ∀ b, b < 5 → a ≠ b → (TX2 a).2.1 ≠ (TX2 b).2.1 := by decide +kernel
theorem tyX2_ok : ∀ k, k < 5 → parseFieldDescriptor (TX2 k).2.2.1 = some (tyX2 k) := by decide +kernel
abbrev cX2_init : ByteArray := prog_4_method_1_code
def yX2_init : MethodName := ⟨RX2, "<init>", "()V"⟩
abbrev cX2_share : ByteArray := prog_4_method_2_code
def yX2_share : MethodName := ⟨RX2, "share", "(LPlantedDoubts$Garden;)Z"⟩
abbrev cX2_lessen : ByteArray := prog_4_method_3_code
def yX2_lessen : MethodName := ⟨RX2, "lessen", "(I)V"⟩
abbrev cX2_place : ByteArray := prog_4_method_4_code
def yX2_place : MethodName := ⟨RX2, "place", "(II)Z"⟩
abbrev cX2_frees : ByteArray := prog_4_method_5_code
def yX2_frees : MethodName := ⟨RX2, "frees", "(II)Z"⟩
abbrev cX2_hand : ByteArray := prog_4_method_6_code
def yX2_hand : MethodName := ⟨RX2, "hand", "(II)V"⟩
abbrev cX2_drop : ByteArray := prog_4_method_7_code
def yX2_drop : MethodName := ⟨RX2, "drop", "(II)V"⟩
def RX3 : String := "PlantedDoubts$Grammar"
def TX3 : u_T := fun k => match k with
  | 0 => ("PlantedDoubts$Grammar", "tape", "LPlantedDoubts$Tape;", true)
  | 1 => ("PlantedDoubts$Grammar", "draft", "LPlantedDoubts$Text;", true)
  | 2 => ("PlantedDoubts$Grammar", "fault", "I", false)
  | 3 => ("PlantedDoubts$Grammar", "place", "I", false)
  | 4 => ("PlantedDoubts$Grammar", "token", "I", false)
  | 5 => ("PlantedDoubts$Grammar", "houses", "I", false)
  | 6 => ("PlantedDoubts$Grammar", "mostLines", "I", false)
  | 7 => ("PlantedDoubts$Grammar", "waiting", "[I", true)
  | 8 => ("PlantedDoubts$Grammar", "top", "I", false)
  | _ => ("PlantedDoubts$Grammar", "open", "I", false)
def tyX3 : Nat → FieldType := fun k => match k with
  | 0 => .object "PlantedDoubts$Tape"
  | 1 => .object "PlantedDoubts$Text"
  | 2 => .int
  | 3 => .int
  | 4 => .int
  | 5 => .int
  | 6 => .int
  | 7 => .array .int
  | 8 => .int
  | _ => .int
abbrev wsX30 : List Cond := u_ws RX3 TX3 10
theorem nmX3 : ∀ a, a < 10 → ∀ b, b < 10 → a ≠ b → (TX3 a).2.1 ≠ (TX3 b).2.1 := by decide +kernel
theorem tyX3_ok : ∀ k, k < 10 → parseFieldDescriptor (TX3 k).2.2.1 = some (tyX3 k) := by decide +kernel
abbrev cX3_init : ByteArray := prog_5_method_1_code
def yX3_init : MethodName := ⟨RX3, "<init>", "(LPlantedDoubts$Tape;)V"⟩
abbrev cX3_read : ByteArray := prog_5_method_2_code
def yX3_read : MethodName := ⟨RX3, "read", "(II)Z"⟩
abbrev cX3_readReason : ByteArray := prog_5_method_3_code
def yX3_readReason : MethodName := ⟨RX3, "readReason", "()V"⟩
abbrev cX3_another : ByteArray := prog_5_method_4_code
def yX3_another : MethodName := ⟨RX3, "another", "(I)I"⟩
abbrev cX3_readLaw : ByteArray := prog_5_method_5_code
def yX3_readLaw : MethodName := ⟨RX3, "readLaw", "()V"⟩
abbrev cX3_readWork : ByteArray := prog_5_method_6_code
def yX3_readWork : MethodName := ⟨RX3, "readWork", "()V"⟩
abbrev cX3_readPlan : ByteArray := prog_5_method_7_code
def yX3_readPlan : MethodName := ⟨RX3, "readPlan", "()V"⟩
abbrev cX3_begins : ByteArray := prog_5_method_8_code
def yX3_begins : MethodName := ⟨RX3, "begins", "(Z)V"⟩
abbrev cX3_finish : ByteArray := prog_5_method_9_code
def yX3_finish : MethodName := ⟨RX3, "finish", "(IIIII)V"⟩
abbrev cX3_readCondition : ByteArray := prog_5_method_10_code
def yX3_readCondition : MethodName := ⟨RX3, "readCondition", "()V"⟩
abbrev cX3_opens : ByteArray := prog_5_method_11_code
def yX3_opens : MethodName := ⟨RX3, "opens", "()V"⟩
abbrev cX3_waits : ByteArray := prog_5_method_12_code
def yX3_waits : MethodName := ⟨RX3, "waits", "()V"⟩
abbrev cX3_joins : ByteArray := prog_5_method_13_code
def yX3_joins : MethodName := ⟨RX3, "joins", "()Z"⟩
abbrev cX3_settle : ByteArray := prog_5_method_14_code
def yX3_settle : MethodName := ⟨RX3, "settle", "(I)V"⟩
abbrev cX3_readSum : ByteArray := prog_5_method_15_code
def yX3_readSum : MethodName := ⟨RX3, "readSum", "()V"⟩
abbrev cX3_readUnit : ByteArray := prog_5_method_16_code
def yX3_readUnit : MethodName := ⟨RX3, "readUnit", "()V"⟩
abbrev cX3_kind : ByteArray := prog_5_method_17_code
def yX3_kind : MethodName := ⟨RX3, "kind", "()I"⟩
abbrev cX3_takes : ByteArray := prog_5_method_18_code
def yX3_takes : MethodName := ⟨RX3, "takes", "(I)V"⟩
abbrev cX3_number : ByteArray := prog_5_method_19_code
def yX3_number : MethodName := ⟨RX3, "number", "(II)I"⟩
abbrev cX3_fail : ByteArray := prog_5_method_20_code
def yX3_fail : MethodName := ⟨RX3, "fail", "(II)V"⟩
def RX4 : String := "PlantedDoubts$Grounds"
def TX4 : u_T := fun k => match k with
  | _ => ("PlantedDoubts$Grounds", "filled", "[I", true)
def tyX4 : Nat → FieldType := fun k => match k with
  | _ => .array .int
abbrev wsX40 : List Cond := u_ws RX4 TX4 1
theorem nmX4 : ∀ a, a < 1 → ∀ b, b < 1 → a ≠ b → (TX4 a).2.1 ≠ (TX4 b).2.1 := by decide +kernel
theorem tyX4_ok : ∀ k, k < 1 → parseFieldDescriptor (TX4 k).2.2.1 = some (tyX4 k) := by decide +kernel
abbrev cX4_init : ByteArray := prog_6_method_1_code
def yX4_init : MethodName := ⟨RX4, "<init>", "()V"⟩
abbrev cX4_flight : ByteArray := prog_6_method_2_code
def yX4_flight : MethodName := ⟨RX4, "flight", "(LPlantedDoubts$Garden;II)I"⟩
abbrev cX4_cut : ByteArray := prog_6_method_3_code
def yX4_cut : MethodName := ⟨RX4, "cut", "(LPlantedDoubts$Garden;II)I"⟩
abbrev cX4_winningPot : ByteArray := prog_6_method_4_code
def yX4_winningPot : MethodName := ⟨RX4, "winningPot", "(LPlantedDoubts$Garden;)I"⟩
abbrev cX4_leftOf : ByteArray := prog_6_method_5_code
def yX4_leftOf : MethodName := ⟨RX4, "leftOf", "(LPlantedDoubts$Garden;I)I"⟩
abbrev cX4_fewest : ByteArray := prog_6_method_6_code
def yX4_fewest : MethodName := ⟨RX4, "fewest", "(LPlantedDoubts$Garden;I)I"⟩
abbrev cX4_leastFilled : ByteArray := prog_6_method_7_code
def yX4_leastFilled : MethodName := ⟨RX4, "leastFilled", "(LPlantedDoubts$Garden;II)I"⟩
def RX5 : String := "PlantedDoubts$Law"
def TX5 : u_T := fun k => match k with
  | 0 => ("PlantedDoubts$Law", "seen", "[I", true)
  | _ => ("PlantedDoubts$Law", "stack", "[I", true)
def tyX5 : Nat → FieldType := fun k => match k with
  | 0 => .array .int
  | _ => .array .int
abbrev wsX50 : List Cond := u_ws RX5 TX5 2
theorem nmX5 : ∀ a, a < 2 → ∀ b, b < 2 → a ≠ b → (TX5 a).2.1 ≠ (TX5 b).2.1 := by decide +kernel
theorem tyX5_ok : ∀ k, k < 2 → parseFieldDescriptor (TX5 k).2.2.1 = some (tyX5 k) := by decide +kernel
abbrev cX5_init : ByteArray := prog_7_method_1_code
def yX5_init : MethodName := ⟨RX5, "<init>", "()V"⟩
abbrev cX5_observe : ByteArray := prog_7_method_2_code
def yX5_observe : MethodName := ⟨RX5, "observe", "(LPlantedDoubts$Garden;LPlantedDoubts$Beds;II)V"⟩
abbrev cX5_grows : ByteArray := prog_7_method_3_code
def yX5_grows : MethodName := ⟨RX5, "grows", "(LPlantedDoubts$Text;)I"⟩
abbrev cX5_lowers : ByteArray := prog_7_method_4_code
def yX5_lowers : MethodName := ⟨RX5, "lowers", "(LPlantedDoubts$Text;)I"⟩
abbrev cX5_seeds : ByteArray := prog_7_method_5_code
def yX5_seeds : MethodName := ⟨RX5, "seeds", "(LPlantedDoubts$Text;)I"⟩
abbrev cX5_told : ByteArray := prog_7_method_6_code
def yX5_told : MethodName := ⟨RX5, "told", "(LPlantedDoubts$Text;IIII)I"⟩
abbrev cX5_worthOf : ByteArray := prog_7_method_7_code
def yX5_worthOf : MethodName := ⟨RX5, "worthOf", "(LPlantedDoubts$Text;II)I"⟩
abbrev cX5_joined : ByteArray := prog_7_method_8_code
def yX5_joined : MethodName := ⟨RX5, "joined", "(III)I"⟩
def RX6 : String := "PlantedDoubts$Mind"
def TX6 : u_T := fun k => match k with
  | 0 => ("PlantedDoubts$Mind", "clash", "[I", true)
  | _ => ("PlantedDoubts$Mind", "with", "[I", true)
def tyX6 : Nat → FieldType := fun k => match k with
  | 0 => .array .int
  | _ => .array .int
abbrev wsX60 : List Cond := u_ws RX6 TX6 2
theorem nmX6 : ∀ a, a < 2 → ∀ b, b < 2 → a ≠ b → (TX6 a).2.1 ≠ (TX6 b).2.1 := by decide +kernel
theorem tyX6_ok : ∀ k, k < 2 → parseFieldDescriptor (TX6 k).2.2.1 = some (tyX6 k) := by decide +kernel
abbrev cX6_init : ByteArray := prog_8_method_1_code
def yX6_init : MethodName := ⟨RX6, "<init>", "()V"⟩
abbrev cX6_worksDone : ByteArray := prog_8_method_2_code
def yX6_worksDone : MethodName := ⟨RX6, "worksDone", "(LPlantedDoubts$Garden;)I"⟩
abbrev cX6_toStrike : ByteArray := prog_8_method_3_code
def yX6_toStrike : MethodName := ⟨RX6, "toStrike", "(LPlantedDoubts$Garden;I)I"⟩
abbrev cX6_findClashes : ByteArray := prog_8_method_4_code
def yX6_findClashes : MethodName := ⟨RX6, "findClashes", "(LPlantedDoubts$Text;)V"⟩
abbrev cX6_isAtPeace : ByteArray := prog_8_method_5_code
def yX6_isAtPeace : MethodName := ⟨RX6, "isAtPeace", "(I)Z"⟩
abbrev cX6_falls : ByteArray := prog_8_method_6_code
def yX6_falls : MethodName := ⟨RX6, "falls", "(LPlantedDoubts$Garden;II)I"⟩
abbrev cX6_follows : ByteArray := prog_8_method_7_code
def yX6_follows : MethodName := ⟨RX6, "follows", "(LPlantedDoubts$Text;I)I"⟩
abbrev cX6_countFits : ByteArray := prog_8_method_8_code
def yX6_countFits : MethodName := ⟨RX6, "countFits", "(LPlantedDoubts$Garden;II)I"⟩
abbrev cX6_bestQuestion : ByteArray := prog_8_method_9_code
def yX6_bestQuestion : MethodName := ⟨RX6, "bestQuestion", "(LPlantedDoubts$Garden;II)I"⟩
abbrev cX6_isFit : ByteArray := prog_8_method_10_code
def yX6_isFit : MethodName := ⟨RX6, "isFit", "(LPlantedDoubts$Garden;III)Z"⟩
def RX7 : String := "PlantedDoubts$Season"
def TX7 : u_T := fun k => match k with
  | 0 => ("PlantedDoubts$Season", "garden", "LPlantedDoubts$Garden;", true)
  | 1 => ("PlantedDoubts$Season", "beds", "LPlantedDoubts$Beds;", true)
  | 2 => ("PlantedDoubts$Season", "law", "LPlantedDoubts$Law;", true)
  | _ => ("PlantedDoubts$Season", "awake", "Z", true)
def tyX7 : Nat → FieldType := fun k => match k with
  | 0 => .object "PlantedDoubts$Garden"
  | 1 => .object "PlantedDoubts$Beds"
  | 2 => .object "PlantedDoubts$Law"
  | _ => .boolean
abbrev wsX70 : List Cond := u_ws RX7 TX7 4
theorem nmX7 : ∀ a, a < 4 → ∀ b, b < 4 → a ≠ b → (TX7 a).2.1 ≠ (TX7 b).2.1 := by decide +kernel
theorem tyX7_ok : ∀ k, k < 4 → parseFieldDescriptor (TX7 k).2.2.1 = some (tyX7 k) := by decide +kernel
abbrev cX7_init : ByteArray := prog_9_method_1_code
def yX7_init : MethodName := ⟨RX7, "<init>", "(LPlantedDoubts$Garden;LPlantedDoubts$Beds;LPlantedDoubts$Law;Z)V"⟩
abbrev cX7_fallAsleep : ByteArray := prog_9_method_2_code
def yX7_fallAsleep : MethodName := ⟨RX7, "fallAsleep", "()V"⟩
abbrev cX7_plant : ByteArray := prog_9_method_3_code
def yX7_plant : MethodName := ⟨RX7, "plant", "(III)V"⟩
abbrev cX7_pour : ByteArray := prog_9_method_4_code
def yX7_pour : MethodName := ⟨RX7, "pour", "(II)V"⟩
abbrev cX7_lose : ByteArray := prog_9_method_5_code
def yX7_lose : MethodName := ⟨RX7, "lose", "(II)V"⟩
abbrev cX7_pass : ByteArray := prog_9_method_6_code
def yX7_pass : MethodName := ⟨RX7, "pass", "()I"⟩
abbrev cX7_follow : ByteArray := prog_9_method_7_code
def yX7_follow : MethodName := ⟨RX7, "follow", "(I)V"⟩
abbrev cX7_reasonOut : ByteArray := prog_9_method_8_code
def yX7_reasonOut : MethodName := ⟨RX7, "reasonOut", "(I)V"⟩
abbrev cX7_growPot : ByteArray := prog_9_method_9_code
def yX7_growPot : MethodName := ⟨RX7, "growPot", "(II)V"⟩
abbrev cX7_freeze : ByteArray := prog_9_method_10_code
def yX7_freeze : MethodName := ⟨RX7, "freeze", "()V"⟩
abbrev cX7_fly : ByteArray := prog_9_method_11_code
def yX7_fly : MethodName := ⟨RX7, "fly", "()V"⟩
abbrev cX7_carry : ByteArray := prog_9_method_12_code
def yX7_carry : MethodName := ⟨RX7, "carry", "(I)V"⟩
abbrev cX7_inspect : ByteArray := prog_9_method_13_code
def yX7_inspect : MethodName := ⟨RX7, "inspect", "()I"⟩
abbrev cX7_firstOver : ByteArray := prog_9_method_14_code
def yX7_firstOver : MethodName := ⟨RX7, "firstOver", "()I"⟩
abbrev cX7_bears : ByteArray := prog_9_method_15_code
def yX7_bears : MethodName := ⟨RX7, "bears", "(III)Z"⟩
abbrev cX7_draw : ByteArray := prog_9_method_16_code
def yX7_draw : MethodName := ⟨RX7, "draw", "(I)I"⟩
abbrev cX7_write : ByteArray := prog_9_method_17_code
def yX7_write : MethodName := ⟨RX7, "write", "(III)V"⟩
def RX8 : String := "PlantedDoubts$Tape"
def TX8 : u_T := fun k => match k with
  | 0 => ("PlantedDoubts$Tape", "bytes", "[B", true)
  | 1 => ("PlantedDoubts$Tape", "length", "I", false)
  | 2 => ("PlantedDoubts$Tape", "kind", "[I", true)
  | 3 => ("PlantedDoubts$Tape", "value", "[I", true)
  | 4 => ("PlantedDoubts$Tape", "place", "[I", true)
  | _ => ("PlantedDoubts$Tape", "tokens", "I", false)
def tyX8 : Nat → FieldType := fun k => match k with
  | 0 => .array .byte
  | 1 => .int
  | 2 => .array .int
  | 3 => .array .int
  | 4 => .array .int
  | _ => .int
abbrev wsX80 : List Cond := u_ws RX8 TX8 6
theorem nmX8 : ∀ a, a < 6 → ∀ b, b < 6 → a ≠ b → (TX8 a).2.1 ≠ (TX8 b).2.1 := by decide +kernel
theorem tyX8_ok : ∀ k, k < 6 → parseFieldDescriptor (TX8 k).2.2.1 = some (tyX8 k) := by decide +kernel
abbrev cX8_init : ByteArray := prog_10_method_1_code
def yX8_init : MethodName := ⟨RX8, "<init>", "()V"⟩
abbrev cX8_add : ByteArray := prog_10_method_2_code
def yX8_add : MethodName := ⟨RX8, "add", "(I)V"⟩
abbrev cX8_cut : ByteArray := prog_10_method_3_code
def yX8_cut : MethodName := ⟨RX8, "cut", "()V"⟩
abbrev cX8_put : ByteArray := prog_10_method_4_code
def yX8_put : MethodName := ⟨RX8, "put", "(III)V"⟩
abbrev cX8_isLetter : ByteArray := prog_10_method_5_code
def yX8_isLetter : MethodName := ⟨RX8, "isLetter", "(I)Z"⟩
abbrev cX8_isDigit : ByteArray := prog_10_method_6_code
def yX8_isDigit : MethodName := ⟨RX8, "isDigit", "(I)Z"⟩
abbrev cX8_lettersEnd : ByteArray := prog_10_method_7_code
def yX8_lettersEnd : MethodName := ⟨RX8, "lettersEnd", "(I)I"⟩
abbrev cX8_digitsEnd : ByteArray := prog_10_method_8_code
def yX8_digitsEnd : MethodName := ⟨RX8, "digitsEnd", "(I)I"⟩
abbrev cX8_numberOf : ByteArray := prog_10_method_9_code
def yX8_numberOf : MethodName := ⟨RX8, "numberOf", "(II)I"⟩
abbrev cX8_signOf : ByteArray := prog_10_method_10_code
def yX8_signOf : MethodName := ⟨RX8, "signOf", "(I)I"⟩
abbrev cX8_wordOf : ByteArray := prog_10_method_11_code
def yX8_wordOf : MethodName := ⟨RX8, "wordOf", "(II)I"⟩
def RX9 : String := "PlantedDoubts$Text"
def TX9 : u_T := fun k => match k with
  | 0 => ("PlantedDoubts$Text", "cells", "[I", true)
  | 1 => ("PlantedDoubts$Text", "code", "[I", true)
  | 2 => ("PlantedDoubts$Text", "lines", "I", false)
  | _ => ("PlantedDoubts$Text", "codes", "I", false)
def tyX9 : Nat → FieldType := fun k => match k with
  | 0 => .array .int
  | 1 => .array .int
  | 2 => .int
  | _ => .int
abbrev wsX90 : List Cond := u_ws RX9 TX9 4
theorem nmX9 : ∀ a, a < 4 → ∀ b, b < 4 → a ≠ b → (TX9 a).2.1 ≠ (TX9 b).2.1 := by decide +kernel
theorem tyX9_ok : ∀ k, k < 4 → parseFieldDescriptor (TX9 k).2.2.1 = some (tyX9 k) := by decide +kernel
abbrev cX9_init : ByteArray := prog_11_method_1_code
def yX9_init : MethodName := ⟨RX9, "<init>", "(II)V"⟩
abbrev cX9_clear : ByteArray := prog_11_method_2_code
def yX9_clear : MethodName := ⟨RX9, "clear", "()V"⟩
abbrev cX9_copyFrom : ByteArray := prog_11_method_3_code
def yX9_copyFrom : MethodName := ⟨RX9, "copyFrom", "(LPlantedDoubts$Text;)V"⟩
abbrev cX9_at : ByteArray := prog_11_method_4_code
def yX9_at : MethodName := ⟨RX9, "at", "(II)I"⟩
abbrev cX9_add : ByteArray := prog_11_method_5_code
def yX9_add : MethodName := ⟨RX9, "add", "(IIIII)V"⟩
abbrev cX9_emit : ByteArray := prog_11_method_6_code
def yX9_emit : MethodName := ⟨RX9, "emit", "(I)V"⟩
def RX10 : String := "PlantedDoubts$Undos"
def TX10 : u_T := fun k => match k with
  | 0 => ("PlantedDoubts$Undos", "ring", "[LPlantedDoubts$Beds;", true)
  | 1 => ("PlantedDoubts$Undos", "next", "I", false)
  | _ => ("PlantedDoubts$Undos", "count", "I", false)
def tyX10 : Nat → FieldType := fun k => match k with
  | 0 => .array (.object "PlantedDoubts$Beds")
  | 1 => .int
  | _ => .int
abbrev wsX100 : List Cond := u_ws RX10 TX10 3
theorem nmX10 : ∀ a, a < 3 → ∀ b, b < 3 → a ≠ b → (TX10 a).2.1 ≠ (TX10 b).2.1 := by decide +kernel
theorem tyX10_ok : ∀ k, k < 3 → parseFieldDescriptor (TX10 k).2.2.1 = some (tyX10 k) := by decide +kernel
abbrev cX10_init : ByteArray := prog_12_method_1_code
def yX10_init : MethodName := ⟨RX10, "<init>", "()V"⟩
abbrev cX10_keep : ByteArray := prog_12_method_2_code
def yX10_keep : MethodName := ⟨RX10, "keep", "(LPlantedDoubts$Beds;)V"⟩
abbrev cX10_goBack : ByteArray := prog_12_method_3_code
def yX10_goBack : MethodName := ⟨RX10, "goBack", "(LPlantedDoubts$Beds;)Z"⟩
abbrev cX10_forget : ByteArray := prog_12_method_4_code
def yX10_forget : MethodName := ⟨RX10, "forget", "()V"⟩
def RX11 : String := "PlantedDoubts"
def TX11 : u_T := fun k => match k with
  | 0 => ("PlantedDoubts", "now", "LPlantedDoubts$Garden;", true)
  | 1 => ("PlantedDoubts", "kept", "LPlantedDoubts$Garden;", true)
  | 2 => ("PlantedDoubts", "hasImage", "Z", false)
  | 3 => ("PlantedDoubts", "season", "LPlantedDoubts$Season;", true)
  | 4 => ("PlantedDoubts", "dream", "LPlantedDoubts$Season;", true)
  | 5 => ("PlantedDoubts", "undos", "LPlantedDoubts$Undos;", true)
  | 6 => ("PlantedDoubts", "tape", "LPlantedDoubts$Tape;", true)
  | 7 => ("PlantedDoubts", "grammar", "LPlantedDoubts$Grammar;", true)
  | 8 => ("PlantedDoubts", "law", "LPlantedDoubts$Law;", true)
  | 9 => ("PlantedDoubts", "gifts", "LPlantedDoubts$Gifts;", true)
  | 10 => ("PlantedDoubts", "mind", "LPlantedDoubts$Mind;", true)
  | _ => ("PlantedDoubts", "grounds", "LPlantedDoubts$Grounds;", true)
def tyX11 : Nat → FieldType := fun k => match k with
  | 0 => .object "PlantedDoubts$Garden"
  | 1 => .object "PlantedDoubts$Garden"
  | 2 => .boolean
  | 3 => .object "PlantedDoubts$Season"
  | 4 => .object "PlantedDoubts$Season"
  | 5 => .object "PlantedDoubts$Undos"
  | 6 => .object "PlantedDoubts$Tape"
  | 7 => .object "PlantedDoubts$Grammar"
  | 8 => .object "PlantedDoubts$Law"
  | 9 => .object "PlantedDoubts$Gifts"
  | 10 => .object "PlantedDoubts$Mind"
  | _ => .object "PlantedDoubts$Grounds"
abbrev wsX110 : List Cond := u_ws RX11 TX11 12
theorem nmX11 : ∀ a, a < 12 → ∀ b, b < 12 → a ≠ b → (TX11 a).2.1 ≠ (TX11 b).2.1 := by decide +kernel
theorem tyX11_ok : ∀ k, k < 12 → parseFieldDescriptor (TX11 k).2.2.1 = some (tyX11 k) := by decide +kernel
abbrev cX11_init : ByteArray := prog_1_method_1_code
def yX11_init : MethodName := ⟨RX11, "<init>", "()V"⟩
abbrev cX11_state : ByteArray := prog_1_method_2_code
def yX11_state : MethodName := ⟨RX11, "state", "(I)I"⟩
abbrev cX11_house : ByteArray := prog_1_method_3_code
def yX11_house : MethodName := ⟨RX11, "house", "()I"⟩
abbrev cX11_set : ByteArray := prog_1_method_4_code
def yX11_set : MethodName := ⟨RX11, "set", "(III)Z"⟩
abbrev cX11_mostOf : ByteArray := prog_1_method_5_code
def yX11_mostOf : MethodName := ⟨RX11, "mostOf", "(I)I"⟩
abbrev cX11_line : ByteArray := prog_1_method_6_code
def yX11_line : MethodName := ⟨RX11, "line", "(IIZ)Z"⟩
abbrev cX11_feed : ByteArray := prog_1_method_7_code
def yX11_feed : MethodName := ⟨RX11, "feed", "(IIIII)I"⟩
abbrev cX11_end : ByteArray := prog_1_method_8_code
def yX11_end : MethodName := ⟨RX11, "end", "(I)Z"⟩
abbrev cX11_text : ByteArray := prog_1_method_9_code
def yX11_text : MethodName := ⟨RX11, "text", "(I)I"⟩
abbrev cX11_fault : ByteArray := prog_1_method_10_code
def yX11_fault : MethodName := ⟨RX11, "fault", "(I)I"⟩
abbrev cX11_pot : ByteArray := prog_1_method_11_code
def yX11_pot : MethodName := ⟨RX11, "pot", "(III)Z"⟩
abbrev cX11_water : ByteArray := prog_1_method_12_code
def yX11_water : MethodName := ⟨RX11, "water", "(II)Z"⟩
abbrev cX11_weed : ByteArray := prog_1_method_13_code
def yX11_weed : MethodName := ⟨RX11, "weed", "(I)Z"⟩
abbrev cX11_tell : ByteArray := prog_1_method_14_code
def yX11_tell : MethodName := ⟨RX11, "tell", "(III)Z"⟩
abbrev cX11_weeks : ByteArray := prog_1_method_15_code
def yX11_weeks : MethodName := ⟨RX11, "weeks", "(I)I"⟩
abbrev cX11_of : ByteArray := prog_1_method_16_code
def yX11_of : MethodName := ⟨RX11, "of", "(II)I"⟩
abbrev cX11_lawOf : ByteArray := prog_1_method_17_code
def yX11_lawOf : MethodName := ⟨RX11, "lawOf", "(II)I"⟩
abbrev cX11_reason : ByteArray := prog_1_method_18_code
def yX11_reason : MethodName := ⟨RX11, "reason", "(II)I"⟩
abbrev cX11_book : ByteArray := prog_1_method_19_code
def yX11_book : MethodName := ⟨RX11, "book", "(II)I"⟩
abbrev cX11_first : ByteArray := prog_1_method_20_code
def yX11_first : MethodName := ⟨RX11, "first", "(II)I"⟩
abbrev cX11_gives : ByteArray := prog_1_method_21_code
def yX11_gives : MethodName := ⟨RX11, "gives", "(I)I"⟩
abbrev cX11_done : ByteArray := prog_1_method_22_code
def yX11_done : MethodName := ⟨RX11, "done", "()I"⟩
abbrev cX11_struck : ByteArray := prog_1_method_23_code
def yX11_struck : MethodName := ⟨RX11, "struck", "(II)I"⟩
abbrev cX11_down : ByteArray := prog_1_method_24_code
def yX11_down : MethodName := ⟨RX11, "down", "(II)I"⟩
abbrev cX11_by : ByteArray := prog_1_method_25_code
def yX11_by : MethodName := ⟨RX11, "by", "(II)I"⟩
abbrev cX11_part : ByteArray := prog_1_method_26_code
def yX11_part : MethodName := ⟨RX11, "part", "(II)I"⟩
abbrev cX11_talk : ByteArray := prog_1_method_27_code
def yX11_talk : MethodName := ⟨RX11, "talk", "(III)I"⟩
abbrev cX11_fits : ByteArray := prog_1_method_28_code
def yX11_fits : MethodName := ⟨RX11, "fits", "(II)I"⟩
abbrev cX11_ask : ByteArray := prog_1_method_29_code
def yX11_ask : MethodName := ⟨RX11, "ask", "(II)I"⟩
abbrev cX11_waters : ByteArray := prog_1_method_30_code
def yX11_waters : MethodName := ⟨RX11, "waters", "(III)I"⟩
abbrev cX11_game : ByteArray := prog_1_method_31_code
def yX11_game : MethodName := ⟨RX11, "game", "(I)I"⟩
abbrev cX11_greenhouses : ByteArray := prog_1_method_32_code
def yX11_greenhouses : MethodName := ⟨RX11, "greenhouses", "(I)I"⟩
abbrev cX11_undo : ByteArray := prog_1_method_33_code
def yX11_undo : MethodName := ⟨RX11, "undo", "()Z"⟩
abbrev cX11_image : ByteArray := prog_1_method_34_code
def yX11_image : MethodName := ⟨RX11, "image", "(Z)Z"⟩
abbrev cX11_look : ByteArray := prog_1_method_35_code
def yX11_look : MethodName := ⟨RX11, "look", "(I)I"⟩
abbrev cX11_isHouse : ByteArray := prog_1_method_36_code
def yX11_isHouse : MethodName := ⟨RX11, "isHouse", "(I)Z"⟩
abbrev cX11_areTwo : ByteArray := prog_1_method_37_code
def yX11_areTwo : MethodName := ⟨RX11, "areTwo", "(II)Z"⟩
abbrev cX11_isThing : ByteArray := prog_1_method_38_code
def yX11_isThing : MethodName := ⟨RX11, "isThing", "(I)Z"⟩
def RX12 : String := "PlantedDoubtsModel"
def TX12 : u_T := fun k => match k with
  | 0 => ("PlantedDoubtsModel", "told", "I", false)
  | 1 => ("PlantedDoubtsModel", "now", "[I", true)
  | 2 => ("PlantedDoubtsModel", "rows", "[I", true)
  | 3 => ("PlantedDoubtsModel", "undoable", "I", false)
  | 4 => ("PlantedDoubtsModel", "waiting", "[I", true)
  | 5 => ("PlantedDoubtsModel", "isThought", "Z", false)
  | 6 => ("PlantedDoubtsModel", "houses", "I", false)
  | 7 => ("PlantedDoubtsModel", "mostBut", "I", false)
  | 8 => ("PlantedDoubtsModel", "frost", "I", false)
  | 9 => ("PlantedDoubtsModel", "bees", "I", false)
  | 10 => ("PlantedDoubtsModel", "stock", "[I", true)
  | 11 => ("PlantedDoubtsModel", "linesOf", "[I", true)
  | 12 => ("PlantedDoubtsModel", "book", "[I", true)
  | 13 => ("PlantedDoubtsModel", "tape", "[I", true)
  | 14 => ("PlantedDoubtsModel", "taped", "I", false)
  | 15 => ("PlantedDoubtsModel", "spot", "I", false)
  | 16 => ("PlantedDoubtsModel", "from", "I", false)
  | 17 => ("PlantedDoubtsModel", "token", "I", false)
  | 18 => ("PlantedDoubtsModel", "value", "I", false)
  | 19 => ("PlantedDoubtsModel", "words", "[I", true)
  | 20 => ("PlantedDoubtsModel", "lineMany", "[I", true)
  | 21 => ("PlantedDoubtsModel", "lineWord", "[I", true)
  | 22 => ("PlantedDoubtsModel", "lineFrom", "[I", true)
  | 23 => ("PlantedDoubtsModel", "lineWhen", "[I", true)
  | 24 => ("PlantedDoubtsModel", "lineTo", "[I", true)
  | 25 => ("PlantedDoubtsModel", "op", "[I", true)
  | 26 => ("PlantedDoubtsModel", "arg", "[I", true)
  | 27 => ("PlantedDoubtsModel", "which", "I", false)
  | 28 => ("PlantedDoubtsModel", "codes", "I", false)
  | 29 => ("PlantedDoubtsModel", "open", "I", false)
  | 30 => ("PlantedDoubtsModel", "pending", "[I", true)
  | 31 => ("PlantedDoubtsModel", "pendings", "I", false)
  | 32 => ("PlantedDoubtsModel", "readFault", "I", false)
  | 33 => ("PlantedDoubtsModel", "readPlace", "I", false)
  | 34 => ("PlantedDoubtsModel", "faultKind", "I", false)
  | 35 => ("PlantedDoubtsModel", "faultPlace", "I", false)
  | 36 => ("PlantedDoubtsModel", "reasonMany", "I", false)
  | 37 => ("PlantedDoubtsModel", "reasons", "[I", true)
  | 38 => ("PlantedDoubtsModel", "workMany", "I", false)
  | 39 => ("PlantedDoubtsModel", "works", "[I", true)
  | 40 => ("PlantedDoubtsModel", "planMany", "I", false)
  | 41 => ("PlantedDoubtsModel", "plan", "[I", true)
  | 42 => ("PlantedDoubtsModel", "asked", "[I", true)
  | 43 => ("PlantedDoubtsModel", "stack", "[I", true)
  | 44 => ("PlantedDoubtsModel", "firstOver", "I", false)
  | 45 => ("PlantedDoubtsModel", "mayGet", "[I", true)
  | 46 => ("PlantedDoubtsModel", "needs", "[I", true)
  | 47 => ("PlantedDoubtsModel", "given", "[I", true)
  | 48 => ("PlantedDoubtsModel", "left", "[I", true)
  | 49 => ("PlantedDoubtsModel", "reachedBy", "[I", true)
  | 50 => ("PlantedDoubtsModel", "reachedThing", "[I", true)
  | 51 => ("PlantedDoubtsModel", "got", "[I", true)
  | 52 => ("PlantedDoubtsModel", "talkMany", "I", false)
  | 53 => ("PlantedDoubtsModel", "talkHouse", "[I", true)
  | 54 => ("PlantedDoubtsModel", "talkThing", "[I", true)
  | 55 => ("PlantedDoubtsModel", "talkHow", "[I", true)
  | 56 => ("PlantedDoubtsModel", "fewest", "[I", true)
  | 57 => ("PlantedDoubtsModel", "isTaking", "Z", false)
  | 58 => ("PlantedDoubtsModel", "hasImage", "Z", false)
  | 59 => ("PlantedDoubtsModel", "keptAt", "I", false)
  | _ => ("PlantedDoubtsModel", "images", "[I", true)
def tyX12 : Nat → FieldType := fun k => match k with
  | 0 => .int
  | 1 => .array .int
  | 2 => .array .int
  | 3 => .int
  | 4 => .array .int
  | 5 => .boolean
  | 6 => .int
  | 7 => .int
  | 8 => .int
  | 9 => .int
  | 10 => .array .int
  | 11 => .array .int
  | 12 => .array .int
  | 13 => .array .int
  | 14 => .int
  | 15 => .int
  | 16 => .int
  | 17 => .int
  | 18 => .int
  | 19 => .array .int
  | 20 => .array .int
  | 21 => .array .int
  | 22 => .array .int
  | 23 => .array .int
  | 24 => .array .int
  | 25 => .array .int
  | 26 => .array .int
  | 27 => .int
  | 28 => .int
  | 29 => .int
  | 30 => .array .int
  | 31 => .int
  | 32 => .int
  | 33 => .int
  | 34 => .int
  | 35 => .int
  | 36 => .int
  | 37 => .array .int
  | 38 => .int
  | 39 => .array .int
  | 40 => .int
  | 41 => .array .int
  | 42 => .array .int
  | 43 => .array .int
  | 44 => .int
  | 45 => .array .int
  | 46 => .array .int
  | 47 => .array .int
  | 48 => .array .int
  | 49 => .array .int
  | 50 => .array .int
  | 51 => .array .int
  | 52 => .int
  | 53 => .array .int
  | 54 => .array .int
  | 55 => .array .int
  | 56 => .array .int
  | 57 => .boolean
  | 58 => .boolean
  | 59 => .int
  | _ => .array .int
abbrev wsX120 : List Cond := u_ws RX12 TX12 61
theorem nmX12 : ∀ a, a < 61 → ∀ b, b < 61 → a ≠ b → (TX12 a).2.1 ≠ (TX12 b).2.1 := by decide +kernel
theorem tyX12_ok : ∀ k, k < 61 → parseFieldDescriptor (TX12 k).2.2.1 = some (tyX12 k) := by decide +kernel
abbrev cX12_init : ByteArray := prog_14_method_1_code
def yX12_init : MethodName := ⟨RX12, "<init>", "()V"⟩
abbrev cX12_isIn : ByteArray := prog_14_method_3_code
def yX12_isIn : MethodName := ⟨RX12, "isIn", "(III)Z"⟩
abbrev cX12_held : ByteArray := prog_14_method_4_code
def yX12_held : MethodName := ⟨RX12, "held", "(III)I"⟩
abbrev cX12_greater : ByteArray := prog_14_method_5_code
def yX12_greater : MethodName := ⟨RX12, "greater", "(II)I"⟩
abbrev cX12_onesOf : ByteArray := prog_14_method_6_code
def yX12_onesOf : MethodName := ⟨RX12, "onesOf", "(I)I"⟩
abbrev cX12_keepsAhead : ByteArray := prog_14_method_7_code
def yX12_keepsAhead : MethodName := ⟨RX12, "keepsAhead", "()V"⟩
abbrev cX12_undo : ByteArray := prog_14_method_8_code
def yX12_undo : MethodName := ⟨RX12, "undo", "()Z"⟩
abbrev cX12_thinks : ByteArray := prog_14_method_9_code
def yX12_thinks : MethodName := ⟨RX12, "thinks", "()V"⟩
abbrev cX12_thinksAnew : ByteArray := prog_14_method_10_code
def yX12_thinksAnew : MethodName := ⟨RX12, "thinksAnew", "()V"⟩
abbrev cX12_endsThought : ByteArray := prog_14_method_11_code
def yX12_endsThought : MethodName := ⟨RX12, "endsThought", "()V"⟩
abbrev cX12_state : ByteArray := prog_14_method_12_code
def yX12_state : MethodName := ⟨RX12, "state", "(I)I"⟩
abbrev cX12_draw : ByteArray := prog_14_method_13_code
def yX12_draw : MethodName := ⟨RX12, "draw", "(I)I"⟩
abbrev cX12_most : ByteArray := prog_14_method_14_code
def yX12_most : MethodName := ⟨RX12, "most", "()I"⟩
abbrev cX12_isHouse : ByteArray := prog_14_method_15_code
def yX12_isHouse : MethodName := ⟨RX12, "isHouse", "(I)Z"⟩
abbrev cX12_isThing : ByteArray := prog_14_method_16_code
def yX12_isThing : MethodName := ⟨RX12, "isThing", "(I)Z"⟩
abbrev cX12_degreeOf : ByteArray := prog_14_method_17_code
def yX12_degreeOf : MethodName := ⟨RX12, "degreeOf", "(II)I"⟩
abbrev cX12_degreeBe : ByteArray := prog_14_method_18_code
def yX12_degreeBe : MethodName := ⟨RX12, "degreeBe", "(III)V"⟩
abbrev cX12_suresOf : ByteArray := prog_14_method_19_code
def yX12_suresOf : MethodName := ⟨RX12, "suresOf", "(I)I"⟩
abbrev cX12_potOf : ByteArray := prog_14_method_20_code
def yX12_potOf : MethodName := ⟨RX12, "potOf", "(I)I"⟩
abbrev cX12_house : ByteArray := prog_14_method_21_code
def yX12_house : MethodName := ⟨RX12, "house", "()I"⟩
abbrev cX12_set : ByteArray := prog_14_method_22_code
def yX12_set : MethodName := ⟨RX12, "set", "(III)Z"⟩
abbrev cX12_line : ByteArray := prog_14_method_23_code
def yX12_line : MethodName := ⟨RX12, "line", "(IIZ)Z"⟩
abbrev cX12_types : ByteArray := prog_14_method_24_code
def yX12_types : MethodName := ⟨RX12, "types", "(I)V"⟩
abbrev cX12_feed : ByteArray := prog_14_method_25_code
def yX12_feed : MethodName := ⟨RX12, "feed", "(IIIII)I"⟩
abbrev cX12_end : ByteArray := prog_14_method_26_code
def yX12_end : MethodName := ⟨RX12, "end", "(I)Z"⟩
abbrev cX12_raw : ByteArray := prog_14_method_27_code
def yX12_raw : MethodName := ⟨RX12, "raw", "(I)I"⟩
abbrev cX12_isLetter : ByteArray := prog_14_method_28_code
def yX12_isLetter : MethodName := ⟨RX12, "isLetter", "(I)Z"⟩
abbrev cX12_isDigit : ByteArray := prog_14_method_29_code
def yX12_isDigit : MethodName := ⟨RX12, "isDigit", "(I)Z"⟩
abbrev cX12_isMarkSign : ByteArray := prog_14_method_30_code
def yX12_isMarkSign : MethodName := ⟨RX12, "isMarkSign", "(I)Z"⟩
abbrev cX12_wordAt : ByteArray := prog_14_method_31_code
def yX12_wordAt : MethodName := ⟨RX12, "wordAt", "(II)I"⟩
abbrev cX12_reads : ByteArray := prog_14_method_32_code
def yX12_reads : MethodName := ⟨RX12, "reads", "()V"⟩
abbrev cX12_errs : ByteArray := prog_14_method_33_code
def yX12_errs : MethodName := ⟨RX12, "errs", "(I)I"⟩
abbrev cX12_isWord : ByteArray := prog_14_method_34_code
def yX12_isWord : MethodName := ⟨RX12, "isWord", "(I)Z"⟩
abbrev cX12_isSign : ByteArray := prog_14_method_35_code
def yX12_isSign : MethodName := ⟨RX12, "isSign", "(I)Z"⟩
abbrev cX12_emits : ByteArray := prog_14_method_36_code
def yX12_emits : MethodName := ⟨RX12, "emits", "(II)V"⟩
abbrev cX12_canAsk : ByteArray := prog_14_method_37_code
def yX12_canAsk : MethodName := ⟨RX12, "canAsk", "(I)Z"⟩
abbrev cX12_readUnit : ByteArray := prog_14_method_38_code
def yX12_readUnit : MethodName := ⟨RX12, "readUnit", "()I"⟩
abbrev cX12_readProduct : ByteArray := prog_14_method_39_code
def yX12_readProduct : MethodName := ⟨RX12, "readProduct", "()I"⟩
abbrev cX12_readSum : ByteArray := prog_14_method_40_code
def yX12_readSum : MethodName := ⟨RX12, "readSum", "()I"⟩
abbrev cX12_readCompared : ByteArray := prog_14_method_41_code
def yX12_readCompared : MethodName := ⟨RX12, "readCompared", "()I"⟩
abbrev cX12_waits : ByteArray := prog_14_method_42_code
def yX12_waits : MethodName := ⟨RX12, "waits", "(I)V"⟩
abbrev cX12_settles : ByteArray := prog_14_method_43_code
def yX12_settles : MethodName := ⟨RX12, "settles", "(I)V"⟩
abbrev cX12_readAny : ByteArray := prog_14_method_44_code
def yX12_readAny : MethodName := ⟨RX12, "readAny", "()I"⟩
abbrev cX12_isLineWord : ByteArray := prog_14_method_45_code
def yX12_isLineWord : MethodName := ⟨RX12, "isLineWord", "()Z"⟩
abbrev cX12_readLaw : ByteArray := prog_14_method_46_code
def yX12_readLaw : MethodName := ⟨RX12, "readLaw", "()I"⟩
abbrev cX12_takesLaw : ByteArray := prog_14_method_47_code
def yX12_takesLaw : MethodName := ⟨RX12, "takesLaw", "(I)V"⟩
abbrev cX12_readNumber : ByteArray := prog_14_method_48_code
def yX12_readNumber : MethodName := ⟨RX12, "readNumber", "(II)I"⟩
abbrev cX12_readWord : ByteArray := prog_14_method_49_code
def yX12_readWord : MethodName := ⟨RX12, "readWord", "(I)I"⟩
abbrev cX12_readMark : ByteArray := prog_14_method_50_code
def yX12_readMark : MethodName := ⟨RX12, "readMark", "(I)I"⟩
abbrev cX12_readTold : ByteArray := prog_14_method_51_code
def yX12_readTold : MethodName := ⟨RX12, "readTold", "(III)I"⟩
abbrev cX12_readOther : ByteArray := prog_14_method_52_code
def yX12_readOther : MethodName := ⟨RX12, "readOther", "(I)I"⟩
abbrev cX12_readReason : ByteArray := prog_14_method_53_code
def yX12_readReason : MethodName := ⟨RX12, "readReason", "(I)I"⟩
abbrev cX12_readReasons : ByteArray := prog_14_method_54_code
def yX12_readReasons : MethodName := ⟨RX12, "readReasons", "()I"⟩
abbrev cX12_readWorks : ByteArray := prog_14_method_55_code
def yX12_readWorks : MethodName := ⟨RX12, "readWorks", "()I"⟩
abbrev cX12_kindOf : ByteArray := prog_14_method_56_code
def yX12_kindOf : MethodName := ⟨RX12, "kindOf", "(I)I"⟩
abbrev cX12_readDeed : ByteArray := prog_14_method_57_code
def yX12_readDeed : MethodName := ⟨RX12, "readDeed", "(I)I"⟩
abbrev cX12_readPlanLine : ByteArray := prog_14_method_58_code
def yX12_readPlanLine : MethodName := ⟨RX12, "readPlanLine", "(I)I"⟩
abbrev cX12_readPlan : ByteArray := prog_14_method_59_code
def yX12_readPlan : MethodName := ⟨RX12, "readPlan", "()I"⟩
abbrev cX12_readsText : ByteArray := prog_14_method_60_code
def yX12_readsText : MethodName := ⟨RX12, "readsText", "(I)I"⟩
abbrev cX12_takesOther : ByteArray := prog_14_method_61_code
def yX12_takesOther : MethodName := ⟨RX12, "takesOther", "(II)V"⟩
abbrev cX12_text : ByteArray := prog_14_method_62_code
def yX12_text : MethodName := ⟨RX12, "text", "(I)I"⟩
abbrev cX12_fault : ByteArray := prog_14_method_63_code
def yX12_fault : MethodName := ⟨RX12, "fault", "(I)I"⟩
abbrev cX12_twoOf : ByteArray := prog_14_method_64_code
def yX12_twoOf : MethodName := ⟨RX12, "twoOf", "(III)I"⟩
abbrev cX12_runs : ByteArray := prog_14_method_65_code
def yX12_runs : MethodName := ⟨RX12, "runs", "(III)I"⟩
abbrev cX12_lineOf : ByteArray := prog_14_method_66_code
def yX12_lineOf : MethodName := ⟨RX12, "lineOf", "(I)I"⟩
abbrev cX12_asks : ByteArray := prog_14_method_67_code
def yX12_asks : MethodName := ⟨RX12, "asks", "(I)V"⟩
abbrev cX12_lawTells : ByteArray := prog_14_method_68_code
def yX12_lawTells : MethodName := ⟨RX12, "lawTells", "(IIII)I"⟩
abbrev cX12_growAsked : ByteArray := prog_14_method_69_code
def yX12_growAsked : MethodName := ⟨RX12, "growAsked", "()I"⟩
abbrev cX12_lowerAsked : ByteArray := prog_14_method_70_code
def yX12_lowerAsked : MethodName := ⟨RX12, "lowerAsked", "()I"⟩
abbrev cX12_seedAsked : ByteArray := prog_14_method_71_code
def yX12_seedAsked : MethodName := ⟨RX12, "seedAsked", "()I"⟩
abbrev cX12_notes : ByteArray := prog_14_method_72_code
def yX12_notes : MethodName := ⟨RX12, "notes", "(III)V"⟩
abbrev cX12_pots : ByteArray := prog_14_method_73_code
def yX12_pots : MethodName := ⟨RX12, "pots", "(IIIII)V"⟩
abbrev cX12_loses : ByteArray := prog_14_method_74_code
def yX12_loses : MethodName := ⟨RX12, "loses", "(II)V"⟩
abbrev cX12_canDo : ByteArray := prog_14_method_75_code
def yX12_canDo : MethodName := ⟨RX12, "canDo", "(II)Z"⟩
abbrev cX12_does : ByteArray := prog_14_method_76_code
def yX12_does : MethodName := ⟨RX12, "does", "(IIII)V"⟩
abbrev cX12_acts : ByteArray := prog_14_method_77_code
def yX12_acts : MethodName := ⟨RX12, "acts", "(IIII)Z"⟩
abbrev cX12_pot : ByteArray := prog_14_method_78_code
def yX12_pot : MethodName := ⟨RX12, "pot", "(III)Z"⟩
abbrev cX12_water : ByteArray := prog_14_method_79_code
def yX12_water : MethodName := ⟨RX12, "water", "(II)Z"⟩
abbrev cX12_weed : ByteArray := prog_14_method_80_code
def yX12_weed : MethodName := ⟨RX12, "weed", "(I)Z"⟩
abbrev cX12_tell : ByteArray := prog_14_method_81_code
def yX12_tell : MethodName := ⟨RX12, "tell", "(III)Z"⟩
abbrev cX12_ofReason : ByteArray := prog_14_method_82_code
def yX12_ofReason : MethodName := ⟨RX12, "ofReason", "(II)I"⟩
abbrev cX12_reasonsAt : ByteArray := prog_14_method_83_code
def yX12_reasonsAt : MethodName := ⟨RX12, "reasonsAt", "(I)V"⟩
abbrev cX12_grows : ByteArray := prog_14_method_84_code
def yX12_grows : MethodName := ⟨RX12, "grows", "(I)V"⟩
abbrev cX12_freezes : ByteArray := prog_14_method_85_code
def yX12_freezes : MethodName := ⟨RX12, "freezes", "()V"⟩
abbrev cX12_emptyBy : ByteArray := prog_14_method_86_code
def yX12_emptyBy : MethodName := ⟨RX12, "emptyBy", "(I)I"⟩
abbrev cX12_swarms : ByteArray := prog_14_method_87_code
def yX12_swarms : MethodName := ⟨RX12, "swarms", "(I)V"⟩
abbrev cX12_carriesOn : ByteArray := prog_14_method_88_code
def yX12_carriesOn : MethodName := ⟨RX12, "carriesOn", "()V"⟩
abbrev cX12_inspects : ByteArray := prog_14_method_89_code
def yX12_inspects : MethodName := ⟨RX12, "inspects", "()V"⟩
abbrev cX12_goesBy : ByteArray := prog_14_method_90_code
def yX12_goesBy : MethodName := ⟨RX12, "goesBy", "()V"⟩
abbrev cX12_weeks : ByteArray := prog_14_method_91_code
def yX12_weeks : MethodName := ⟨RX12, "weeks", "(I)I"⟩
abbrev cX12_ofPot : ByteArray := prog_14_method_92_code
def yX12_ofPot : MethodName := ⟨RX12, "ofPot", "(II)I"⟩
abbrev cX12_of : ByteArray := prog_14_method_93_code
def yX12_of : MethodName := ⟨RX12, "of", "(II)I"⟩
abbrev cX12_reason : ByteArray := prog_14_method_94_code
def yX12_reason : MethodName := ⟨RX12, "reason", "(II)I"⟩
abbrev cX12_book : ByteArray := prog_14_method_95_code
def yX12_book : MethodName := ⟨RX12, "book", "(II)I"⟩
abbrev cX12_first : ByteArray := prog_14_method_96_code
def yX12_first : MethodName := ⟨RX12, "first", "(II)I"⟩
abbrev cX12_findsNeeds : ByteArray := prog_14_method_97_code
def yX12_findsNeeds : MethodName := ⟨RX12, "findsNeeds", "()V"⟩
abbrev cX12_freeThing : ByteArray := prog_14_method_98_code
def yX12_freeThing : MethodName := ⟨RX12, "freeThing", "(I)I"⟩
abbrev cX12_reaches : ByteArray := prog_14_method_99_code
def yX12_reaches : MethodName := ⟨RX12, "reaches", "(II)I"⟩
abbrev cX12_getsOne : ByteArray := prog_14_method_100_code
def yX12_getsOne : MethodName := ⟨RX12, "getsOne", "(II)Z"⟩
abbrev cX12_canAll : ByteArray := prog_14_method_101_code
def yX12_canAll : MethodName := ⟨RX12, "canAll", "(I)Z"⟩
abbrev cX12_canTake : ByteArray := prog_14_method_102_code
def yX12_canTake : MethodName := ⟨RX12, "canTake", "(II)Z"⟩
abbrev cX12_setFor : ByteArray := prog_14_method_103_code
def yX12_setFor : MethodName := ⟨RX12, "setFor", "(I)I"⟩
abbrev cX12_gives : ByteArray := prog_14_method_104_code
def yX12_gives : MethodName := ⟨RX12, "gives", "(I)I"⟩
abbrev cX12_done : ByteArray := prog_14_method_105_code
def yX12_done : MethodName := ⟨RX12, "done", "()I"⟩
abbrev cX12_areAtPeace : ByteArray := prog_14_method_106_code
def yX12_areAtPeace : MethodName := ⟨RX12, "areAtPeace", "(I)Z"⟩
abbrev cX12_struck : ByteArray := prog_14_method_107_code
def yX12_struck : MethodName := ⟨RX12, "struck", "(II)I"⟩
abbrev cX12_doesStand : ByteArray := prog_14_method_108_code
def yX12_doesStand : MethodName := ⟨RX12, "doesStand", "(II)Z"⟩
abbrev cX12_down : ByteArray := prog_14_method_109_code
def yX12_down : MethodName := ⟨RX12, "down", "(II)I"⟩
abbrev cX12_by : ByteArray := prog_14_method_110_code
def yX12_by : MethodName := ⟨RX12, "by", "(II)I"⟩
abbrev cX12_linesOut : ByteArray := prog_14_method_111_code
def yX12_linesOut : MethodName := ⟨RX12, "linesOut", "(I)I"⟩
abbrev cX12_part : ByteArray := prog_14_method_112_code
def yX12_part : MethodName := ⟨RX12, "part", "(II)I"⟩
abbrev cX12_talk : ByteArray := prog_14_method_113_code
def yX12_talk : MethodName := ⟨RX12, "talk", "(III)I"⟩
abbrev cX12_doesFit : ByteArray := prog_14_method_114_code
def yX12_doesFit : MethodName := ⟨RX12, "doesFit", "(III)Z"⟩
abbrev cX12_fitsWith : ByteArray := prog_14_method_115_code
def yX12_fitsWith : MethodName := ⟨RX12, "fitsWith", "(III)I"⟩
abbrev cX12_fits : ByteArray := prog_14_method_116_code
def yX12_fits : MethodName := ⟨RX12, "fits", "(II)I"⟩
abbrev cX12_ask : ByteArray := prog_14_method_117_code
def yX12_ask : MethodName := ⟨RX12, "ask", "(II)I"⟩
abbrev cX12_livesBy : ByteArray := prog_14_method_118_code
def yX12_livesBy : MethodName := ⟨RX12, "livesBy", "(III)Z"⟩
abbrev cX12_waters : ByteArray := prog_14_method_119_code
def yX12_waters : MethodName := ⟨RX12, "waters", "(III)I"⟩
abbrev cX12_highOf : ByteArray := prog_14_method_120_code
def yX12_highOf : MethodName := ⟨RX12, "highOf", "(I)I"⟩
abbrev cX12_game : ByteArray := prog_14_method_121_code
def yX12_game : MethodName := ⟨RX12, "game", "(I)I"⟩
abbrev cX12_sumOf : ByteArray := prog_14_method_122_code
def yX12_sumOf : MethodName := ⟨RX12, "sumOf", "(I)I"⟩
abbrev cX12_greenhouses : ByteArray := prog_14_method_123_code
def yX12_greenhouses : MethodName := ⟨RX12, "greenhouses", "(I)I"⟩
abbrev cX12_keeps : ByteArray := prog_14_method_124_code
def yX12_keeps : MethodName := ⟨RX12, "keeps", "(I)I"⟩
abbrev cX12_keepsLaw : ByteArray := prog_14_method_125_code
def yX12_keepsLaw : MethodName := ⟨RX12, "keepsLaw", "()V"⟩
abbrev cX12_keepsTold : ByteArray := prog_14_method_126_code
def yX12_keepsTold : MethodName := ⟨RX12, "keepsTold", "()V"⟩
abbrev cX12_image : ByteArray := prog_14_method_127_code
def yX12_image : MethodName := ⟨RX12, "image", "(Z)Z"⟩
abbrev cX12_potMany : ByteArray := prog_14_method_128_code
def yX12_potMany : MethodName := ⟨RX12, "potMany", "()I"⟩
abbrev cX12_look : ByteArray := prog_14_method_129_code
def yX12_look : MethodName := ⟨RX12, "look", "(I)I"⟩
def RJ11 : String := "java/lang/Character"
def TJ11 : u_T := fun k => match k with
  | _ => ("", "", "", false)
def tyJ11 : Nat → FieldType := fun k => match k with
  | _ => .int
abbrev wsJ110 : List Cond := u_ws RJ11 TJ11 0
theorem nmJ11 : ∀ a, a < 0 → ∀ b, b < 0 → a ≠ b → (TJ11 a).2.1 ≠ (TJ11 b).2.1 := by decide +kernel
theorem tyJ11_ok : ∀ k, k < 0 → parseFieldDescriptor (TJ11 k).2.2.1 = some (tyJ11 k) := by decide +kernel
abbrev cJ11_isValidCodePoint_9a6ad : ByteArray := prog_15_method_11_code
def yJ11_isValidCodePoint_9a6ad : MethodName := ⟨RJ11, "isValidCodePoint", "(I)Z"⟩
abbrev cJ11_highSurrogate_5068e : ByteArray := prog_15_method_28_code
def yJ11_highSurrogate_5068e : MethodName := ⟨RJ11, "highSurrogate", "(I)C"⟩
abbrev cJ11_lowSurrogate_5068e : ByteArray := prog_15_method_29_code
def yJ11_lowSurrogate_5068e : MethodName := ⟨RJ11, "lowSurrogate", "(I)C"⟩
def RJ6 : String := "java/lang/Integer"
def TJ6 : u_T := fun k => match k with
  | _ => ("", "", "", false)
def tyJ6 : Nat → FieldType := fun k => match k with
  | _ => .int
abbrev wsJ60 : List Cond := u_ws RJ6 TJ6 0
theorem nmJ6 : ∀ a, a < 0 → ∀ b, b < 0 → a ≠ b → (TJ6 a).2.1 ≠ (TJ6 b).2.1 := by decide +kernel
theorem tyJ6_ok : ∀ k, k < 0 → parseFieldDescriptor (TJ6 k).2.2.1 = some (tyJ6 k) := by decide +kernel
abbrev cJ6_bitCount_0f7a4 : ByteArray := prog_16_method_49_code
def yJ6_bitCount_0f7a4 : MethodName := ⟨RJ6, "bitCount", "(I)I"⟩
def RJ9 : String := "java/lang/Math"
def TJ9 : u_T := fun k => match k with
  | _ => ("", "", "", false)
def tyJ9 : Nat → FieldType := fun k => match k with
  | _ => .int
abbrev wsJ90 : List Cond := u_ws RJ9 TJ9 0
theorem nmJ9 : ∀ a, a < 0 → ∀ b, b < 0 → a ≠ b → (TJ9 a).2.1 ≠ (TJ9 b).2.1 := by decide +kernel
theorem tyJ9_ok : ∀ k, k < 0 → parseFieldDescriptor (TJ9 k).2.2.1 = some (tyJ9 k) := by decide +kernel
abbrev cJ9_max_7cf53 : ByteArray := prog_17_method_65_code
def yJ9_max_7cf53 : MethodName := ⟨RJ9, "max", "(II)I"⟩
abbrev cJ9_min_7cf53 : ByteArray := prog_17_method_69_code
def yJ9_min_7cf53 : MethodName := ⟨RJ9, "min", "(II)I"⟩
def RJ0 : String := "java/lang/String"
def TJ0 : u_T := fun k => match k with
  | _ => ("", "", "", false)
def tyJ0 : Nat → FieldType := fun k => match k with
  | _ => .int
abbrev wsJ00 : List Cond := u_ws RJ0 TJ0 0
theorem nmJ0 : ∀ a, a < 0 → ∀ b, b < 0 → a ≠ b → (TJ0 a).2.1 ≠ (TJ0 b).2.1 := by decide +kernel
theorem tyJ0_ok : ∀ k, k < 0 → parseFieldDescriptor (TJ0 k).2.2.1 = some (tyJ0 k) := by decide +kernel
abbrev cJ0_length_8abf5 : ByteArray := prog_18_method_54_code
def yJ0_length_8abf5 : MethodName := ⟨RJ0, "length", "()I"⟩
abbrev cJ0_charAt_5068e : ByteArray := prog_18_method_56_code
def yJ0_charAt_5068e : MethodName := ⟨RJ0, "charAt", "(I)C"⟩
abbrev cJ0_indexOf_0f7a4 : ByteArray := prog_18_method_79_code
def yJ0_indexOf_0f7a4 : MethodName := ⟨RJ0, "indexOf", "(I)I"⟩
abbrev cJ0_indexOf_7cf53 : ByteArray := prog_18_method_80_code
def yJ0_indexOf_7cf53 : MethodName := ⟨RJ0, "indexOf", "(II)I"⟩
abbrev cJ0_coder_7d493 : ByteArray := prog_18_method_152_code
def yJ0_coder_7d493 : MethodName := ⟨RJ0, "coder", "()B"⟩
abbrev cJ0_isLatin1_aae02 : ByteArray := prog_18_method_154_code
def yJ0_isLatin1_aae02 : MethodName := ⟨RJ0, "isLatin1", "()Z"⟩
abbrev cJ0_checkIndex_df160 : ByteArray := prog_18_method_155_code
def yJ0_checkIndex_df160 : MethodName := ⟨RJ0, "checkIndex", "(II)V"⟩
abbrev cJ0_checkBoundsBeginEnd_23922 : ByteArray := prog_18_method_158_code
def yJ0_checkBoundsBeginEnd_23922 : MethodName := ⟨RJ0, "checkBoundsBeginEnd", "(III)V"⟩
def RJ1 : String := "java/lang/StringLatin1"
def TJ1 : u_T := fun k => match k with
  | _ => ("", "", "", false)
def tyJ1 : Nat → FieldType := fun k => match k with
  | _ => .int
abbrev wsJ10 : List Cond := u_ws RJ1 TJ1 0
theorem nmJ1 : ∀ a, a < 0 → ∀ b, b < 0 → a ≠ b → (TJ1 a).2.1 ≠ (TJ1 b).2.1 := by decide +kernel
theorem tyJ1_ok : ∀ k, k < 0 → parseFieldDescriptor (TJ1 k).2.2.1 = some (tyJ1 k) := by decide +kernel
abbrev cJ1_charAt_3b067 : ByteArray := prog_19_method_2_code
def yJ1_charAt_3b067 : MethodName := ⟨RJ1, "charAt", "([BI)C"⟩
abbrev cJ1_canEncode_9a6ad : ByteArray := prog_19_method_4_code
def yJ1_canEncode_9a6ad : MethodName := ⟨RJ1, "canEncode", "(I)Z"⟩
abbrev cJ1_indexOf_4cfef : ByteArray := prog_19_method_22_code
def yJ1_indexOf_4cfef : MethodName := ⟨RJ1, "indexOf", "([BIII)I"⟩
abbrev cJ1_indexOfChar_4cfef : ByteArray := prog_19_method_23_code
def yJ1_indexOfChar_4cfef : MethodName := ⟨RJ1, "indexOfChar", "([BIII)I"⟩
def RJ2 : String := "java/lang/StringUTF16"
def TJ2 : u_T := fun k => match k with
  | _ => ("", "", "", false)
def tyJ2 : Nat → FieldType := fun k => match k with
  | _ => .int
abbrev wsJ20 : List Cond := u_ws RJ2 TJ2 0
theorem nmJ2 : ∀ a, a < 0 → ∀ b, b < 0 → a ≠ b → (TJ2 a).2.1 ≠ (TJ2 b).2.1 := by decide +kernel
theorem tyJ2_ok : ∀ k, k < 0 → parseFieldDescriptor (TJ2 k).2.2.1 = some (tyJ2 k) := by decide +kernel
abbrev cJ2_getChar_3b067 : ByteArray := prog_20_method_5_code
def yJ2_getChar_3b067 : MethodName := ⟨RJ2, "getChar", "([BI)C"⟩
abbrev cJ2_length_9d52b : ByteArray := prog_20_method_6_code
def yJ2_length_9d52b : MethodName := ⟨RJ2, "length", "([B)I"⟩
abbrev cJ2_indexOf_4cfef : ByteArray := prog_20_method_40_code
def yJ2_indexOf_4cfef : MethodName := ⟨RJ2, "indexOf", "([BIII)I"⟩
abbrev cJ2_indexOfChar_4cfef : ByteArray := prog_20_method_47_code
def yJ2_indexOfChar_4cfef : MethodName := ⟨RJ2, "indexOfChar", "([BIII)I"⟩
abbrev cJ2_indexOfCharUnsafe_4cfef : ByteArray := prog_20_method_48_code
def yJ2_indexOfCharUnsafe_4cfef : MethodName := ⟨RJ2, "indexOfCharUnsafe", "([BIII)I"⟩
abbrev cJ2_indexOfSupplementary_4cfef : ByteArray := prog_20_method_49_code
def yJ2_indexOfSupplementary_4cfef : MethodName := ⟨RJ2, "indexOfSupplementary", "([BIII)I"⟩
abbrev cJ2_charAt_3b067 : ByteArray := prog_20_method_83_code
def yJ2_charAt_3b067 : MethodName := ⟨RJ2, "charAt", "([BI)C"⟩
abbrev cJ2_checkIndex_2214a : ByteArray := prog_20_method_91_code
def yJ2_checkIndex_2214a : MethodName := ⟨RJ2, "checkIndex", "(I[B)V"⟩
abbrev cJ2_checkBoundsBeginEnd_d044e : ByteArray := prog_20_method_93_code
def yJ2_checkBoundsBeginEnd_d044e : MethodName := ⟨RJ2, "checkBoundsBeginEnd", "(II[B)V"⟩
def RJ10 : String := "java/lang/System"
def TJ10 : u_T := fun k => match k with
  | _ => ("", "", "", false)
def tyJ10 : Nat → FieldType := fun k => match k with
  | _ => .int
abbrev wsJ100 : List Cond := u_ws RJ10 TJ10 0
theorem nmJ10 : ∀ a, a < 0 → ∀ b, b < 0 → a ≠ b → (TJ10 a).2.1 ≠ (TJ10 b).2.1 := by decide +kernel
theorem tyJ10_ok : ∀ k, k < 0 → parseFieldDescriptor (TJ10 k).2.2.1 = some (tyJ10 k) := by decide +kernel
def RJ3 : String := "jdk/internal/util/Preconditions"
def TJ3 : u_T := fun k => match k with
  | _ => ("", "", "", false)
def tyJ3 : Nat → FieldType := fun k => match k with
  | _ => .int
abbrev wsJ30 : List Cond := u_ws RJ3 TJ3 0
theorem nmJ3 : ∀ a, a < 0 → ∀ b, b < 0 → a ≠ b → (TJ3 a).2.1 ≠ (TJ3 b).2.1 := by decide +kernel
theorem tyJ3_ok : ∀ k, k < 0 → parseFieldDescriptor (TJ3 k).2.2.1 = some (tyJ3 k) := by decide +kernel
abbrev cJ3_checkIndex_8e157 : ByteArray := prog_22_method_11_code
def yJ3_checkIndex_8e157 : MethodName := ⟨RJ3, "checkIndex", "(IILjava/util/function/BiFunction;)I"⟩
abbrev cJ3_checkFromToIndex_8c36e : ByteArray := prog_22_method_12_code
def yJ3_checkFromToIndex_8c36e : MethodName := ⟨RJ3, "checkFromToIndex", "(IIILjava/util/function/BiFunction;)I"⟩
def RL : String := "PlantedDoubtsLaw"
abbrev cL_law : ByteArray := code
def yL_law : MethodName := ⟨RL, "law", "([I)Z"⟩
abbrev z_cl : List vw_C := [(RX0, TX0, 9), (RX1, TX1, 14), (RX2, TX2, 5), (RX3, TX3, 10), (RX4, TX4, 1), (RX5, TX5, 2), (RX6, TX6, 2), (RX7, TX7, 4), (RX8, TX8, 6), (RX9, TX9, 4), (RX10, TX10, 3), (RX11, TX11, 12), (RX12, TX12, 61)]
abbrev z_ty (Y : z_Y) : List (ClassId × FieldType) := [(Y.1, .int), (Y.2.1, .byte), (Y.2.2, .object "PlantedDoubts$Beds")]
/-- a class of the claim, by its number: its fields as the tables lay them -/
def z_CF (ci : Nat) (C : String) (T : u_T) (N : Nat) (ty : Nat → FieldType) : Prop := z_cl[ci]? = some (C, T, N) ∧ ci < 100 ∧ (∀ w ∈ u_ws C T N, w ∈ z_T) ∧ (∀ k, k < N → parseFieldDescriptor (T k).2.2.1 = some (ty k)) ∧ (∀ a, a < N → ∀ b, b < N → a ≠ b → (T a).2.1 ≠ (T b).2.1) ∧ ∀ k, k < N → (T k).1 = C
theorem z_CF0 : z_CF 0 RX0 TX0 9 tyX0 := ⟨rfl, by decide, fun w hw => List.mem_filter.mpr ⟨(show ∀ w ∈ u_ws RX0 TX0 9, w ∈ lw_tbl by decide +kernel) w hw, (show ∀ w ∈ u_ws RX0 TX0 9, goodWord w = true by decide +kernel) w hw⟩, tyX0_ok, nmX0, by decide +kernel⟩
theorem z_CF1 : z_CF 1 RX1 TX1 14 tyX1 := ⟨rfl, by decide, fun w hw => List.mem_filter.mpr ⟨(show ∀ w ∈ u_ws RX1 TX1 14, w ∈ lw_tbl by decide +kernel) w hw, (show ∀ w ∈ u_ws RX1 TX1 14, goodWord w = true by decide +kernel) w hw⟩, tyX1_ok, nmX1, by decide +kernel⟩
theorem z_CF2 : z_CF 2 RX2 TX2 5 tyX2 := ⟨rfl, by decide, fun w hw => List.mem_filter.mpr ⟨(show ∀ w ∈ u_ws RX2 TX2 5, w ∈ lw_tbl by decide +kernel) w hw, (show ∀ w ∈ u_ws RX2 TX2 5, goodWord w = true by decide +kernel) w hw⟩, tyX2_ok, nmX2, by decide +kernel⟩
theorem z_CF3 : z_CF 3 RX3 TX3 10 tyX3 := ⟨rfl, by decide, fun w hw => List.mem_filter.mpr ⟨(show ∀ w ∈ u_ws RX3 TX3 10, w ∈ lw_tbl by decide +kernel) w hw, (show ∀ w ∈ u_ws RX3 TX3 10, goodWord w = true by decide +kernel) w hw⟩, tyX3_ok, nmX3, by decide +kernel⟩
theorem z_CF4 : z_CF 4 RX4 TX4 1 tyX4 := ⟨rfl, by decide, fun w hw => List.mem_filter.mpr ⟨(show ∀ w ∈ u_ws RX4 TX4 1, w ∈ lw_tbl by decide +kernel) w hw, (show ∀ w ∈ u_ws RX4 TX4 1, goodWord w = true by decide +kernel) w hw⟩, tyX4_ok, nmX4, by decide +kernel⟩
theorem z_CF5 : z_CF 5 RX5 TX5 2 tyX5 := ⟨rfl, by decide, fun w hw => List.mem_filter.mpr ⟨(show ∀ w ∈ u_ws RX5 TX5 2, w ∈ lw_tbl by decide +kernel) w hw, (show ∀ w ∈ u_ws RX5 TX5 2, goodWord w = true by decide +kernel) w hw⟩, tyX5_ok, nmX5, by decide +kernel⟩
theorem z_CF6 : z_CF 6 RX6 TX6 2 tyX6 := ⟨rfl, by decide, fun w hw => List.mem_filter.mpr ⟨(show ∀ w ∈ u_ws RX6 TX6 2, w ∈ lw_tbl by decide +kernel) w hw, (show ∀ w ∈ u_ws RX6 TX6 2, goodWord w = true by decide +kernel) w hw⟩, tyX6_ok, nmX6, by decide +kernel⟩
theorem z_CF7 : z_CF 7 RX7 TX7 4 tyX7 := ⟨rfl, by decide, fun w hw => List.mem_filter.mpr ⟨(show ∀ w ∈ u_ws RX7 TX7 4, w ∈ lw_tbl by decide +kernel) w hw, (show ∀ w ∈ u_ws RX7 TX7 4, goodWord w = true by decide +kernel) w hw⟩, tyX7_ok, nmX7, by decide +kernel⟩
theorem z_CF8 : z_CF 8 RX8 TX8 6 tyX8 := ⟨rfl, by decide, fun w hw => List.mem_filter.mpr ⟨(show ∀ w ∈ u_ws RX8 TX8 6, w ∈ lw_tbl by decide +kernel) w hw, (show ∀ w ∈ u_ws RX8 TX8 6, goodWord w = true by decide +kernel) w hw⟩, tyX8_ok, nmX8, by decide +kernel⟩
theorem z_CF9 : z_CF 9 RX9 TX9 4 tyX9 := ⟨rfl, by decide, fun w hw => List.mem_filter.mpr ⟨(show ∀ w ∈ u_ws RX9 TX9 4, w ∈ lw_tbl by decide +kernel) w hw, (show ∀ w ∈ u_ws RX9 TX9 4, goodWord w = true by decide +kernel) w hw⟩, tyX9_ok, nmX9, by decide +kernel⟩
theorem z_CF10 : z_CF 10 RX10 TX10 3 tyX10 := ⟨rfl, by decide, fun w hw => List.mem_filter.mpr ⟨(show ∀ w ∈ u_ws RX10 TX10 3, w ∈ lw_tbl by decide +kernel) w hw, (show ∀ w ∈ u_ws RX10 TX10 3, goodWord w = true by decide +kernel) w hw⟩, tyX10_ok, nmX10, by decide +kernel⟩
theorem z_CF11 : z_CF 11 RX11 TX11 12 tyX11 := ⟨rfl, by decide, fun w hw => List.mem_filter.mpr ⟨(show ∀ w ∈ u_ws RX11 TX11 12, w ∈ lw_tbl by decide +kernel) w hw, (show ∀ w ∈ u_ws RX11 TX11 12, goodWord w = true by decide +kernel) w hw⟩, tyX11_ok, nmX11, by decide +kernel⟩
theorem z_CF12 : z_CF 12 RX12 TX12 61 tyX12 := ⟨rfl, by decide, fun w hw => List.mem_filter.mpr ⟨(show ∀ w ∈ u_ws RX12 TX12 61, w ∈ lw_tbl by decide +kernel) w hw, (show ∀ w ∈ u_ws RX12 TX12 61, goodWord w = true by decide +kernel) w hw⟩, tyX12_ok, nmX12, by decide +kernel⟩
end
section
/-! the packed walk -/
abbrev z_Ct : Type := Program × Launch × Env × Room × State × MethodId × Array Value × List Frame × Method × Code × va_G × z_Y × (Nat → Nat)
def z_a (X : z_Ct) : Nat → Nat := X.2.2.2.2.2.2.2.2.2.2.2.2
def z_Lh (ls : Array Slot) (lo : List (Option Value)) : Prop := ls.size = lo.length ∧ lv_wf ls ∧ ∀ (i : Nat) (v : Value), lo[i]? = some (some v) → ls[i]? = some (.val v) ∧ v.category = 1
def z_pl (lo : List (Option Value)) : List (Nat × Value) := (List.range lo.length).filterMap (fun i => (lo[i]?.getD none).map (fun v => (i, v)))
theorem z_pl_mem {lo : List (Option Value)} {j : Nat} {v : Value} : (j, v) ∈ z_pl lo ↔ lo[j]? = some (some v) := by
  unfold z_pl
  rw [List.mem_filterMap]
  constructor
  · rintro ⟨i, hi, h⟩
    rw [Option.map_eq_some_iff] at h
    obtain ⟨w, h1, h2⟩ := h
    cases h2
    cases hq : lo[j]? with
    | none => rw [hq] at h1; simp at h1
    | some q => rw [hq] at h1; simp at h1; rw [h1]
  · intro h
    have hl := (List.getElem?_eq_some_iff.mp h).1
    exact ⟨j, List.mem_range.mpr hl, by rw [h]; rfl⟩
theorem z_Lh.has {ls : Array Slot} {lo : List (Option Value)} (h : z_Lh ls lo) : lv_has ls lo.length (z_pl lo) := ⟨h.1, h.2.1, fun q hq => (h.2.2 q.1 q.2 (z_pl_mem.mp hq)).1⟩
theorem z_Lh.of {ls ls' : Array Slot} {lo : List (Option Value)} {i : Nat} {v : Value} (h : z_Lh ls lo) (hc : v.category = 1) (hi : i < lo.length) (h' : lv_has ls' lo.length ((i, v) :: (z_pl lo).filter (fun q => !(q.1 == i) && !(q.1 + 1 == i && q.2.category == 2)))) : z_Lh ls' (lo.set i (some v)) := by
  obtain ⟨h1, h2, h3⟩ := h'
  refine ⟨by rw [h1, List.length_set], h2, fun j w hj => ?_⟩
  by_cases hji : j = i
  · subst hji
    rw [List.getElem?_set_self hi] at hj
    cases hj
    exact ⟨h3 (j, v) List.mem_cons_self, hc⟩
  · rw [List.getElem?_set_ne (Ne.symm hji)] at hj
    have hw := (h.2.2 j w hj).2
    refine ⟨h3 (j, w) (List.mem_cons_of_mem _ (List.mem_filter.mpr ⟨z_pl_mem.mpr hj, ?_⟩)), hw⟩
    simp [hji, hw]
theorem z_Lh.at {ls : Array Slot} {lo : List (Option Value)} (h : z_Lh ls lo) {i : Nat} {v : Value} (hi : lo[i]? = some (some v)) : ls[i]? = some (.val v) := (h.2.2 i v hi).1
/-- locals that are forgotten -/
theorem z_Lh.kill {ls : Array Slot} {lo : List (Option Value)} (h : z_Lh ls lo) (i : Nat) : z_Lh ls (lo.set i none) := by
  refine ⟨by rw [h.1, List.length_set], h.2.1, fun j w hj => ?_⟩
  by_cases hji : j = i
  · subst hji
    by_cases hl : j < lo.length
    · rw [List.getElem?_set_self hl] at hj; cases hj
    · rw [List.getElem?_eq_none (by simp; omega)] at hj; cases hj
  · rw [List.getElem?_set_ne (Ne.symm hji)] at hj
    exact h.2.2 j w hj
def z_kills : List Nat → List (Option Value) → List (Option Value)
  | [], lo => lo
  | k :: ks, lo => z_kills ks (lo.set k none)
theorem z_Lh.kills : ∀ {ks : List Nat} {ls : Array Slot} {lo : List (Option Value)}, z_Lh ls lo → z_Lh ls (z_kills ks lo)
  | [], _, _, h => h
  | k :: _, _, _, h => (h.kill k).kills
/-- what every method of the claim may know beside its cells: the one link between nest mates -/
def z_nest : Cond := .methodLinkNest "PlantedDoubts$Law" 32 ⟨"PlantedDoubts", "isThing", "(I)Z"⟩ "PlantedDoubts"

def z_Gs (S : z_S) (a : Nat → Nat) (U : State) (H : Heap) : Prop := va_Nw z_nest U
theorem z_Gs.moved {S : z_S} {a : Nat → Nat} {s U : State} {H0 H : Heap} {locs : List Loc} (h : z_Gs S a s H0) (hW : s.WarmedH U.vm) (hS : va_S (z_A S a) H0 H locs) : z_Gs S a U H := va_Nw.warmM hW h
theorem z_Gs.nest {S : z_S} {a : Nat → Nat} {s : State} {H0 : Heap} (h : z_Gs S a s H0) : va_Nw z_nest s := h

def z_Q (S : z_S) (D : va_G) (Y : z_Y) (a : Nat → Nat) (o : Option Value × z_M) : Array Value → State → Outcome → State → Prop := fun _ st oc t => oc = .returned o.1 ∧ va_P D z_cl (z_wl S Y a o.2) t.heap ∧ va_F (z_A S a) st t
/-- the shape's own laws -/
def z_ok (S : z_S) : Prop := (∀ c, S.1 c < 200 → c < S.2.2.2) ∧ ∀ c q, z_cl[S.1 c]? = some q → S.2.1 c = q.2.2
/-- what holds in a method's body: own class, code, locals, depth -/
def z_Cx (S : z_S) (X : z_Ct) (own : String) (cc : ByteArray) (nL d : Nat) (ret : Option FieldType) : Prop := match X with
  | (p, l, e, R, s, m, args, below, meth, c, D, Y, a) => p.tables.exec = Jvm.exec ∧ c.code = cc ∧ c.maxLocals = nL ∧ s.vm.findClass own = some m.cls ∧ (∀ w ∈ z_T, w.before args s = true) ∧ va_K D z_cl (z_ty Y) s ∧ z_In S a ∧ z_ok S ∧ meth.locks = false ∧ meth.sig.returnType = ret ∧ (d ≤ R.frames ∧ 64 * d ≤ R.locals) ∧ z_Gs S a s s.heap
def z_W (S : z_S) (X : z_Ct) (pc : Nat) (lo : List (Option Value)) (st : List Value) (σ : z_M) (o : Option Value × z_M) : Prop := match X with
  | (p, l, e, R, s, m, args, below, meth, c, D, Y, a) => ∀ (H : Heap) (locs : List Loc) (ls : Array Slot), va_P D z_cl (z_wl S Y a σ) H → va_S (z_A S a) s.heap H locs → z_Lh ls lo → W p l e R s m args below meth c H locs 0 0 (MQ below (z_Q S D Y a o) args s 0 0 (z_A S a)) (F0 m pc ls st)
def z_rm (d : Nat) : Room := { frames := d, cells := 0, slots := 0, locals := 64 * d }
/-- a method's contract over the cells -/
def z_Mt (y : MethodName) (w : List Cond) (d : Nat) (S : z_S) (a : Nat → Nat) (σ : z_M) (vs : List Value) (o : Option Value × z_M) : Prop := ∀ (l : Launch) (D : va_G) (Y : z_Y), z_In S a → z_ok S → Met l y w (z_rm d) (va_Pc vs (fun U => va_P D z_cl (z_wl S Y a σ) U.heap ∧ va_K D z_cl (z_ty Y) U ∧ z_Gs S a U U.heap)) (z_Q S D Y a o) 0 0 (z_A S a)
def z_let {α β : Type} (x : α) (f : α → Option β) : Option β := f x
def z_chk {β : Type} (b : Bool) (k : Option β) : Option β := if b = true then k else none
def z_bnd {α β : Type} (m : Option (α × z_M)) (f : α → z_M → Option β) : Option β := match m with
  | some q => f q.1 q.2
  | none => none
def z_in (i : Int32) (n : Nat) : Bool := !(decide (i < 0)) && decide (i.toNatClampNeg < n)
def z_ix (i : Int32) : Nat := i.toNatClampNeg
def z_01 (v : Int32) : Bool := decide (v = 0) || decide (v = 1)
def z_shl (x y : Int32) : Int32 := x <<< (y &&& 31)
def z_shr (x y : Int32) : Int32 := x >>> (y &&& 31)
def z_ushr (x y : Int32) : Int32 := (x.toUInt32 >>> (y.toUInt32 &&& Int32.toUInt32 31)).toInt32
def z_rem (x y : Int32) : Int32 := x - x / y * y
def z_max (x y : Int32) : Int32 := if x < y then y else x
def z_min (x y : Int32) : Int32 := if y < x then y else x
def z_cpy (σ : z_M) (c0 : Nat) (sp : Int32) (c1 : Nat) (dp n : Int32) : z_M := z_row σ c1 (va_cpy (σ c0) (σ c1) sp.toNatClampNeg dp.toNatClampNeg n.toNatClampNeg)
def z_cok (n0 : Nat) (sp : Int32) (n1 : Nat) (dp n : Int32) : Bool := !(decide (sp < 0)) && (!(decide (dp < 0)) && (!(decide (n < 0)) && (decide (sp.toNatClampNeg + n.toNatClampNeg ≤ n0) && decide (dp.toNatClampNeg + n.toNatClampNeg ≤ n1))))
def z_fu : Nat := 1000
def z_oi (o : Int32 × z_M) : Option Value × z_M := (some (.int o.1), o.2)
def z_ov (o : Unit × z_M) : Option Value × z_M := (none, o.2)
def z_or (X : z_Ct) (o : Nat × z_M) : Option Value × z_M := (some (.ref (z_a X o.1)), o.2)
theorem z_let_some {α β : Type} {x : α} {f : α → Option β} {o : β} (h : z_let x f = some o) : ∃ y, y = x ∧ f y = some o := ⟨x, rfl, h⟩
theorem z_chk_some {β : Type} {b : Bool} {k : Option β} {o : β} (h : z_chk b k = some o) : b = true ∧ k = some o := by
  unfold z_chk at h
  by_cases hb : b = true
  · rw [if_pos hb] at h; exact ⟨hb, h⟩
  · rw [if_neg hb] at h; cases h
theorem z_bnd_some {α β : Type} {m : Option (α × z_M)} {f : α → z_M → Option β} {o : β} (h : z_bnd m f = some o) : ∃ q, m = some q ∧ f q.1 q.2 = some o := by
  cases m with
  | none => cases h
  | some q => exact ⟨q, rfl, h⟩
theorem z_pos {α : Type} {c : Prop} {hd : Decidable c} {A B : Option α} {o : α} (hc : c) (h : (@ite _ c hd A B) = some o) : A = some o := by rw [if_pos hc] at h; exact h
theorem z_neg {α : Type} {c : Prop} {hd : Decidable c} {A B : Option α} {o : α} (hc : ¬ c) (h : (@ite _ c hd A B) = some o) : B = some o := by rw [if_neg hc] at h; exact h
theorem z_in_vp {i : Int32} {n : Nat} (h : z_in i n = true) : vp_in i n := by
  unfold z_in at h
  simp only [Bool.and_eq_true, Bool.not_eq_true', decide_eq_false_iff_not, decide_eq_true_eq] at h
  exact fun q => q.elim h.1 (fun g => by omega)
section ZR
variable {S : z_S} {X : z_Ct} {own : String} {cc : ByteArray} {nL d : Nat} {ret : Option FieldType} {pc : Nat} {lo : List (Option Value)} {st : List Value} {σ : z_M} {o : Option Value × z_M}
theorem z_top {x y : Int32} (e : y = x) (k : z_W S X pc lo (.int y :: st) σ o) : z_W S X pc lo (.int x :: st) σ o := e ▸ k
theorem z_kill {lo' : List (Option Value)} (ks : List Nat) (hl : z_kills ks lo = lo') (k : z_W S X pc lo' st σ o) : z_W S X pc lo st σ o := by
  obtain ⟨p, l, e, R, s, m, args, below, meth, c, D, Y, a⟩ := X
  intro H locs ls hP hS hl2
  exact k H locs ls hP hS (hl ▸ hl2.kills)
theorem z_at {st' : List Value} {lo' : List (Option Value)} {pc' : Nat} (e1 : pc' = pc) (e2 : lo' = lo) (e3 : st' = st) (k : z_W S X pc' lo' st' σ o) : z_W S X pc lo st σ o := by subst e1 e2 e3; exact k
theorem z_iconst (C : z_Cx S X own cc nL d ret) {n : Int} {v : Int32} (hd : decode cc pc = .ok (.iconst n, 1)) (hv : Int32.ofInt n = v) (k : z_W S X (pc + 1) lo (.int v :: st) σ o) : z_W S X pc lo (st) σ o := by
  obtain ⟨p, l, e, R, s, m, args, below, meth, c, D, Y, a⟩ := X
  obtain ⟨hx, hb, hml, hown, hts, hK, hI, hok, hlk, hr, hR, hG⟩ := C
  intro H locs ls hP hS hl
  exact lv_iconst hx hb hd hv (k H locs ls hP hS hl)
theorem z_bipush (C : z_Cx S X own cc nL d ret) {n : Int} {v : Int32} (hd : decode cc pc = .ok (.bipush n, 2)) (hv : (Int8.ofInt n).toInt32 = v) (k : z_W S X (pc + 2) lo (.int v :: st) σ o) : z_W S X pc lo (st) σ o := by
  obtain ⟨p, l, e, R, s, m, args, below, meth, c, D, Y, a⟩ := X
  obtain ⟨hx, hb, hml, hown, hts, hK, hI, hok, hlk, hr, hR, hG⟩ := C
  intro H locs ls hP hS hl
  exact lv_bipush hx hb hd hv (k H locs ls hP hS hl)
theorem z_sipush (C : z_Cx S X own cc nL d ret) {n : Int} {v : Int32} (hd : decode cc pc = .ok (.sipush n, 3)) (hv : (Int16.ofInt n).toInt32 = v) (k : z_W S X (pc + 3) lo (.int v :: st) σ o) : z_W S X pc lo (st) σ o := by
  obtain ⟨p, l, e, R, s, m, args, below, meth, c, D, Y, a⟩ := X
  obtain ⟨hx, hb, hml, hown, hts, hK, hI, hok, hlk, hr, hR, hG⟩ := C
  intro H locs ls hP hS hl
  exact lv_sipush hx hb hd hv (k H locs ls hP hS hl)
theorem z_iload (C : z_Cx S X own cc nL d ret) {i : Nat} {x : Int32} (hd : decode cc pc = .ok (.iload i, 2)) (hl2 : lo[i]? = some (some (.int x))) (k : z_W S X (pc + 2) lo (.int x :: st) σ o) : z_W S X pc lo (st) σ o := by
  obtain ⟨p, l, e, R, s, m, args, below, meth, c, D, Y, a⟩ := X
  obtain ⟨hx, hb, hml, hown, hts, hK, hI, hok, hlk, hr, hR, hG⟩ := C
  intro H locs ls hP hS hl
  exact lv_iload hx hb hd (hl.at hl2) (k H locs ls hP hS hl)
theorem z_iload_n (C : z_Cx S X own cc nL d ret) {i : Fin 4} {x : Int32} (hd : decode cc pc = .ok (.iload_n i, 1)) {j : Nat} (hj : (i : Nat) = j) (hl2 : lo[j]? = some (some (.int x))) (k : z_W S X (pc + 1) lo (.int x :: st) σ o) : z_W S X pc lo (st) σ o := by
  obtain ⟨p, l, e, R, s, m, args, below, meth, c, D, Y, a⟩ := X
  obtain ⟨hx, hb, hml, hown, hts, hK, hI, hok, hlk, hr, hR, hG⟩ := C
  intro H locs ls hP hS hl
  exact lv_iload_n hx hb hd hj (hl.at hl2) (k H locs ls hP hS hl)
theorem z_aload (C : z_Cx S X own cc nL d ret) {i : Nat} {x : Nat} (hd : decode cc pc = .ok (.aload i, 2)) (hl2 : lo[i]? = some (some (.ref x))) (k : z_W S X (pc + 2) lo (.ref x :: st) σ o) : z_W S X pc lo (st) σ o := by
  obtain ⟨p, l, e, R, s, m, args, below, meth, c, D, Y, a⟩ := X
  obtain ⟨hx, hb, hml, hown, hts, hK, hI, hok, hlk, hr, hR, hG⟩ := C
  intro H locs ls hP hS hl
  exact lv_aload hx hb hd (hl.at hl2) (k H locs ls hP hS hl)
theorem z_aload_n (C : z_Cx S X own cc nL d ret) {i : Fin 4} {x : Nat} (hd : decode cc pc = .ok (.aload_n i, 1)) {j : Nat} (hj : (i : Nat) = j) (hl2 : lo[j]? = some (some (.ref x))) (k : z_W S X (pc + 1) lo (.ref x :: st) σ o) : z_W S X pc lo (st) σ o := by
  obtain ⟨p, l, e, R, s, m, args, below, meth, c, D, Y, a⟩ := X
  obtain ⟨hx, hb, hml, hown, hts, hK, hI, hok, hlk, hr, hR, hG⟩ := C
  intro H locs ls hP hS hl
  exact lv_aload_n hx hb hd hj (hl.at hl2) (k H locs ls hP hS hl)
theorem z_iadd (C : z_Cx S X own cc nL d ret) {x y : Int32} (hd : decode cc pc = .ok (.iadd, 1)) (k : z_W S X (pc + 1) lo (.int (x + y) :: st) σ o) : z_W S X pc lo (.int y :: .int x :: st) σ o := by
  obtain ⟨p, l, e, R, s, m, args, below, meth, c, D, Y, a⟩ := X
  obtain ⟨hx, hb, hml, hown, hts, hK, hI, hok, hlk, hr, hR, hG⟩ := C
  intro H locs ls hP hS hl
  exact lv_iadd hx hb hd (k H locs ls hP hS hl)
theorem z_isub (C : z_Cx S X own cc nL d ret) {x y : Int32} (hd : decode cc pc = .ok (.isub, 1)) (k : z_W S X (pc + 1) lo (.int (x - y) :: st) σ o) : z_W S X pc lo (.int y :: .int x :: st) σ o := by
  obtain ⟨p, l, e, R, s, m, args, below, meth, c, D, Y, a⟩ := X
  obtain ⟨hx, hb, hml, hown, hts, hK, hI, hok, hlk, hr, hR, hG⟩ := C
  intro H locs ls hP hS hl
  exact lv_isub hx hb hd (k H locs ls hP hS hl)
theorem z_imul (C : z_Cx S X own cc nL d ret) {x y : Int32} (hd : decode cc pc = .ok (.imul, 1)) (k : z_W S X (pc + 1) lo (.int (x * y) :: st) σ o) : z_W S X pc lo (.int y :: .int x :: st) σ o := by
  obtain ⟨p, l, e, R, s, m, args, below, meth, c, D, Y, a⟩ := X
  obtain ⟨hx, hb, hml, hown, hts, hK, hI, hok, hlk, hr, hR, hG⟩ := C
  intro H locs ls hP hS hl
  exact lv_imul hx hb hd (k H locs ls hP hS hl)
theorem z_iand (C : z_Cx S X own cc nL d ret) {x y : Int32} (hd : decode cc pc = .ok (.iand, 1)) (k : z_W S X (pc + 1) lo (.int (x &&& y) :: st) σ o) : z_W S X pc lo (.int y :: .int x :: st) σ o := by
  obtain ⟨p, l, e, R, s, m, args, below, meth, c, D, Y, a⟩ := X
  obtain ⟨hx, hb, hml, hown, hts, hK, hI, hok, hlk, hr, hR, hG⟩ := C
  intro H locs ls hP hS hl
  exact lv_iand hx hb hd (k H locs ls hP hS hl)
theorem z_ior (C : z_Cx S X own cc nL d ret) {x y : Int32} (hd : decode cc pc = .ok (.ior, 1)) (k : z_W S X (pc + 1) lo (.int (x ||| y) :: st) σ o) : z_W S X pc lo (.int y :: .int x :: st) σ o := by
  obtain ⟨p, l, e, R, s, m, args, below, meth, c, D, Y, a⟩ := X
  obtain ⟨hx, hb, hml, hown, hts, hK, hI, hok, hlk, hr, hR, hG⟩ := C
  intro H locs ls hP hS hl
  exact lv_ior hx hb hd (k H locs ls hP hS hl)
theorem z_ixor (C : z_Cx S X own cc nL d ret) {x y : Int32} (hd : decode cc pc = .ok (.ixor, 1)) (k : z_W S X (pc + 1) lo (.int (x ^^^ y) :: st) σ o) : z_W S X pc lo (.int y :: .int x :: st) σ o := by
  obtain ⟨p, l, e, R, s, m, args, below, meth, c, D, Y, a⟩ := X
  obtain ⟨hx, hb, hml, hown, hts, hK, hI, hok, hlk, hr, hR, hG⟩ := C
  intro H locs ls hP hS hl
  exact lv_ixor hx hb hd (k H locs ls hP hS hl)
theorem z_ishl (C : z_Cx S X own cc nL d ret) {x y : Int32} (hd : decode cc pc = .ok (.ishl, 1)) (k : z_W S X (pc + 1) lo (.int (z_shl x y) :: st) σ o) : z_W S X pc lo (.int y :: .int x :: st) σ o := by
  obtain ⟨p, l, e, R, s, m, args, below, meth, c, D, Y, a⟩ := X
  obtain ⟨hx, hb, hml, hown, hts, hK, hI, hok, hlk, hr, hR, hG⟩ := C
  intro H locs ls hP hS hl
  exact lv_ishl hx hb hd (k H locs ls hP hS hl)
theorem z_ishr (C : z_Cx S X own cc nL d ret) {x y : Int32} (hd : decode cc pc = .ok (.ishr, 1)) (k : z_W S X (pc + 1) lo (.int (z_shr x y) :: st) σ o) : z_W S X pc lo (.int y :: .int x :: st) σ o := by
  obtain ⟨p, l, e, R, s, m, args, below, meth, c, D, Y, a⟩ := X
  obtain ⟨hx, hb, hml, hown, hts, hK, hI, hok, hlk, hr, hR, hG⟩ := C
  intro H locs ls hP hS hl
  exact lv_ishr hx hb hd (k H locs ls hP hS hl)
theorem z_idiv (C : z_Cx S X own cc nL d ret) {x y : Int32} (hd : decode cc pc = .ok (.idiv, 1)) (hne : ¬ y = 0) (k : z_W S X (pc + 1) lo (.int (x / y) :: st) σ o) : z_W S X pc lo (.int y :: .int x :: st) σ o := by
  obtain ⟨p, l, e, R, s, m, args, below, meth, c, D, Y, a⟩ := X
  obtain ⟨hx, hb, hml, hown, hts, hK, hI, hok, hlk, hr, hR, hG⟩ := C
  intro H locs ls hP hS hl
  exact lv_idiv hx hb hd hne (k H locs ls hP hS hl)
theorem z_irem (C : z_Cx S X own cc nL d ret) {x y : Int32} (hd : decode cc pc = .ok (.irem, 1)) (hne : ¬ y = 0) (k : z_W S X (pc + 1) lo (.int (z_rem x y) :: st) σ o) : z_W S X pc lo (.int y :: .int x :: st) σ o := by
  obtain ⟨p, l, e, R, s, m, args, below, meth, c, D, Y, a⟩ := X
  obtain ⟨hx, hb, hml, hown, hts, hK, hI, hok, hlk, hr, hR, hG⟩ := C
  intro H locs ls hP hS hl
  exact lv_irem hx hb hd hne (k H locs ls hP hS hl)
theorem z_ineg (C : z_Cx S X own cc nL d ret) {x : Int32} (hd : decode cc pc = .ok (.ineg, 1)) (k : z_W S X (pc + 1) lo (.int (-x) :: st) σ o) : z_W S X pc lo (.int x :: st) σ o := by
  obtain ⟨p, l, e, R, s, m, args, below, meth, c, D, Y, a⟩ := X
  obtain ⟨hx, hb, hml, hown, hts, hK, hI, hok, hlk, hr, hR, hG⟩ := C
  intro H locs ls hP hS hl
  exact lv_ineg hx hb hd (k H locs ls hP hS hl)
theorem z_iushr (C : z_Cx S X own cc nL d ret) {x y : Int32} (hd : decode cc pc = .ok (.iushr, 1)) (k : z_W S X (pc + 1) lo (.int (z_ushr x y) :: st) σ o) : z_W S X pc lo (.int y :: .int x :: st) σ o := by
  obtain ⟨p, l, e, R, s, m, args, below, meth, c, D, Y, a⟩ := X
  obtain ⟨hx, hb, hml, hown, hts, hK, hI, hok, hlk, hr, hR, hG⟩ := C
  intro H locs ls hP hS hl
  exact lv_iushr hx hb hd rfl (k H locs ls hP hS hl)
theorem z_i2b (C : z_Cx S X own cc nL d ret) {x : Int32} (hd : decode cc pc = .ok (.i2b, 1)) (k : z_W S X (pc + 1) lo (.int (x.toInt8.toInt32) :: st) σ o) : z_W S X pc lo (.int x :: st) σ o := by
  obtain ⟨p, l, e, R, s, m, args, below, meth, c, D, Y, a⟩ := X
  obtain ⟨hx, hb, hml, hown, hts, hK, hI, hok, hlk, hr, hR, hG⟩ := C
  intro H locs ls hP hS hl
  exact lv_i2b hx hb hd rfl (k H locs ls hP hS hl)
theorem z_i2c (C : z_Cx S X own cc nL d ret) {x : Int32} (hd : decode cc pc = .ok (.i2c, 1)) (k : z_W S X (pc + 1) lo (.int ((x.toUInt32 % 65536).toInt32) :: st) σ o) : z_W S X pc lo (.int x :: st) σ o := by
  obtain ⟨p, l, e, R, s, m, args, below, meth, c, D, Y, a⟩ := X
  obtain ⟨hx, hb, hml, hown, hts, hK, hI, hok, hlk, hr, hR, hG⟩ := C
  intro H locs ls hP hS hl
  exact lv_i2c hx hb hd rfl (k H locs ls hP hS hl)
theorem z_dup (C : z_Cx S X own cc nL d ret) {v : Value} (hd : decode cc pc = .ok (.dup, 1)) (hc : v.category = 1) (k : z_W S X (pc + 1) lo (v :: v :: st) σ o) : z_W S X pc lo (v :: st) σ o := by
  obtain ⟨p, l, e, R, s, m, args, below, meth, c, D, Y, a⟩ := X
  obtain ⟨hx, hb, hml, hown, hts, hK, hI, hok, hlk, hr, hR, hG⟩ := C
  intro H locs ls hP hS hl
  exact lv_dup hx hb hd hc (k H locs ls hP hS hl)
theorem z_pop (C : z_Cx S X own cc nL d ret) {v : Value} (hd : decode cc pc = .ok (.pop, 1)) (hc : v.category = 1) (k : z_W S X (pc + 1) lo (st) σ o) : z_W S X pc lo (v :: st) σ o := by
  obtain ⟨p, l, e, R, s, m, args, below, meth, c, D, Y, a⟩ := X
  obtain ⟨hx, hb, hml, hown, hts, hK, hI, hok, hlk, hr, hR, hG⟩ := C
  intro H locs ls hP hS hl
  exact lv_pop hx hb hd hc (k H locs ls hP hS hl)
theorem z_dup2 (C : z_Cx S X own cc nL d ret) {v w : Value} (hd : decode cc pc = .ok (.dup2, 1)) (hc : v.category = 1) (hc2 : w.category = 1) (k : z_W S X (pc + 1) lo (v :: w :: v :: w :: st) σ o) : z_W S X pc lo (v :: w :: st) σ o := by
  obtain ⟨p, l, e, R, s, m, args, below, meth, c, D, Y, a⟩ := X
  obtain ⟨hx, hb, hml, hown, hts, hK, hI, hok, hlk, hr, hR, hG⟩ := C
  intro H locs ls hP hS hl
  exact lv_dup2_11 hx hb hd hc hc2 (k H locs ls hP hS hl)
theorem z_dup_x1 (C : z_Cx S X own cc nL d ret) {v w : Value} (hd : decode cc pc = .ok (.dup_x1, 1)) (hc : v.category = 1) (hc2 : w.category = 1) (k : z_W S X (pc + 1) lo (v :: w :: v :: st) σ o) : z_W S X pc lo (v :: w :: st) σ o := by
  obtain ⟨p, l, e, R, s, m, args, below, meth, c, D, Y, a⟩ := X
  obtain ⟨hx, hb, hml, hown, hts, hK, hI, hok, hlk, hr, hR, hG⟩ := C
  intro H locs ls hP hS hl
  exact lv_dup_x1 hx hb hd hc hc2 (k H locs ls hP hS hl)
theorem z_ldc (C : z_Cx S X own cc nL d ret) {index : Nat} {v : Int32} (hd : decode cc pc = .ok (.ldc index, 2)) (hc : Cond.constant own index v ∈ z_T) (k : z_W S X (pc + 2) lo (.int v :: st) σ o) : z_W S X pc lo st σ o := by
  obtain ⟨p, l, e, R, s, m, args, below, meth, c, D, Y, a⟩ := X
  obtain ⟨hx, hb, hml, hown, hts, hK, hI, hok, hlk, hr, hR, hG⟩ := C
  intro H locs ls hP hS hl
  exact lv_ldc hx hb hown (hts _ hc) hd (k H locs ls hP hS hl)
theorem z_ldcw (C : z_Cx S X own cc nL d ret) {index : Nat} {v : Int32} (hd : decode cc pc = .ok (.ldc_w index, 3)) (hc : Cond.constant own index v ∈ z_T) (k : z_W S X (pc + 3) lo (.int v :: st) σ o) : z_W S X pc lo st σ o := by
  obtain ⟨p, l, e, R, s, m, args, below, meth, c, D, Y, a⟩ := X
  obtain ⟨hx, hb, hml, hown, hts, hK, hI, hok, hlk, hr, hR, hG⟩ := C
  intro H locs ls hP hS hl
  exact lv_ldcw hx hb hown (hts _ hc) hd (k H locs ls hP hS hl)
theorem z_istore (C : z_Cx S X own cc nL d ret) {i : Nat} {x : Int32} {lo' : List (Option Value)} (hd : decode cc pc = .ok (.istore i, 2)) (hi : i < lo.length) (hl2 : lo.set i (some (.int x)) = lo') (k : z_W S X (pc + 2) lo' st σ o) : z_W S X pc lo (.int x :: st) σ o := by
  obtain ⟨p, l, e, R, s, m, args, below, meth, c, D, Y, a⟩ := X
  obtain ⟨hx, hb, hml, hown, hts, hK, hI, hok, hlk, hr, hR, hG⟩ := C
  intro H locs ls hP hS hl
  exact lv_istore hx hb hd hl.has hi rfl (fun ls' h' => k H locs ls' hP hS (hl2 ▸ hl.of rfl hi h'))
theorem z_istore_n (C : z_Cx S X own cc nL d ret) {i : Fin 4} {j : Nat} {x : Int32} {lo' : List (Option Value)} (hd : decode cc pc = .ok (.istore_n i, 1)) (hj : (i : Nat) = j) (hi : j < lo.length) (hl2 : lo.set j (some (.int x)) = lo') (k : z_W S X (pc + 1) lo' st σ o) : z_W S X pc lo (.int x :: st) σ o := by
  obtain ⟨p, l, e, R, s, m, args, below, meth, c, D, Y, a⟩ := X
  obtain ⟨hx, hb, hml, hown, hts, hK, hI, hok, hlk, hr, hR, hG⟩ := C
  intro H locs ls hP hS hl
  exact lv_istore_n hx hb hd hj hl.has hi rfl (fun ls' h' => k H locs ls' hP hS (hl2 ▸ hl.of rfl hi h'))
theorem z_astore (C : z_Cx S X own cc nL d ret) {i : Nat} {x : Nat} {lo' : List (Option Value)} (hd : decode cc pc = .ok (.astore i, 2)) (hi : i < lo.length) (hl2 : lo.set i (some (.ref x)) = lo') (k : z_W S X (pc + 2) lo' st σ o) : z_W S X pc lo (.ref x :: st) σ o := by
  obtain ⟨p, l, e, R, s, m, args, below, meth, c, D, Y, a⟩ := X
  obtain ⟨hx, hb, hml, hown, hts, hK, hI, hok, hlk, hr, hR, hG⟩ := C
  intro H locs ls hP hS hl
  exact lv_astore hx hb hd hl.has hi rfl (fun ls' h' => k H locs ls' hP hS (hl2 ▸ hl.of rfl hi h'))
theorem z_astore_n (C : z_Cx S X own cc nL d ret) {i : Fin 4} {j : Nat} {x : Nat} {lo' : List (Option Value)} (hd : decode cc pc = .ok (.astore_n i, 1)) (hj : (i : Nat) = j) (hi : j < lo.length) (hl2 : lo.set j (some (.ref x)) = lo') (k : z_W S X (pc + 1) lo' st σ o) : z_W S X pc lo (.ref x :: st) σ o := by
  obtain ⟨p, l, e, R, s, m, args, below, meth, c, D, Y, a⟩ := X
  obtain ⟨hx, hb, hml, hown, hts, hK, hI, hok, hlk, hr, hR, hG⟩ := C
  intro H locs ls hP hS hl
  exact lv_astore_n hx hb hd hj hl.has hi rfl (fun ls' h' => k H locs ls' hP hS (hl2 ▸ hl.of rfl hi h'))
theorem z_iinc (C : z_Cx S X own cc nL d ret) {i : Nat} {n : Int} {x v : Int32} {lo' : List (Option Value)} (hd : decode cc pc = .ok (.iinc i n, 3)) (hx0 : lo[i]? = some (some (.int x))) (hv : x + Int32.ofInt n = v) (hl2 : lo.set i (some (.int v)) = lo') (k : z_W S X (pc + 3) lo' st σ o) : z_W S X pc lo st σ o := by
  obtain ⟨p, l, e, R, s, m, args, below, meth, c, D, Y, a⟩ := X
  obtain ⟨hx, hb, hml, hown, hts, hK, hI, hok, hlk, hr, hR, hG⟩ := C
  intro H locs ls hP hS hl
  have hi : i < lo.length := (List.getElem?_eq_some_iff.mp hx0).1
  obtain ⟨kk, hk⟩ := List.getElem?_of_mem (z_pl_mem.mpr hx0)
  exact lv_iinc hx hb hd hl.has hk hv hi rfl (fun ls' h' => k H locs ls' hP hS (hl2 ▸ hl.of rfl hi h'))
theorem z_goto (C : z_Cx S X own cc nL d ret) {off : Int} {tgt : Nat} (hd : decode cc pc = .ok (.goto off, 3)) (ht : (pc : Int) + off = (tgt : Int)) (k : z_W S X tgt lo st σ o) : z_W S X pc lo st σ o := by
  obtain ⟨p, l, e, R, s, m, args, below, meth, c, D, Y, a⟩ := X
  obtain ⟨hx, hb, hml, hown, hts, hK, hI, hok, hlk, hr, hR, hG⟩ := C
  intro H locs ls hP hS hl
  exact lv_goto hx hb hd ht (k H locs ls hP hS hl)
theorem z_icmp_eq (C : z_Cx S X own cc nL d ret) {x y : Int32} {off : Int} {tgt : Nat} (hd : decode cc pc = .ok (.if_icmp .eq off, 3)) (ht : (pc : Int) + off = (tgt : Int)) (kt : x = y → z_W S X tgt lo st σ o) (kf : ¬ x = y → z_W S X (pc + 3) lo st σ o) : z_W S X pc lo (.int y :: .int x :: st) σ o := by
  obtain ⟨p, l, e, R, s, m, args, below, meth, c, D, Y, a⟩ := X
  obtain ⟨hx, hb, hml, hown, hts, hK, hI, hok, hlk, hr, hR, hG⟩ := C
  intro H locs ls hP hS hl
  exact lv_icmp_eq hx hb hd ht (fun g => kt (g) H locs ls hP hS hl) (fun g => kf (g) H locs ls hP hS hl)
theorem z_icmp_ne (C : z_Cx S X own cc nL d ret) {x y : Int32} {off : Int} {tgt : Nat} (hd : decode cc pc = .ok (.if_icmp .ne off, 3)) (ht : (pc : Int) + off = (tgt : Int)) (kt : ¬ x = y → z_W S X tgt lo st σ o) (kf : x = y → z_W S X (pc + 3) lo st σ o) : z_W S X pc lo (.int y :: .int x :: st) σ o := by
  obtain ⟨p, l, e, R, s, m, args, below, meth, c, D, Y, a⟩ := X
  obtain ⟨hx, hb, hml, hown, hts, hK, hI, hok, hlk, hr, hR, hG⟩ := C
  intro H locs ls hP hS hl
  exact lv_icmp_ne hx hb hd ht (fun g => kt (g) H locs ls hP hS hl) (fun g => kf (g) H locs ls hP hS hl)
theorem z_icmp_lt (C : z_Cx S X own cc nL d ret) {x y : Int32} {off : Int} {tgt : Nat} (hd : decode cc pc = .ok (.if_icmp .lt off, 3)) (ht : (pc : Int) + off = (tgt : Int)) (kt : x < y → z_W S X tgt lo st σ o) (kf : ¬ x < y → z_W S X (pc + 3) lo st σ o) : z_W S X pc lo (.int y :: .int x :: st) σ o := by
  obtain ⟨p, l, e, R, s, m, args, below, meth, c, D, Y, a⟩ := X
  obtain ⟨hx, hb, hml, hown, hts, hK, hI, hok, hlk, hr, hR, hG⟩ := C
  intro H locs ls hP hS hl
  exact lv_icmp_lt hx hb hd ht (fun g => kt (g) H locs ls hP hS hl) (fun g => kf (g) H locs ls hP hS hl)
theorem z_icmp_ge (C : z_Cx S X own cc nL d ret) {x y : Int32} {off : Int} {tgt : Nat} (hd : decode cc pc = .ok (.if_icmp .ge off, 3)) (ht : (pc : Int) + off = (tgt : Int)) (kt : ¬ x < y → z_W S X tgt lo st σ o) (kf : x < y → z_W S X (pc + 3) lo st σ o) : z_W S X pc lo (.int y :: .int x :: st) σ o := by
  obtain ⟨p, l, e, R, s, m, args, below, meth, c, D, Y, a⟩ := X
  obtain ⟨hx, hb, hml, hown, hts, hK, hI, hok, hlk, hr, hR, hG⟩ := C
  intro H locs ls hP hS hl
  exact lv_icmp_ge hx hb hd ht (fun g => kt (Int32.not_lt.mpr g) H locs ls hP hS hl) (fun g => kf (Int32.not_le.mp g) H locs ls hP hS hl)
theorem z_icmp_gt (C : z_Cx S X own cc nL d ret) {x y : Int32} {off : Int} {tgt : Nat} (hd : decode cc pc = .ok (.if_icmp .gt off, 3)) (ht : (pc : Int) + off = (tgt : Int)) (kt : y < x → z_W S X tgt lo st σ o) (kf : ¬ y < x → z_W S X (pc + 3) lo st σ o) : z_W S X pc lo (.int y :: .int x :: st) σ o := by
  obtain ⟨p, l, e, R, s, m, args, below, meth, c, D, Y, a⟩ := X
  obtain ⟨hx, hb, hml, hown, hts, hK, hI, hok, hlk, hr, hR, hG⟩ := C
  intro H locs ls hP hS hl
  exact lv_icmp_gt hx hb hd ht (fun g => kt (g) H locs ls hP hS hl) (fun g => kf (g) H locs ls hP hS hl)
theorem z_icmp_le (C : z_Cx S X own cc nL d ret) {x y : Int32} {off : Int} {tgt : Nat} (hd : decode cc pc = .ok (.if_icmp .le off, 3)) (ht : (pc : Int) + off = (tgt : Int)) (kt : ¬ y < x → z_W S X tgt lo st σ o) (kf : y < x → z_W S X (pc + 3) lo st σ o) : z_W S X pc lo (.int y :: .int x :: st) σ o := by
  obtain ⟨p, l, e, R, s, m, args, below, meth, c, D, Y, a⟩ := X
  obtain ⟨hx, hb, hml, hown, hts, hK, hI, hok, hlk, hr, hR, hG⟩ := C
  intro H locs ls hP hS hl
  exact lv_icmp_le hx hb hd ht (fun g => kt (Int32.not_lt.mpr g) H locs ls hP hS hl) (fun g => kf (Int32.not_le.mp g) H locs ls hP hS hl)
theorem z_if_eq (C : z_Cx S X own cc nL d ret) {x : Int32} {off : Int} {tgt : Nat} (hd : decode cc pc = .ok (.ifCond .eq off, 3)) (ht : (pc : Int) + off = (tgt : Int)) (kt : x = 0 → z_W S X tgt lo st σ o) (kf : ¬ x = 0 → z_W S X (pc + 3) lo st σ o) : z_W S X pc lo (.int x :: st) σ o := by
  obtain ⟨p, l, e, R, s, m, args, below, meth, c, D, Y, a⟩ := X
  obtain ⟨hx, hb, hml, hown, hts, hK, hI, hok, hlk, hr, hR, hG⟩ := C
  intro H locs ls hP hS hl
  exact lv_if_eq hx hb hd ht (fun g => kt (g) H locs ls hP hS hl) (fun g => kf (g) H locs ls hP hS hl)
theorem z_if_ne (C : z_Cx S X own cc nL d ret) {x : Int32} {off : Int} {tgt : Nat} (hd : decode cc pc = .ok (.ifCond .ne off, 3)) (ht : (pc : Int) + off = (tgt : Int)) (kt : ¬ x = 0 → z_W S X tgt lo st σ o) (kf : x = 0 → z_W S X (pc + 3) lo st σ o) : z_W S X pc lo (.int x :: st) σ o := by
  obtain ⟨p, l, e, R, s, m, args, below, meth, c, D, Y, a⟩ := X
  obtain ⟨hx, hb, hml, hown, hts, hK, hI, hok, hlk, hr, hR, hG⟩ := C
  intro H locs ls hP hS hl
  exact lv_if_ne hx hb hd ht (fun g => kt (g) H locs ls hP hS hl) (fun g => kf (g) H locs ls hP hS hl)
theorem z_if_lt (C : z_Cx S X own cc nL d ret) {x : Int32} {off : Int} {tgt : Nat} (hd : decode cc pc = .ok (.ifCond .lt off, 3)) (ht : (pc : Int) + off = (tgt : Int)) (kt : x < 0 → z_W S X tgt lo st σ o) (kf : ¬ x < 0 → z_W S X (pc + 3) lo st σ o) : z_W S X pc lo (.int x :: st) σ o := by
  obtain ⟨p, l, e, R, s, m, args, below, meth, c, D, Y, a⟩ := X
  obtain ⟨hx, hb, hml, hown, hts, hK, hI, hok, hlk, hr, hR, hG⟩ := C
  intro H locs ls hP hS hl
  exact lv_if_lt hx hb hd ht (fun g => kt (g) H locs ls hP hS hl) (fun g => kf (g) H locs ls hP hS hl)
theorem z_if_ge (C : z_Cx S X own cc nL d ret) {x : Int32} {off : Int} {tgt : Nat} (hd : decode cc pc = .ok (.ifCond .ge off, 3)) (ht : (pc : Int) + off = (tgt : Int)) (kt : ¬ x < 0 → z_W S X tgt lo st σ o) (kf : x < 0 → z_W S X (pc + 3) lo st σ o) : z_W S X pc lo (.int x :: st) σ o := by
  obtain ⟨p, l, e, R, s, m, args, below, meth, c, D, Y, a⟩ := X
  obtain ⟨hx, hb, hml, hown, hts, hK, hI, hok, hlk, hr, hR, hG⟩ := C
  intro H locs ls hP hS hl
  exact lv_if_ge hx hb hd ht (fun g => kt (Int32.not_lt.mpr g) H locs ls hP hS hl) (fun g => kf (Int32.not_le.mp g) H locs ls hP hS hl)
theorem z_if_gt (C : z_Cx S X own cc nL d ret) {x : Int32} {off : Int} {tgt : Nat} (hd : decode cc pc = .ok (.ifCond .gt off, 3)) (ht : (pc : Int) + off = (tgt : Int)) (kt : 0 < x → z_W S X tgt lo st σ o) (kf : ¬ 0 < x → z_W S X (pc + 3) lo st σ o) : z_W S X pc lo (.int x :: st) σ o := by
  obtain ⟨p, l, e, R, s, m, args, below, meth, c, D, Y, a⟩ := X
  obtain ⟨hx, hb, hml, hown, hts, hK, hI, hok, hlk, hr, hR, hG⟩ := C
  intro H locs ls hP hS hl
  exact lv_if_gt hx hb hd ht (fun g => kt (g) H locs ls hP hS hl) (fun g => kf (g) H locs ls hP hS hl)
theorem z_if_le (C : z_Cx S X own cc nL d ret) {x : Int32} {off : Int} {tgt : Nat} (hd : decode cc pc = .ok (.ifCond .le off, 3)) (ht : (pc : Int) + off = (tgt : Int)) (kt : ¬ 0 < x → z_W S X tgt lo st σ o) (kf : 0 < x → z_W S X (pc + 3) lo st σ o) : z_W S X pc lo (.int x :: st) σ o := by
  obtain ⟨p, l, e, R, s, m, args, below, meth, c, D, Y, a⟩ := X
  obtain ⟨hx, hb, hml, hown, hts, hK, hI, hok, hlk, hr, hR, hG⟩ := C
  intro H locs ls hP hS hl
  exact lv_if_le hx hb hd ht (fun g => kt (Int32.not_lt.mpr g) H locs ls hP hS hl) (fun g => kf (Int32.not_le.mp g) H locs ls hP hS hl)
end ZR
end
section
theorem z_E_obj {S : z_S} {Y : z_Y} {a : Nat → Nat} {σ : z_M} {c ci : Nat} (hk : S.1 c = ci) (h : ci < 100) : z_E S Y a σ c = .inr (ci, (List.range (S.2.1 c)).map (z_fv S a σ c)) := by
  unfold z_E; rw [if_pos (by omega), hk]
theorem z_E_int {S : z_S} {Y : z_Y} {a : Nat → Nat} {σ : z_M} {c : Nat} (hk : S.1 c = 100) : z_E S Y a σ c = .inl (Y.1, S.2.1 c, .inl (σ c)) := by
  unfold z_E; rw [if_neg (by omega), if_pos hk]
theorem z_E_byte {S : z_S} {Y : z_Y} {a : Nat → Nat} {σ : z_M} {c : Nat} (hk : S.1 c = 101) : z_E S Y a σ c = .inl (Y.2.1, S.2.1 c, .inl (σ c)) := by
  unfold z_E; rw [if_neg (by omega), if_neg (by omega), if_pos hk]
theorem z_E_ref {S : z_S} {Y : z_Y} {a : Nat → Nat} {σ : z_M} {c : Nat} (hk : S.1 c = 102) : z_E S Y a σ c = .inl (Y.2.2, S.2.1 c, .inr (.inr (.inr (.inr (fun k => (S.2.2.1 c k).map a))))) := by
  unfold z_E; rw [if_neg (by omega), if_neg (by omega), if_neg (by omega)]
theorem z_set_same {σ : z_M} {c k : Nat} {v : Int32} : z_set σ c k v c = upd (σ c) k v := by simp [z_set]
theorem z_set_other {σ : z_M} {c k c' : Nat} {v : Int32} (h : c' ≠ c) : z_set σ c k v c' = σ c' := by simp [z_set, h]
theorem z_row_same {σ : z_M} {c : Nat} {f : Nat → Int32} : z_row σ c f c = f := by simp [z_row]
theorem z_row_other {σ : z_M} {c c' : Nat} {f : Nat → Int32} (h : c' ≠ c) : z_row σ c f c' = σ c' := by simp [z_row, h]
theorem z_fs_set {S : z_S} {a : Nat → Nat} {σ : z_M} {c k N : Nat} {v : Int32} (hr : S.2.2.1 c k = none) : ((List.range N).map (z_fv S a σ c)).set k (.int v) = (List.range N).map (z_fv S a (z_set σ c k v) c) := by
  apply List.ext_getElem?
  intro i
  by_cases hN : i < N
  · by_cases hi : i = k
    · subst hi
      rw [List.getElem?_set_self (by simpa using hN)]
      simp [hN, z_fv, hr, z_set_same, upd]
    · rw [List.getElem?_set_ne (Ne.symm hi)]
      simp only [List.getElem?_map, List.getElem?_range hN, Option.map_some]
      congr 1
      unfold z_fv
      cases S.2.2.1 c i with
      | none => simp [z_set_same, upd, hi]
      | some q => rfl
  · rw [List.getElem?_eq_none (by simp; omega), List.getElem?_eq_none (by simp; omega)]
section ZH
variable {S : z_S} {X : z_Ct} {own : String} {cc : ByteArray} {nL d : Nat} {ret : Option FieldType} {pc : Nat} {lo : List (Option Value)} {st : List Value} {σ σ' : z_M} {o : Option Value × z_M} {ci : Nat} {Cn : String} {Tn : u_T} {N : Nat} {ty : Nat → FieldType} {c k index : Nat}
theorem z_getv (C : z_Cx S X own cc nL d ret) (F : z_CF ci Cn Tn N ty) (hkN : k < N) (hl : Cond.fieldLink own index Cn (Tn k).2.1 (Tn k).2.2.1 ∈ z_T) (hk : S.1 c = ci) (hd : decode cc pc = .ok (.getfield index, 3))
    (kk : z_W S X (pc + 3) lo (z_fv S (z_a X) σ c k :: st) σ o) : z_W S X pc lo (.ref (z_a X c) :: st) σ o := by
  obtain ⟨p, l, e, R, s, m, args, below, meth, c0, D, Y, a⟩ := X
  obtain ⟨hx, hb, hml, hown, hts, hK, hI, hok, hlk, hr, hR, hG⟩ := C
  obtain ⟨f1, f2, f3, f4, f5, f6⟩ := F
  intro H locs ls hP hS hlo
  have hc : c < S.2.2.2 := hok.1 c (by omega)
  have hn : S.2.1 c = N := hok.2 c _ (by rw [hk]; exact f1)
  have hat := z_wl_at (S := S) (Y := Y) (a := a) (σ := σ) hc
  rw [z_E_obj hk f2] at hat
  exact va_get (D := D) hx hb hts f3 hown hK hP c hat f1 k hkN (hts _ hl) (fun x h => by rw [f6 k hkN] at h; exact h) (by simp [hn, hkN]; rfl) hd (kk H locs ls hP hS hlo)
theorem z_geti (C : z_Cx S X own cc nL d ret) (F : z_CF ci Cn Tn N ty) (hkN : k < N) (hl : Cond.fieldLink own index Cn (Tn k).2.1 (Tn k).2.2.1 ∈ z_T) (hk : S.1 c = ci) (hr : S.2.2.1 c k = none) (hd : decode cc pc = .ok (.getfield index, 3))
    (kk : z_W S X (pc + 3) lo (.int (σ c k) :: st) σ o) : z_W S X pc lo (.ref (z_a X c) :: st) σ o := by
  refine z_getv C F hkN hl hk hd ?_
  have : z_fv S (z_a X) σ c k = .int (σ c k) := by unfold z_fv; rw [hr]
  rw [this]; exact kk
theorem z_geta (C : z_Cx S X own cc nL d ret) (F : z_CF ci Cn Tn N ty) (hkN : k < N) (hl : Cond.fieldLink own index Cn (Tn k).2.1 (Tn k).2.2.1 ∈ z_T) (hk : S.1 c = ci) {q : Nat} (hr : S.2.2.1 c k = some q) (hd : decode cc pc = .ok (.getfield index, 3))
    (kk : z_W S X (pc + 3) lo (.ref (z_a X q) :: st) σ o) : z_W S X pc lo (.ref (z_a X c) :: st) σ o := by
  refine z_getv C F hkN hl hk hd ?_
  have : z_fv S (z_a X) σ c k = .ref (z_a X q) := by unfold z_fv; rw [hr]
  rw [this]; exact kk
theorem z_putv (C : z_Cx S X own cc nL d ret) (F : z_CF ci Cn Tn N ty) (hkN : k < N) (hl : Cond.fieldLink own index Cn (Tn k).2.1 (Tn k).2.2.1 ∈ z_T) (hfin : (Tn k).2.2.2 = false) (hk : S.1 c = ci) (hr : S.2.2.1 c k = none) {v : Int32} (hn : narrow (ty k) (.int v) = .int v) (hfit : fits (ty k) (.int v) = true) (hσ : σ' = z_set σ c k v) (hd : decode cc pc = .ok (.putfield index, 3))
    (kk : z_W S X (pc + 3) lo st σ' o) : z_W S X pc lo (.int v :: .ref (z_a X c) :: st) σ o := by
  obtain ⟨p, l, e, R, s, m, args, below, meth, c0, D, Y, a⟩ := X
  obtain ⟨hx, hb, hml, hown, hts, hK, hI, hok, hlk, hrt, hR, hG⟩ := C
  obtain ⟨f1, f2, f3, f4, f5, f6⟩ := F
  intro H locs ls hP hS hlo
  have hc : c < S.2.2.2 := hok.1 c (by omega)
  have hN : S.2.1 c = N := hok.2 c _ (by rw [hk]; exact f1)
  have hat := z_wl_at (S := S) (Y := Y) (a := a) (σ := σ) hc
  rw [z_E_obj hk f2] at hat
  refine va_put (D := D) hx hb hts f3 ty f4 f5 hown hK hP (z_D hI) hS c hat f1 k hkN (hts _ hl) (fun x h => by rw [f6 k hkN] at h; exact h) hfin (f4 k hkN) hn hfit (by simp [hN, hkN]) hd (fun H1 locs1 hP1 _ hS1 => ?_)
  rw [z_wl_set (σ' := σ') hc (by rw [hσ, z_E_obj hk f2, z_fs_set hr]) (fun c' h => by rw [hσ]; exact z_set_other h)] at hP1
  exact kk H1 locs1 ls hP1 hS1 hlo
theorem z_puti (C : z_Cx S X own cc nL d ret) (F : z_CF ci Cn Tn N ty) (hkN : k < N) (hl : Cond.fieldLink own index Cn (Tn k).2.1 (Tn k).2.2.1 ∈ z_T) (hfin : (Tn k).2.2.2 = false) (hty : ty k = .int) (hk : S.1 c = ci) (hr : S.2.2.1 c k = none) {v : Int32} (hσ : σ' = z_set σ c k v) (hd : decode cc pc = .ok (.putfield index, 3))
    (kk : z_W S X (pc + 3) lo st σ' o) : z_W S X pc lo (.int v :: .ref (z_a X c) :: st) σ o :=
  z_putv C F hkN hl hfin hk hr (by rw [hty]; rfl) (by rw [hty]; rfl) hσ hd kk
theorem z_putz (C : z_Cx S X own cc nL d ret) (F : z_CF ci Cn Tn N ty) (hkN : k < N) (hl : Cond.fieldLink own index Cn (Tn k).2.1 (Tn k).2.2.1 ∈ z_T) (hfin : (Tn k).2.2.2 = false) (hty : ty k = .boolean) (hk : S.1 c = ci) (hr : S.2.2.1 c k = none) {v : Int32} (h01 : z_01 v = true) (hσ : σ' = z_set σ c k v) (hd : decode cc pc = .ok (.putfield index, 3))
    (kk : z_W S X (pc + 3) lo st σ' o) : z_W S X pc lo (.int v :: .ref (z_a X c) :: st) σ o := by
  have h2 : v = 0 ∨ v = 1 := by simpa [z_01] using h01
  exact z_putv C F hkN hl hfin hk hr (by rw [hty]; rcases h2 with rfl | rfl <;> decide +kernel) (by rw [hty]; rcases h2 with rfl | rfl <;> decide +kernel) hσ hd kk
theorem z_iald (C : z_Cx S X own cc nL d ret) (hk : S.1 c = 100) {i : Int32} {n : Nat} (hn : S.2.1 c = n) (hin : z_in i n = true) (hd : decode cc pc = .ok (.iaload, 1)) (kk : z_W S X (pc + 1) lo (.int (σ c (z_ix i)) :: st) σ o) : z_W S X pc lo (.int i :: .ref (z_a X c) :: st) σ o := by
  obtain ⟨p, l, e, R, s, m, args, below, meth, c0, D, Y, a⟩ := X
  obtain ⟨hx, hb, hml, hown, hts, hK, hI, hok, hlk, hrt, hR, hG⟩ := C
  intro H locs ls hP hS hlo
  have hc : c < S.2.2.2 := hok.1 c (by omega)
  have hat := z_wl_at (S := S) (Y := Y) (a := a) (σ := σ) hc
  rw [z_E_int hk] at hat
  exact va_iald hx hb hK hP c 0 hat rfl (by rw [hn]; exact z_in_vp hin) hd (kk H locs ls hP hS hlo)
theorem z_bald (C : z_Cx S X own cc nL d ret) (hk : S.1 c = 101) {i : Int32} {n : Nat} (hn : S.2.1 c = n) (hin : z_in i n = true) (hd : decode cc pc = .ok (.baload, 1)) (kk : z_W S X (pc + 1) lo (.int (σ c (z_ix i)) :: st) σ o) : z_W S X pc lo (.int i :: .ref (z_a X c) :: st) σ o := by
  obtain ⟨p, l, e, R, s, m, args, below, meth, c0, D, Y, a⟩ := X
  obtain ⟨hx, hb, hml, hown, hts, hK, hI, hok, hlk, hrt, hR, hG⟩ := C
  intro H locs ls hP hS hlo
  have hc : c < S.2.2.2 := hok.1 c (by omega)
  have hat := z_wl_at (S := S) (Y := Y) (a := a) (σ := σ) hc
  rw [z_E_byte hk] at hat
  exact va_bald hx hb hK hP c 1 hat rfl (by rw [hn]; exact z_in_vp hin) hd (kk H locs ls hP hS hlo)
theorem z_aald (C : z_Cx S X own cc nL d ret) (hk : S.1 c = 102) {i : Int32} {n q : Nat} (hn : S.2.1 c = n) (hin : z_in i n = true) (hq : S.2.2.1 c (z_ix i) = some q) (hd : decode cc pc = .ok (.aaload, 1)) (kk : z_W S X (pc + 1) lo (.ref (z_a X q) :: st) σ o) : z_W S X pc lo (.int i :: .ref (z_a X c) :: st) σ o := by
  obtain ⟨p, l, e, R, s, m, args, below, meth, c0, D, Y, a⟩ := X
  obtain ⟨hx, hb, hml, hown, hts, hK, hI, hok, hlk, hrt, hR, hG⟩ := C
  intro H locs ls hP hS hlo
  have hc : c < S.2.2.2 := hok.1 c (by omega)
  have hat := z_wl_at (S := S) (Y := Y) (a := a) (σ := σ) hc
  rw [z_E_ref hk] at hat
  refine va_aldq hx hb hK hP c 2 hat rfl (by rw [hn]; exact z_in_vp hin) hd ?_
  have hq2 : S.2.2.1 c i.toNatClampNeg = some q := hq
  rw [hq2]
  exact kk H locs ls hP hS hlo
theorem z_iast (C : z_Cx S X own cc nL d ret) (hk : S.1 c = 100) {i v : Int32} {n : Nat} (hn : S.2.1 c = n) (hin : z_in i n = true) (hσ : σ' = z_set σ c (z_ix i) v) (hd : decode cc pc = .ok (.iastore, 1)) (kk : z_W S X (pc + 1) lo st σ' o) : z_W S X pc lo (.int v :: .int i :: .ref (z_a X c) :: st) σ o := by
  obtain ⟨p, l, e, R, s, m, args, below, meth, c0, D, Y, a⟩ := X
  obtain ⟨hx, hb, hml, hown, hts, hK, hI, hok, hlk, hrt, hR, hG⟩ := C
  intro H locs ls hP hS hlo
  have hc : c < S.2.2.2 := hok.1 c (by omega)
  have hat := z_wl_at (S := S) (Y := Y) (a := a) (σ := σ) hc
  rw [z_E_int hk] at hat
  refine va_iast hx hb hK hP (z_D hI) hS c 0 hat rfl (by rw [hn]; exact z_in_vp hin) hd (fun H1 locs1 hP1 _ hS1 => ?_)
  rw [z_wl_set (σ' := σ') hc (by rw [hσ, z_E_int hk, z_set_same]; rfl) (fun c' h => by rw [hσ]; exact z_set_other h)] at hP1
  exact kk H1 locs1 ls hP1 hS1 hlo
theorem z_bast (C : z_Cx S X own cc nL d ret) (hk : S.1 c = 101) {i v : Int32} {n : Nat} (hn : S.2.1 c = n) (hin : z_in i n = true) (hσ : σ' = z_set σ c (z_ix i) v.toInt8.toInt32) (hd : decode cc pc = .ok (.bastore, 1)) (kk : z_W S X (pc + 1) lo st σ' o) : z_W S X pc lo (.int v :: .int i :: .ref (z_a X c) :: st) σ o := by
  obtain ⟨p, l, e, R, s, m, args, below, meth, c0, D, Y, a⟩ := X
  obtain ⟨hx, hb, hml, hown, hts, hK, hI, hok, hlk, hrt, hR, hG⟩ := C
  intro H locs ls hP hS hlo
  have hc : c < S.2.2.2 := hok.1 c (by omega)
  have hat := z_wl_at (S := S) (Y := Y) (a := a) (σ := σ) hc
  rw [z_E_byte hk] at hat
  refine va_bast hx hb hK hP (z_D hI) hS c 1 hat rfl (by rw [hn]; exact z_in_vp hin) hd (fun H1 locs1 hP1 _ hS1 => ?_)
  rw [z_wl_set (σ' := σ') hc (by rw [hσ, z_E_byte hk, z_set_same, vp_nar_byte]; rfl) (fun c' h => by rw [hσ]; exact z_set_other h)] at hP1
  exact kk H1 locs1 ls hP1 hS1 hlo
theorem z_alen (C : z_Cx S X own cc nL d ret) (hk : S.1 c = 100) {v : Int32} {n : Nat} (hn : S.2.1 c = n) (hv : Int32.ofNat n = v) (hd : decode cc pc = .ok (.arraylength, 1)) (kk : z_W S X (pc + 1) lo (.int v :: st) σ o) : z_W S X pc lo (.ref (z_a X c) :: st) σ o := by
  obtain ⟨p, l, e, R, s, m, args, below, meth, c0, D, Y, a⟩ := X
  obtain ⟨hx, hb, hml, hown, hts, hK, hI, hok, hlk, hrt, hR, hG⟩ := C
  intro H locs ls hP hS hlo
  have hc : c < S.2.2.2 := hok.1 c (by omega)
  have hat := z_wl_at (S := S) (Y := Y) (a := a) (σ := σ) hc
  rw [z_E_int hk] at hat
  exact va_alen hx hb hK hP c 0 hat rfl (by show Int32.ofNat (S.2.1 c) = v; rw [hn]; exact hv) hd (kk H locs ls hP hS hlo)
theorem z_copyi (C : z_Cx S X own cc nL (d + 1) ret) {c0 c1 : Nat} (hk0 : S.1 c0 = 100) (hk1 : S.1 c1 = 100) {n0 n1 : Nat} (hn0 : S.2.1 c0 = n0) (hn1 : S.2.1 c1 = n1) {sp dp n : Int32} (hok2 : z_cok n0 sp n1 dp n = true) (hσ : σ' = z_cpy σ c0 sp c1 dp n) (hlen : lo.length = nL) (hst : (st.map fun v => v.category).sum ≤ 8) (hm : Cond.methodLink own index arraycopyName ∈ z_T) (hd : decode cc pc = .ok (.invokestatic index, 3)) (kk : z_W S X (pc + 3) lo st σ' o) : z_W S X pc lo (.int n :: .int dp :: .ref (z_a X c1) :: .int sp :: .ref (z_a X c0) :: st) σ o := by
  obtain ⟨p, l, e, R, s, m, args, below, meth, c9, D, Y, a⟩ := X
  obtain ⟨hx, hb, hml, hown, hts, hK, hI, hok, hlk, hrt, hR, hG⟩ := C
  intro H locs ls hP hS hlo
  have hc0 : c0 < S.2.2.2 := hok.1 c0 (by omega)
  have hc1 : c1 < S.2.2.2 := hok.1 c1 (by omega)
  have hat0 := z_wl_at (S := S) (Y := Y) (a := a) (σ := σ) hc0
  have hat1 := z_wl_at (S := S) (Y := Y) (a := a) (σ := σ) hc1
  rw [z_E_int hk0] at hat0
  rw [z_E_int hk1] at hat1
  simp only [z_cok, Bool.and_eq_true, Bool.not_eq_true', decide_eq_false_iff_not, decide_eq_true_eq] at hok2
  obtain ⟨g1, g2, g3, g4, g5⟩ := hok2
  have hnw : nativeFrameWords "java/lang/System" "arraycopy" 5 + 11 ≤ 50 := by decide +kernel
  have hw : ∀ w ∈ ([Cond.native arraycopyName, Cond.static arraycopyName, Cond.initialized "java/lang/System"] : List Cond), w ∈ z_T := by decide +kernel
  refine va_copyi hx hb (by rw [hml, hlo.1, hlen]) hown (hts _ hm) (hts _ (hw _ (by simp))) (hts _ (hw _ (by simp))) (hts _ (hw _ (by simp))) hK hP (z_D hI) hS c0 c1 0 0 hat0 hat1 rfl rfl rfl g1 g2 g3 (by rw [hn0]; exact g4) (by rw [hn1]; exact g5) (fun _ _ => rfl) (by omega) (by omega) hd (fun H1 locs1 hP1 _ hS1 => ?_)
  rw [z_wl_set (σ' := σ') hc1 (by rw [hσ, z_E_int hk1]; unfold z_cpy; rw [z_row_same]) (fun c' h => by rw [hσ]; exact z_row_other h)] at hP1
  exact kk H1 locs1 ls hP1 hS1 hlo
theorem z_mmax (C : z_Cx S X own cc nL (d + 1) ret) {x y : Int32} (hlen : lo.length = nL) (hst : (st.map fun v => v.category).sum ≤ 8) (hm : Cond.methodLink own index Lib.Math.max.name ∈ z_T) (hd : decode cc pc = .ok (.invokestatic index, 3)) (kk : z_W S X (pc + 3) lo (.int (z_max x y) :: st) σ o) : z_W S X pc lo (.int y :: .int x :: st) σ o := by
  obtain ⟨p, l, e, R, s, m, args, below, meth, c9, D, Y, a⟩ := X
  obtain ⟨hx, hb, hml, hown, hts, hK, hI, hok, hlk, hrt, hR, hG⟩ := C
  intro H locs ls hP hS hlo
  have hw : ∀ w ∈ ([Cond.static Lib.Math.max.name, Cond.initialized "java/lang/Math", Cond.code Lib.Math.max.name Lib.Math.max.code 2 (some .int)] : List Cond), w ∈ z_T := by decide +kernel
  exact va_mmax hx hb (by rw [hml, hlo.1, hlen]) hown (hts _ hm) (hts _ (hw _ (by simp))) (hts _ (hw _ (by simp))) (hts _ (hw _ (by simp))) (by omega) (by omega) (Nat.zero_le _) (Nat.zero_le _) hd (kk H locs ls hP hS hlo)
theorem z_mmin (C : z_Cx S X own cc nL (d + 1) ret) {x y : Int32} (hlen : lo.length = nL) (hst : (st.map fun v => v.category).sum ≤ 8) (hm : Cond.methodLink own index Lib.Math.min.name ∈ z_T) (hd : decode cc pc = .ok (.invokestatic index, 3)) (kk : z_W S X (pc + 3) lo (.int (z_min x y) :: st) σ o) : z_W S X pc lo (.int y :: .int x :: st) σ o := by
  obtain ⟨p, l, e, R, s, m, args, below, meth, c9, D, Y, a⟩ := X
  obtain ⟨hx, hb, hml, hown, hts, hK, hI, hok, hlk, hrt, hR, hG⟩ := C
  intro H locs ls hP hS hlo
  have hw : ∀ w ∈ ([Cond.static Lib.Math.min.name, Cond.initialized "java/lang/Math", Cond.code Lib.Math.min.name Lib.Math.min.code 2 (some .int)] : List Cond), w ∈ z_T := by decide +kernel
  exact va_mmin hx hb (by rw [hml, hlo.1, hlen]) hown (hts _ hm) (hts _ (hw _ (by simp))) (hts _ (hw _ (by simp))) (hts _ (hw _ (by simp))) (by omega) (by omega) (Nat.zero_le _) (Nat.zero_le _) hd (kk H locs ls hP hS hlo)
/-! ends -/
theorem z_iret (C : z_Cx S X own cc nL d (some .int)) {v : Int32} {u : Int32 × z_M} (h : some (v, σ) = some u) (hd : decode cc pc = .ok (.ireturn, 1)) : z_W S X pc lo [.int v] σ (z_oi u) := by
  obtain ⟨p, l, e, R, s, m, args, below, meth, c9, D, Y, a⟩ := X
  obtain ⟨hx, hb, hml, hown, hts, hK, hI, hok, hlk, hrt, hR, hG⟩ := C
  intro H locs ls hP hS hlo
  cases h
  exact W.iret (v := v) hx hb hrt (fun t ht hW => ⟨rfl, by rw [ht]; exact hP, hS.F ht⟩) hS.2.2 hd
theorem z_zret (C : z_Cx S X own cc nL d (some .boolean)) {v : Int32} {u : Int32 × z_M} (h01 : z_01 v = true) (h : some (v, σ) = some u) (hd : decode cc pc = .ok (.ireturn, 1)) : z_W S X pc lo [.int v] σ (z_oi u) := by
  obtain ⟨p, l, e, R, s, m, args, below, meth, c9, D, Y, a⟩ := X
  obtain ⟨hx, hb, hml, hown, hts, hK, hI, hok, hlk, hrt, hR, hG⟩ := C
  intro H locs ls hP hS hlo
  cases h
  have h2 : v = 0 ∨ v = 1 := by simpa [z_01] using h01
  exact W.zret (v := v) hx hb hrt (by rcases h2 with rfl | rfl <;> decide +kernel) (fun t ht hW => ⟨rfl, by rw [ht]; exact hP, hS.F ht⟩) hS.2.2 hd
theorem z_vret (C : z_Cx S X own cc nL d none) {u : Unit × z_M} (h : some ((), σ) = some u) (hd : decode cc pc = .ok (.return_, 1)) : z_W S X pc lo [] σ (z_ov u) := by
  obtain ⟨p, l, e, R, s, m, args, below, meth, c9, D, Y, a⟩ := X
  obtain ⟨hx, hb, hml, hown, hts, hK, hI, hok, hlk, hrt, hR, hG⟩ := C
  intro H locs ls hP hS hlo
  cases h
  exact W.vret hx hb hrt (fun t ht hW => ⟨rfl, by rw [ht]; exact hP, hS.F ht⟩) hS.2.2 hd
theorem z_aret {Cr : String} (C : z_Cx S X own cc nL d (some (.object Cr))) {q : Nat} {u : Nat × z_M} (h : some (q, σ) = some u) (hd : decode cc pc = .ok (.areturn, 1)) : z_W S X pc lo [.ref (z_a X q)] σ (z_or X u) := by
  obtain ⟨p, l, e, R, s, m, args, below, meth, c9, D, Y, a⟩ := X
  obtain ⟨hx, hb, hml, hown, hts, hK, hI, hok, hlk, hrt, hR, hG⟩ := C
  intro H locs ls hP hS hlo
  cases h
  exact W.aret (v := .ref (a q)) hx hb hrt (Or.inl ⟨_, rfl⟩) (Or.inr ⟨_, rfl⟩) (fun t ht hW => ⟨rfl, by rw [ht]; exact hP, hS.F ht⟩) hS.2.2 hd
end ZH
end
section
/-- what the tables say of a callee -/
def z_Kv (y : MethodName) (bytes : ByteArray) (maxL : Nat) (ret : Option FieldType) (n : Nat) : Prop := Cond.instanceMethod y ∈ z_T ∧ Cond.selects y.cls y y ∈ z_T ∧ Cond.initialized y.cls ∈ z_T ∧ Cond.code y bytes maxL ret ∈ z_T ∧ maxL ≤ 40 ∧ (y.cls ≠ "java/lang/invoke/MethodHandle" ∧ y.cls ≠ "java/lang/invoke/VarHandle" ∧ (parseMethodDescriptor y.desc).map (fun d => d.parameters.length) = some n)
def z_Ks (y : MethodName) (bytes : ByteArray) (maxL : Nat) (ret : Option FieldType) (n : Nat) : Prop := Cond.static y ∈ z_T ∧ Cond.initialized y.cls ∈ z_T ∧ Cond.code y bytes maxL ret ∈ z_T ∧ maxL ≤ 40 ∧ (y.cls ≠ "java/lang/invoke/MethodHandle" ∧ y.cls ≠ "java/lang/invoke/VarHandle" ∧ (parseMethodDescriptor y.desc).map (fun d => d.parameters.length) = some n)
abbrev z_w (y : MethodName) (bytes : ByteArray) (maxL : Nat) (ret : Option FieldType) : List Cond := Cond.code y bytes maxL ret :: z_T
theorem z_w_good {y : MethodName} {bytes : ByteArray} {maxL : Nat} {ret : Option FieldType} (h : Cond.code y bytes maxL ret ∈ z_T) : GoodIn z_T (z_w y bytes maxL ret) := fun w hw => by
  rcases List.mem_cons.mp hw with rfl | hw
  · exact z_T_good h
  · exact z_T_good hw
section ZC
variable {S : z_S} {X : z_Ct} {own : String} {cc : ByteArray} {nL d d1 : Nat} {ret ret1 : Option FieldType} {pc : Nat} {lo : List (Option Value)} {st : List Value} {σ σ' : z_M} {o o1 : Option Value × z_M} {c index n maxL : Nat} {y : MethodName} {bytes : ByteArray} {As : List Value}
theorem z_blind {D : va_G} {Y : z_Y} {a : Nat → Nat} {vs : List Value} : FrameBlind (va_Pc vs (fun U => va_P D z_cl (z_wl S Y a σ) U.heap ∧ va_K D z_cl (z_ty Y) U ∧ z_Gs S a U U.heap)) := by
  rintro A U g mk ⟨rfl, hP, hK, hG⟩
  exact ⟨rfl, hP, va_K.moved (u := U) (U := U.calling g mk vs.toArray) (Vm.Alike.refl U.vm) hK, hG⟩
/-- behind a call -/
theorem z_after {p : Program} {l : Launch} {e : Env} {R : Room} {s : State} {m : MethodId} {args : Array Value} {below : List Frame} {meth : Method} {c9 : Code} {D : va_G} {Y : z_Y} {a : Nat → Nat} {H : Heap} {locs : List Loc} {Q : State → Prop} {ls : Array Slot} {st0 : List Value} {av : Array Value}
    (hr : va_Run p l e R s m args below meth c9 H locs 0 0 0 0 (F0 m pc ls st0) st (z_Q S D Y a o1 av) (z_A S a)) (hS : va_S (z_A S a) s.heap H locs)
    (kk : ∀ (H1 : Heap) (locs1 : List Loc), va_P D z_cl (z_wl S Y a o1.2) H1 → va_S (z_A S a) s.heap H1 locs1 → W p l e R s m args below meth c9 H1 locs1 0 0 Q (F0 m (pc + 3) ls (o1.1.toList ++ st))) : W p l e R s m args below meth c9 H locs 0 0 Q (F0 m pc ls st0) := by
  intro T hT X
  obtain ⟨v, st₀, t, T', L, h0, X', hL, e1, e2, ⟨hv, hP1, hz, hk⟩, stp⟩ := hr T hT X
  cases hv
  rw [h0] at hz hk
  obtain ⟨t2, a1, b1⟩ := kk T'.heap (locs ++ L) (by rw [e1]; exact hP1)
    ⟨Nat.le_trans hS.1 (by rw [e1]; exact hz), fun q h1 h2 => by rw [e1, hk q (Nat.lt_of_lt_of_le h1 hS.1) h2]; exact hS.2.1 q h1 h2, fun q hq => by
      rcases List.mem_append.mp hq with h | h
      · exact hS.2.2 q h
      · exact hL q h⟩ T' rfl X'
  exact ⟨t2, stp t2 a1, b1⟩
theorem z_callv (C : z_Cx S X own cc nL d ret) (hM : z_Mt y (z_w y bytes maxL ret1) d1 S (z_a X) σ (.ref (z_a X c) :: As) o1) (kv : z_Kv y bytes maxL ret1 n) (hn : As.length = n) (hlk : Cond.methodLink own index y ∈ z_T) {q : vw_C} (hq : z_cl[S.1 c]? = some q) (hqn : q.1 = y.cls) (hdd : d1 + 1 ≤ d) (hlen : lo.length = nL) (hst : (st.map fun v => v.category).sum ≤ 8) (hd : decode cc pc = .ok (.invokevirtual index, 3))
    (kk : z_W S X (pc + 3) lo (o1.1.toList ++ st) o1.2 o) : z_W S X pc lo (As.reverse ++ .ref (z_a X c) :: st) σ o := by
  obtain ⟨p, l, e, R, s, m, args, below, meth, c9, D, Y, a⟩ := X
  obtain ⟨hx, hb, hml, hown, hts, hK, hI, hok, hlks, hrt, hR, hG⟩ := C
  obtain ⟨k1, k2, k3, k4, k5, k6⟩ := kv
  have hlt : S.1 c < 100 := by
    have := (List.getElem?_eq_some_iff.mp hq).1
    have h13 : z_cl.length = 13 := rfl
    omega
  have hc : c < S.2.2.2 := hok.1 c (by omega)
  intro H locs ls hP hS hlo
  have hat := z_wl_at (S := S) (Y := Y) (a := a) (σ := σ) hc
  rw [z_E_obj rfl hlt] at hat
  have hrecv := va_recv hK hP hq hat
  rw [hqn] at hrecv
  have hG9 : GoodIn z_T (wsV own index y.cls y (z_w y bytes maxL ret1)) := fun w hw => by
    rcases List.mem_append.mp hw with h | h
    · simp only [List.mem_cons, List.not_mem_nil, or_false] at h
      rcases h with rfl | rfl | rfl | rfl
      · exact z_T_good hlk
      · exact z_T_good k1
      · exact z_T_good k2
      · exact z_T_good k3
    · exact z_w_good k4 w h
  refine z_after (o1 := o1) (va_runV (As := As) (rest := st) (n := n) ⟨hx, hb, hml, hown, hts⟩ (hM l D Y hI hok) (cwV n hts hG9 rfl rfl rfl ⟨rfl, k6⟩ ⟨by show d1 + 1 ≤ R.frames; omega, by show 8 + (maxL + 11) + 64 * d1 ≤ R.locals; omega⟩) ⟨z_blind, hrecv, fun U hU hW => ⟨rfl, by rw [hU]; exact hP, va_K.moved hW.alike hK, by rw [hU]; exact hG.moved hW hS⟩⟩ rfl hn (by rw [hlo.1, hlen]) rfl (lv_room hst) hd ⟨Nat.zero_le _, Nat.zero_le _⟩) hS (fun H1 locs1 hP1 hS1 => kk H1 locs1 ls hP1 hS1 hlo)
theorem z_calls (C : z_Cx S X own cc nL d ret) (hM : z_Mt y (z_w y bytes maxL ret1) d1 S (z_a X) σ As o1) (kv : z_Ks y bytes maxL ret1 n) (hn : As.length = n) (hlk : Cond.methodLink own index y ∈ z_T) (hdd : d1 + 1 ≤ d) (hlen : lo.length = nL) (hst : (st.map fun v => v.category).sum ≤ 8) (hd : decode cc pc = .ok (.invokestatic index, 3))
    (kk : z_W S X (pc + 3) lo (o1.1.toList ++ st) o1.2 o) : z_W S X pc lo (As.reverse ++ st) σ o := by
  obtain ⟨p, l, e, R, s, m, args, below, meth, c9, D, Y, a⟩ := X
  obtain ⟨hx, hb, hml, hown, hts, hK, hI, hok, hlks, hrt, hR, hG⟩ := C
  obtain ⟨k1, k3, k4, k5, k6⟩ := kv
  intro H locs ls hP hS hlo
  refine z_after (o1 := o1) (va_runS (As := As) (rest := st) (n := n) ⟨hx, hb, hml, hown, hts⟩ (hM l D Y hI hok) ⟨callB_of n hts (z_w_good k4) rfl rfl rfl (hts _ k3) (hts _ hlk) k6 ⟨by show d1 + 1 ≤ R.frames; omega, by show 8 + (maxL + 11) + 64 * d1 ≤ R.locals; omega⟩, hts _ k1⟩ ⟨z_blind, fun U hU hW => ⟨rfl, by rw [hU]; exact hP, va_K.moved hW.alike hK, by rw [hU]; exact hG.moved hW hS⟩⟩ rfl hn (by rw [hlo.1, hlen]) rfl (lv_room hst) hd ⟨Nat.zero_le _, Nat.zero_le _⟩) hS (fun H1 locs1 hP1 hS1 => kk H1 locs1 ls hP1 hS1 hlo)
theorem z_calln (C : z_Cx S X "PlantedDoubts$Law" cc nL d ret) (hM : z_Mt ⟨"PlantedDoubts", "isThing", "(I)Z"⟩ (z_w ⟨"PlantedDoubts", "isThing", "(I)Z"⟩ bytes maxL ret1) d1 S (z_a X) σ As o1) (kv : z_Ks ⟨"PlantedDoubts", "isThing", "(I)Z"⟩ bytes maxL ret1 n) (hn : As.length = n) (hdd : d1 + 1 ≤ d) (hlen : lo.length = nL) (hst : (st.map fun v => v.category).sum ≤ 8) (hd : decode cc pc = .ok (.invokestatic 32, 3))
    (kk : z_W S X (pc + 3) lo (o1.1.toList ++ st) o1.2 o) : z_W S X pc lo (As.reverse ++ st) σ o := by
  obtain ⟨p, l, e, R, s, m, args, below, meth, c9, D, Y, a⟩ := X
  obtain ⟨hx, hb, hml, hown, hts, hK, hI, hok, hlks, hrt, hR, hG⟩ := C
  obtain ⟨k1, k3, k4, k5, k6⟩ := kv
  intro H locs ls hP hS hlo
  refine z_after (o1 := o1) (va_runSN (As := As) (rest := st) (n := n) ⟨hx, hb, hml, hown, hts⟩ (hM l D Y hI hok) ⟨va_cnB n hts (z_w_good k4) rfl rfl rfl hG.nest (hts _ k3) k6 ⟨by show d1 + 1 ≤ R.frames; omega, by show 8 + (maxL + 11) + 64 * d1 ≤ R.locals; omega⟩, hts _ k1, trivial⟩ ⟨z_blind, fun U hU hW => ⟨rfl, by rw [hU]; exact hP, va_K.moved hW.alike hK, by rw [hU]; exact hG.moved hW hS⟩⟩ rfl hn (by rw [hlo.1, hlen]) rfl (lv_room hst) hd ⟨Nat.zero_le _, Nat.zero_le _⟩) hS (fun H1 locs1 hP1 hS1 => kk H1 locs1 ls hP1 hS1 hlo)
/-- a method's head -/
theorem z_head {a : Nat → Nat} {vs : List Value} {maxL : Nat} (hy : plainName y.cls = true) (h1 : (lg_sl vs).length ≤ maxL) (hlo : ∀ (i : Nat) (v : Value), lo[i]? = some (some v) → (i, v) ∈ lv_args 0 vs ∧ v.category = 1) (hl : lo.length = maxL)
    (body : ∀ X : z_Ct, z_a X = a → z_Cx S X y.cls bytes maxL d1 ret → z_W S X 0 lo [] σ o) : z_Mt y (z_w y bytes maxL ret) d1 S a σ vs o := by
  intro l D Y hI hok
  refine Met.ofW (cc := bytes) (maxL := maxL) (ret := ret) hy rfl ?_
  intro p e s m args below meth c s₁ B hml hv
  obtain ⟨rfl, hP, hK, hG⟩ := hv
  have hts := atoms_spec (ws := z_w y bytes maxL ret) B.pre
  have hown : s.vm.findClass y.cls = some m.cls := findClass_of_methodNamed B.named
  have hb := body (p, l, e, (headSpec (z_w y bytes maxL ret) (z_rm d1)).room, s, m, vs.toArray, below, meth, c, D, Y, a) rfl ⟨B.exec, B.bytes, hml, hown, fun w hw => hts w (List.mem_cons_of_mem _ hw), hK, hI, hok, B.notSynchronized, B.returns, ⟨Nat.le_refl _, Nat.le_refl _⟩, hG⟩
  have he := lv_entry vs (n := maxL) h1
  rw [lg_entry_eq]
  exact hb s.heap [] _ hP va_S.rf ⟨by rw [he.1, hl], he.2.1, fun i v h => ⟨he.2.2 (i, v) (hlo i v h).1, (hlo i v h).2⟩⟩
end ZC
end
