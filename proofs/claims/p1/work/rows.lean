section
-- ===== PART A: goes FIRST, ahead of the names: the tables' words, and 'selects' of the private methods out of them =====
/-- a private method of a class that the tables say can be made, by its rows of tables_1 -/
def lw_okq (q : MethodName × Nat) : Prop := (q.1.cls ≠ "java/lang/invoke/MethodHandle" ∧ q.1.cls ≠ "java/lang/invoke/VarHandle") ∧ Cond.instantiable q.1.cls q.2 ∈ tables_1 ∧ Cond.privateMethod q.1 ∈ tables_1 ∧ Cond.instanceMethod q.1 ∈ tables_1
theorem lw_p0 : lw_okq (⟨"FootNotes$Tape", "put", "(I)V"⟩, 5) := ⟨⟨by decide +kernel, by decide +kernel⟩, List.mem_of_getElem? (i := 37) (by decide +kernel), List.mem_of_getElem? (i := 467) (by decide +kernel), List.mem_of_getElem? (i := 468) (by decide +kernel)⟩
theorem lw_p1 : lw_okq (⟨"FootNotes$Reader", "readLines", "()V"⟩, 4) := ⟨⟨by decide +kernel, by decide +kernel⟩, List.mem_of_getElem? (i := 31) (by decide +kernel), List.mem_of_getElem? (i := 479) (by decide +kernel), List.mem_of_getElem? (i := 480) (by decide +kernel)⟩
theorem lw_p2 : lw_okq (⟨"FootNotes$Text", "clear", "()V"⟩, 15) := ⟨⟨by decide +kernel, by decide +kernel⟩, List.mem_of_getElem? (i := 63) (by decide +kernel), List.mem_of_getElem? (i := 483) (by decide +kernel), List.mem_of_getElem? (i := 484) (by decide +kernel)⟩
theorem lw_p3 : lw_okq (⟨"FootNotes$Tape", "goToFirstToken", "()V"⟩, 5) := ⟨⟨by decide +kernel, by decide +kernel⟩, List.mem_of_getElem? (i := 37) (by decide +kernel), List.mem_of_getElem? (i := 487) (by decide +kernel), List.mem_of_getElem? (i := 488) (by decide +kernel)⟩
theorem lw_p4 : lw_okq (⟨"FootNotes$Tape", "moveOn", "()V"⟩, 5) := ⟨⟨by decide +kernel, by decide +kernel⟩, List.mem_of_getElem? (i := 37) (by decide +kernel), List.mem_of_getElem? (i := 491) (by decide +kernel), List.mem_of_getElem? (i := 492) (by decide +kernel)⟩
theorem lw_p5 : lw_okq (⟨"FootNotes$Reader", "readLine", "()V"⟩, 4) := ⟨⟨by decide +kernel, by decide +kernel⟩, List.mem_of_getElem? (i := 31) (by decide +kernel), List.mem_of_getElem? (i := 498) (by decide +kernel), List.mem_of_getElem? (i := 499) (by decide +kernel)⟩
theorem lw_p6 : lw_okq (⟨"FootNotes$Reader", "readTown", "()V"⟩, 4) := ⟨⟨by decide +kernel, by decide +kernel⟩, List.mem_of_getElem? (i := 31) (by decide +kernel), List.mem_of_getElem? (i := 502) (by decide +kernel), List.mem_of_getElem? (i := 503) (by decide +kernel)⟩
theorem lw_p7 : lw_okq (⟨"FootNotes$Reader", "takeWord", "(Ljava/lang/String;)V"⟩, 4) := ⟨⟨by decide +kernel, by decide +kernel⟩, List.mem_of_getElem? (i := 31) (by decide +kernel), List.mem_of_getElem? (i := 507) (by decide +kernel), List.mem_of_getElem? (i := 508) (by decide +kernel)⟩
theorem lw_p8 : lw_okq (⟨"FootNotes$Tape", "isWord", "(Ljava/lang/String;)Z"⟩, 5) := ⟨⟨by decide +kernel, by decide +kernel⟩, List.mem_of_getElem? (i := 37) (by decide +kernel), List.mem_of_getElem? (i := 511) (by decide +kernel), List.mem_of_getElem? (i := 512) (by decide +kernel)⟩
theorem lw_p9 : lw_okq (⟨"FootNotes$Reader", "blame", "(II)V"⟩, 4) := ⟨⟨by decide +kernel, by decide +kernel⟩, List.mem_of_getElem? (i := 31) (by decide +kernel), List.mem_of_getElem? (i := 564) (by decide +kernel), List.mem_of_getElem? (i := 565) (by decide +kernel)⟩
theorem lw_p10 : lw_okq (⟨"FootNotes$Reader", "takeNumber", "(II)I"⟩, 4) := ⟨⟨by decide +kernel, by decide +kernel⟩, List.mem_of_getElem? (i := 31) (by decide +kernel), List.mem_of_getElem? (i := 569) (by decide +kernel), List.mem_of_getElem? (i := 570) (by decide +kernel)⟩
theorem lw_p11 : lw_okq (⟨"FootNotes$Tape", "valueOfDigits", "()I"⟩, 5) := ⟨⟨by decide +kernel, by decide +kernel⟩, List.mem_of_getElem? (i := 37) (by decide +kernel), List.mem_of_getElem? (i := 573) (by decide +kernel), List.mem_of_getElem? (i := 574) (by decide +kernel)⟩
theorem lw_p12 : lw_okq (⟨"FootNotes$Reader", "readBook", "()V"⟩, 4) := ⟨⟨by decide +kernel, by decide +kernel⟩, List.mem_of_getElem? (i := 31) (by decide +kernel), List.mem_of_getElem? (i := 583) (by decide +kernel), List.mem_of_getElem? (i := 584) (by decide +kernel)⟩
theorem lw_p13 : lw_okq (⟨"FootNotes$Text", "addBook", "(II)V"⟩, 15) := ⟨⟨by decide +kernel, by decide +kernel⟩, List.mem_of_getElem? (i := 63) (by decide +kernel), List.mem_of_getElem? (i := 589) (by decide +kernel), List.mem_of_getElem? (i := 590) (by decide +kernel)⟩
theorem lw_p14 : lw_okq (⟨"FootNotes$Reader", "readNote", "()V"⟩, 4) := ⟨⟨by decide +kernel, by decide +kernel⟩, List.mem_of_getElem? (i := 31) (by decide +kernel), List.mem_of_getElem? (i := 594) (by decide +kernel), List.mem_of_getElem? (i := 595) (by decide +kernel)⟩
theorem lw_p15 : lw_okq (⟨"FootNotes$Text", "addNote", "(IIIZ)V"⟩, 15) := ⟨⟨by decide +kernel, by decide +kernel⟩, List.mem_of_getElem? (i := 63) (by decide +kernel), List.mem_of_getElem? (i := 600) (by decide +kernel), List.mem_of_getElem? (i := 601) (by decide +kernel)⟩
def lw_privs_1 : List (MethodName × Nat) := [(⟨"FootNotes$Tape", "put", "(I)V"⟩, 5), (⟨"FootNotes$Reader", "readLines", "()V"⟩, 4), (⟨"FootNotes$Text", "clear", "()V"⟩, 15), (⟨"FootNotes$Tape", "goToFirstToken", "()V"⟩, 5), (⟨"FootNotes$Tape", "moveOn", "()V"⟩, 5), (⟨"FootNotes$Reader", "readLine", "()V"⟩, 4), (⟨"FootNotes$Reader", "readTown", "()V"⟩, 4), (⟨"FootNotes$Reader", "takeWord", "(Ljava/lang/String;)V"⟩, 4), (⟨"FootNotes$Tape", "isWord", "(Ljava/lang/String;)Z"⟩, 5), (⟨"FootNotes$Reader", "blame", "(II)V"⟩, 4), (⟨"FootNotes$Reader", "takeNumber", "(II)I"⟩, 4), (⟨"FootNotes$Tape", "valueOfDigits", "()I"⟩, 5), (⟨"FootNotes$Reader", "readBook", "()V"⟩, 4), (⟨"FootNotes$Text", "addBook", "(II)V"⟩, 15), (⟨"FootNotes$Reader", "readNote", "()V"⟩, 4), (⟨"FootNotes$Text", "addNote", "(IIIZ)V"⟩, 15)]
theorem lw_r1 : ∀ q ∈ lw_privs_1, lw_okq q := List.forall_mem_cons.mpr ⟨lw_p0, List.forall_mem_cons.mpr ⟨lw_p1, List.forall_mem_cons.mpr ⟨lw_p2, List.forall_mem_cons.mpr ⟨lw_p3, List.forall_mem_cons.mpr ⟨lw_p4, List.forall_mem_cons.mpr ⟨lw_p5, List.forall_mem_cons.mpr ⟨lw_p6, List.forall_mem_cons.mpr ⟨lw_p7, List.forall_mem_cons.mpr ⟨lw_p8, List.forall_mem_cons.mpr ⟨lw_p9, List.forall_mem_cons.mpr ⟨lw_p10, List.forall_mem_cons.mpr ⟨lw_p11, List.forall_mem_cons.mpr ⟨lw_p12, List.forall_mem_cons.mpr ⟨lw_p13, List.forall_mem_cons.mpr ⟨lw_p14, List.forall_mem_cons.mpr ⟨lw_p15, fun _ h => absurd h List.not_mem_nil⟩⟩⟩⟩⟩⟩⟩⟩⟩⟩⟩⟩⟩⟩⟩⟩
theorem lw_p16 : lw_okq (⟨"FootNotes$Reader", "takeNewMember", "(II)I"⟩, 4) := ⟨⟨by decide +kernel, by decide +kernel⟩, List.mem_of_getElem? (i := 31) (by decide +kernel), List.mem_of_getElem? (i := 608) (by decide +kernel), List.mem_of_getElem? (i := 609) (by decide +kernel)⟩
theorem lw_p17 : lw_okq (⟨"FootNotes$Reader", "takeSign", "()V"⟩, 4) := ⟨⟨by decide +kernel, by decide +kernel⟩, List.mem_of_getElem? (i := 31) (by decide +kernel), List.mem_of_getElem? (i := 613) (by decide +kernel), List.mem_of_getElem? (i := 614) (by decide +kernel)⟩
theorem lw_p18 : lw_okq (⟨"FootNotes$Text", "copyFrom", "(LFootNotes$Text;)V"⟩, 15) := ⟨⟨by decide +kernel, by decide +kernel⟩, List.mem_of_getElem? (i := 63) (by decide +kernel), List.mem_of_getElem? (i := 617) (by decide +kernel), List.mem_of_getElem? (i := 618) (by decide +kernel)⟩
theorem lw_p19 : lw_okq (⟨"FootNotes$Shelf", "lay", "(LFootNotes$Text;)V"⟩, 8) := ⟨⟨by decide +kernel, by decide +kernel⟩, List.mem_of_getElem? (i := 179) (by decide +kernel), List.mem_of_getElem? (i := 624) (by decide +kernel), List.mem_of_getElem? (i := 625) (by decide +kernel)⟩
theorem lw_p20 : lw_okq (⟨"FootNotes$Text", "pagesIn", "(I)I"⟩, 15) := ⟨⟨by decide +kernel, by decide +kernel⟩, List.mem_of_getElem? (i := 63) (by decide +kernel), List.mem_of_getElem? (i := 628) (by decide +kernel), List.mem_of_getElem? (i := 629) (by decide +kernel)⟩
theorem lw_p21 : lw_okq (⟨"FootNotes", "settle", "()V"⟩, 13) := ⟨⟨by decide +kernel, by decide +kernel⟩, List.mem_of_getElem? (i := 23) (by decide +kernel), List.mem_of_getElem? (i := 633) (by decide +kernel), List.mem_of_getElem? (i := 634) (by decide +kernel)⟩
theorem lw_p22 : lw_okq (⟨"FootNotes$Web", "weave", "(LFootNotes$Text;LFootNotes$Shelf;I)V"⟩, 7) := ⟨⟨by decide +kernel, by decide +kernel⟩, List.mem_of_getElem? (i := 220) (by decide +kernel), List.mem_of_getElem? (i := 637) (by decide +kernel), List.mem_of_getElem? (i := 638) (by decide +kernel)⟩
theorem lw_p23 : lw_okq (⟨"FootNotes$Web", "locatePages", "(LFootNotes$Text;LFootNotes$Shelf;)V"⟩, 7) := ⟨⟨by decide +kernel, by decide +kernel⟩, List.mem_of_getElem? (i := 220) (by decide +kernel), List.mem_of_getElem? (i := 641) (by decide +kernel), List.mem_of_getElem? (i := 642) (by decide +kernel)⟩
theorem lw_p24 : lw_okq (⟨"FootNotes$Shelf", "onLeaf", "(II)I"⟩, 8) := ⟨⟨by decide +kernel, by decide +kernel⟩, List.mem_of_getElem? (i := 179) (by decide +kernel), List.mem_of_getElem? (i := 648) (by decide +kernel), List.mem_of_getElem? (i := 649) (by decide +kernel)⟩
theorem lw_p25 : lw_okq (⟨"FootNotes$Text", "hasPage", "(I)Z"⟩, 15) := ⟨⟨by decide +kernel, by decide +kernel⟩, List.mem_of_getElem? (i := 63) (by decide +kernel), List.mem_of_getElem? (i := 660) (by decide +kernel), List.mem_of_getElem? (i := 661) (by decide +kernel)⟩
theorem lw_p26 : lw_okq (⟨"FootNotes$Text", "notesOn", "(I)I"⟩, 15) := ⟨⟨by decide +kernel, by decide +kernel⟩, List.mem_of_getElem? (i := 63) (by decide +kernel), List.mem_of_getElem? (i := 664) (by decide +kernel), List.mem_of_getElem? (i := 665) (by decide +kernel)⟩
theorem lw_p27 : lw_okq (⟨"FootNotes$Text", "hasBook", "(I)Z"⟩, 15) := ⟨⟨by decide +kernel, by decide +kernel⟩, List.mem_of_getElem? (i := 63) (by decide +kernel), List.mem_of_getElem? (i := 672) (by decide +kernel), List.mem_of_getElem? (i := 673) (by decide +kernel)⟩
theorem lw_p28 : lw_okq (⟨"FootNotes$Text", "hasNote", "(I)Z"⟩, 15) := ⟨⟨by decide +kernel, by decide +kernel⟩, List.mem_of_getElem? (i := 63) (by decide +kernel), List.mem_of_getElem? (i := 686) (by decide +kernel), List.mem_of_getElem? (i := 687) (by decide +kernel)⟩
theorem lw_p29 : lw_okq (⟨"FootNotes$Text", "targetAtFirst", "(I)I"⟩, 15) := ⟨⟨by decide +kernel, by decide +kernel⟩, List.mem_of_getElem? (i := 63) (by decide +kernel), List.mem_of_getElem? (i := 698) (by decide +kernel), List.mem_of_getElem? (i := 699) (by decide +kernel)⟩
theorem lw_p30 : lw_okq (⟨"FootNotes", "noTown", "()Z"⟩, 13) := ⟨⟨by decide +kernel, by decide +kernel⟩, List.mem_of_getElem? (i := 23) (by decide +kernel), List.mem_of_getElem? (i := 707) (by decide +kernel), List.mem_of_getElem? (i := 708) (by decide +kernel)⟩
theorem lw_p31 : lw_okq (⟨"FootNotes$Shelf", "putBlank", "(II)V"⟩, 8) := ⟨⟨by decide +kernel, by decide +kernel⟩, List.mem_of_getElem? (i := 179) (by decide +kernel), List.mem_of_getElem? (i := 716) (by decide +kernel), List.mem_of_getElem? (i := 717) (by decide +kernel)⟩
def lw_privs_2 : List (MethodName × Nat) := [(⟨"FootNotes$Reader", "takeNewMember", "(II)I"⟩, 4), (⟨"FootNotes$Reader", "takeSign", "()V"⟩, 4), (⟨"FootNotes$Text", "copyFrom", "(LFootNotes$Text;)V"⟩, 15), (⟨"FootNotes$Shelf", "lay", "(LFootNotes$Text;)V"⟩, 8), (⟨"FootNotes$Text", "pagesIn", "(I)I"⟩, 15), (⟨"FootNotes", "settle", "()V"⟩, 13), (⟨"FootNotes$Web", "weave", "(LFootNotes$Text;LFootNotes$Shelf;I)V"⟩, 7), (⟨"FootNotes$Web", "locatePages", "(LFootNotes$Text;LFootNotes$Shelf;)V"⟩, 7), (⟨"FootNotes$Shelf", "onLeaf", "(II)I"⟩, 8), (⟨"FootNotes$Text", "hasPage", "(I)Z"⟩, 15), (⟨"FootNotes$Text", "notesOn", "(I)I"⟩, 15), (⟨"FootNotes$Text", "hasBook", "(I)Z"⟩, 15), (⟨"FootNotes$Text", "hasNote", "(I)Z"⟩, 15), (⟨"FootNotes$Text", "targetAtFirst", "(I)I"⟩, 15), (⟨"FootNotes", "noTown", "()Z"⟩, 13), (⟨"FootNotes$Shelf", "putBlank", "(II)V"⟩, 8)]
theorem lw_r2 : ∀ q ∈ lw_privs_2, lw_okq q := List.forall_mem_cons.mpr ⟨lw_p16, List.forall_mem_cons.mpr ⟨lw_p17, List.forall_mem_cons.mpr ⟨lw_p18, List.forall_mem_cons.mpr ⟨lw_p19, List.forall_mem_cons.mpr ⟨lw_p20, List.forall_mem_cons.mpr ⟨lw_p21, List.forall_mem_cons.mpr ⟨lw_p22, List.forall_mem_cons.mpr ⟨lw_p23, List.forall_mem_cons.mpr ⟨lw_p24, List.forall_mem_cons.mpr ⟨lw_p25, List.forall_mem_cons.mpr ⟨lw_p26, List.forall_mem_cons.mpr ⟨lw_p27, List.forall_mem_cons.mpr ⟨lw_p28, List.forall_mem_cons.mpr ⟨lw_p29, List.forall_mem_cons.mpr ⟨lw_p30, List.forall_mem_cons.mpr ⟨lw_p31, fun _ h => absurd h List.not_mem_nil⟩⟩⟩⟩⟩⟩⟩⟩⟩⟩⟩⟩⟩⟩⟩⟩
theorem lw_p32 : lw_okq (⟨"FootNotes$Shelf", "remember", "(IIII)V"⟩, 8) := ⟨⟨by decide +kernel, by decide +kernel⟩, List.mem_of_getElem? (i := 179) (by decide +kernel), List.mem_of_getElem? (i := 720) (by decide +kernel), List.mem_of_getElem? (i := 721) (by decide +kernel)⟩
theorem lw_p33 : lw_okq (⟨"FootNotes$Shelf", "tearOut", "(II)V"⟩, 8) := ⟨⟨by decide +kernel, by decide +kernel⟩, List.mem_of_getElem? (i := 179) (by decide +kernel), List.mem_of_getElem? (i := 728) (by decide +kernel), List.mem_of_getElem? (i := 729) (by decide +kernel)⟩
theorem lw_p34 : lw_okq (⟨"FootNotes$Shelf", "reprint", "(II)V"⟩, 8) := ⟨⟨by decide +kernel, by decide +kernel⟩, List.mem_of_getElem? (i := 179) (by decide +kernel), List.mem_of_getElem? (i := 737) (by decide +kernel), List.mem_of_getElem? (i := 738) (by decide +kernel)⟩
theorem lw_p35 : lw_okq (⟨"FootNotes$Shelf", "takeBack", "()V"⟩, 8) := ⟨⟨by decide +kernel, by decide +kernel⟩, List.mem_of_getElem? (i := 179) (by decide +kernel), List.mem_of_getElem? (i := 745) (by decide +kernel), List.mem_of_getElem? (i := 746) (by decide +kernel)⟩
theorem lw_p36 : lw_okq (⟨"FootNotes$Shelf", "takeOutLeaf", "(II)V"⟩, 8) := ⟨⟨by decide +kernel, by decide +kernel⟩, List.mem_of_getElem? (i := 179) (by decide +kernel), List.mem_of_getElem? (i := 749) (by decide +kernel), List.mem_of_getElem? (i := 750) (by decide +kernel)⟩
theorem lw_p37 : lw_okq (⟨"FootNotes$Web", "reachedFrom", "(I)I"⟩, 7) := ⟨⟨by decide +kernel, by decide +kernel⟩, List.mem_of_getElem? (i := 220) (by decide +kernel), List.mem_of_getElem? (i := 761) (by decide +kernel), List.mem_of_getElem? (i := 762) (by decide +kernel)⟩
theorem lw_p38 : lw_okq (⟨"FootNotes$Web", "walkFrom", "(I)V"⟩, 7) := ⟨⟨by decide +kernel, by decide +kernel⟩, List.mem_of_getElem? (i := 220) (by decide +kernel), List.mem_of_getElem? (i := 765) (by decide +kernel), List.mem_of_getElem? (i := 766) (by decide +kernel)⟩
theorem lw_p39 : lw_okq (⟨"FootNotes$Web", "wayLength", "(I)I"⟩, 7) := ⟨⟨by decide +kernel, by decide +kernel⟩, List.mem_of_getElem? (i := 220) (by decide +kernel), List.mem_of_getElem? (i := 791) (by decide +kernel), List.mem_of_getElem? (i := 792) (by decide +kernel)⟩
theorem lw_p40 : lw_okq (⟨"FootNotes$Web", "nextOnWay", "(II)I"⟩, 7) := ⟨⟨by decide +kernel, by decide +kernel⟩, List.mem_of_getElem? (i := 220) (by decide +kernel), List.mem_of_getElem? (i := 799) (by decide +kernel), List.mem_of_getElem? (i := 800) (by decide +kernel)⟩
theorem lw_p41 : lw_okq (⟨"FootNotes$Web", "farthestFrom", "(I)I"⟩, 7) := ⟨⟨by decide +kernel, by decide +kernel⟩, List.mem_of_getElem? (i := 220) (by decide +kernel), List.mem_of_getElem? (i := 808) (by decide +kernel), List.mem_of_getElem? (i := 809) (by decide +kernel)⟩
theorem lw_p42 : lw_okq (⟨"FootNotes$Web", "groundedWithout", "(I)I"⟩, 7) := ⟨⟨by decide +kernel, by decide +kernel⟩, List.mem_of_getElem? (i := 220) (by decide +kernel), List.mem_of_getElem? (i := 823) (by decide +kernel), List.mem_of_getElem? (i := 824) (by decide +kernel)⟩
theorem lw_p43 : lw_okq (⟨"FootNotes$Web", "lossBy", "(I)I"⟩, 7) := ⟨⟨by decide +kernel, by decide +kernel⟩, List.mem_of_getElem? (i := 220) (by decide +kernel), List.mem_of_getElem? (i := 835) (by decide +kernel), List.mem_of_getElem? (i := 836) (by decide +kernel)⟩
theorem lw_p44 : lw_okq (⟨"FootNotes$Web", "leastCut", "(I)I"⟩, 7) := ⟨⟨by decide +kernel, by decide +kernel⟩, List.mem_of_getElem? (i := 220) (by decide +kernel), List.mem_of_getElem? (i := 858) (by decide +kernel), List.mem_of_getElem? (i := 859) (by decide +kernel)⟩
theorem lw_p45 : lw_okq (⟨"FootNotes", "noSet", "(I)Z"⟩, 13) := ⟨⟨by decide +kernel, by decide +kernel⟩, List.mem_of_getElem? (i := 23) (by decide +kernel), List.mem_of_getElem? (i := 869) (by decide +kernel), List.mem_of_getElem? (i := 870) (by decide +kernel)⟩
theorem lw_p46 : lw_okq (⟨"FootNotes$Faith", "take", "(LFootNotes$Text;LFootNotes$Web;)V"⟩, 12) := ⟨⟨by decide +kernel, by decide +kernel⟩, List.mem_of_getElem? (i := 258) (by decide +kernel), List.mem_of_getElem? (i := 873) (by decide +kernel), List.mem_of_getElem? (i := 874) (by decide +kernel)⟩
theorem lw_p47 : lw_okq (⟨"FootNotes$Faith", "canHold", "(I)Z"⟩, 12) := ⟨⟨by decide +kernel, by decide +kernel⟩, List.mem_of_getElem? (i := 258) (by decide +kernel), List.mem_of_getElem? (i := 877) (by decide +kernel), List.mem_of_getElem? (i := 878) (by decide +kernel)⟩
def lw_privs_3 : List (MethodName × Nat) := [(⟨"FootNotes$Shelf", "remember", "(IIII)V"⟩, 8), (⟨"FootNotes$Shelf", "tearOut", "(II)V"⟩, 8), (⟨"FootNotes$Shelf", "reprint", "(II)V"⟩, 8), (⟨"FootNotes$Shelf", "takeBack", "()V"⟩, 8), (⟨"FootNotes$Shelf", "takeOutLeaf", "(II)V"⟩, 8), (⟨"FootNotes$Web", "reachedFrom", "(I)I"⟩, 7), (⟨"FootNotes$Web", "walkFrom", "(I)V"⟩, 7), (⟨"FootNotes$Web", "wayLength", "(I)I"⟩, 7), (⟨"FootNotes$Web", "nextOnWay", "(II)I"⟩, 7), (⟨"FootNotes$Web", "farthestFrom", "(I)I"⟩, 7), (⟨"FootNotes$Web", "groundedWithout", "(I)I"⟩, 7), (⟨"FootNotes$Web", "lossBy", "(I)I"⟩, 7), (⟨"FootNotes$Web", "leastCut", "(I)I"⟩, 7), (⟨"FootNotes", "noSet", "(I)Z"⟩, 13), (⟨"FootNotes$Faith", "take", "(LFootNotes$Text;LFootNotes$Web;)V"⟩, 12), (⟨"FootNotes$Faith", "canHold", "(I)Z"⟩, 12)]
theorem lw_r3 : ∀ q ∈ lw_privs_3, lw_okq q := List.forall_mem_cons.mpr ⟨lw_p32, List.forall_mem_cons.mpr ⟨lw_p33, List.forall_mem_cons.mpr ⟨lw_p34, List.forall_mem_cons.mpr ⟨lw_p35, List.forall_mem_cons.mpr ⟨lw_p36, List.forall_mem_cons.mpr ⟨lw_p37, List.forall_mem_cons.mpr ⟨lw_p38, List.forall_mem_cons.mpr ⟨lw_p39, List.forall_mem_cons.mpr ⟨lw_p40, List.forall_mem_cons.mpr ⟨lw_p41, List.forall_mem_cons.mpr ⟨lw_p42, List.forall_mem_cons.mpr ⟨lw_p43, List.forall_mem_cons.mpr ⟨lw_p44, List.forall_mem_cons.mpr ⟨lw_p45, List.forall_mem_cons.mpr ⟨lw_p46, List.forall_mem_cons.mpr ⟨lw_p47, fun _ h => absurd h List.not_mem_nil⟩⟩⟩⟩⟩⟩⟩⟩⟩⟩⟩⟩⟩⟩⟩⟩
theorem lw_p48 : lw_okq (⟨"FootNotes$Faith", "broken", "(II)I"⟩, 12) := ⟨⟨by decide +kernel, by decide +kernel⟩, List.mem_of_getElem? (i := 258) (by decide +kernel), List.mem_of_getElem? (i := 881) (by decide +kernel), List.mem_of_getElem? (i := 882) (by decide +kernel)⟩
theorem lw_p49 : lw_okq (⟨"FootNotes$Faith", "searchWays", "()V"⟩, 12) := ⟨⟨by decide +kernel, by decide +kernel⟩, List.mem_of_getElem? (i := 258) (by decide +kernel), List.mem_of_getElem? (i := 889) (by decide +kernel), List.mem_of_getElem? (i := 890) (by decide +kernel)⟩
theorem lw_p50 : lw_okq (⟨"FootNotes$Faith", "searchLoosest", "(I)V"⟩, 12) := ⟨⟨by decide +kernel, by decide +kernel⟩, List.mem_of_getElem? (i := 258) (by decide +kernel), List.mem_of_getElem? (i := 911) (by decide +kernel), List.mem_of_getElem? (i := 912) (by decide +kernel)⟩
theorem lw_p51 : lw_okq (⟨"FootNotes$Web", "isTorn", "(I)Z"⟩, 7) := ⟨⟨by decide +kernel, by decide +kernel⟩, List.mem_of_getElem? (i := 220) (by decide +kernel), List.mem_of_getElem? (i := 923) (by decide +kernel), List.mem_of_getElem? (i := 924) (by decide +kernel)⟩
theorem lw_p52 : lw_okq (⟨"FootNotes$Turns", "measureFromDoors", "(LFootNotes$Text;LFootNotes$Shelf;LFootNotes$Web;)V"⟩, 6) := ⟨⟨by decide +kernel, by decide +kernel⟩, List.mem_of_getElem? (i := 313) (by decide +kernel), List.mem_of_getElem? (i := 927) (by decide +kernel), List.mem_of_getElem? (i := 928) (by decide +kernel)⟩
theorem lw_p53 : lw_okq (⟨"FootNotes$Turns", "arrive", "([III)V"⟩, 6) := ⟨⟨by decide +kernel, by decide +kernel⟩, List.mem_of_getElem? (i := 313) (by decide +kernel), List.mem_of_getElem? (i := 932) (by decide +kernel), List.mem_of_getElem? (i := 933) (by decide +kernel)⟩
theorem lw_p54 : lw_okq (⟨"FootNotes$Turns", "spread", "([ILFootNotes$Shelf;LFootNotes$Web;)V"⟩, 6) := ⟨⟨by decide +kernel, by decide +kernel⟩, List.mem_of_getElem? (i := 313) (by decide +kernel), List.mem_of_getElem? (i := 936) (by decide +kernel), List.mem_of_getElem? (i := 937) (by decide +kernel)⟩
theorem lw_p55 : lw_okq (⟨"FootNotes$Turns", "followNotes", "([ILFootNotes$Web;II)V"⟩, 6) := ⟨⟨by decide +kernel, by decide +kernel⟩, List.mem_of_getElem? (i := 313) (by decide +kernel), List.mem_of_getElem? (i := 941) (by decide +kernel), List.mem_of_getElem? (i := 942) (by decide +kernel)⟩
theorem lw_p56 : lw_okq (⟨"FootNotes$Turns", "measureFrom", "(ILFootNotes$Shelf;LFootNotes$Web;)V"⟩, 6) := ⟨⟨by decide +kernel, by decide +kernel⟩, List.mem_of_getElem? (i := 313) (by decide +kernel), List.mem_of_getElem? (i := 945) (by decide +kernel), List.mem_of_getElem? (i := 946) (by decide +kernel)⟩
theorem lw_p57 : lw_okq (⟨"FootNotes$Turns", "between", "(II)I"⟩, 6) := ⟨⟨by decide +kernel, by decide +kernel⟩, List.mem_of_getElem? (i := 313) (by decide +kernel), List.mem_of_getElem? (i := 950) (by decide +kernel), List.mem_of_getElem? (i := 951) (by decide +kernel)⟩
theorem lw_p58 : lw_okq (⟨"FootNotes", "tripTrouble", "(II)I"⟩, 13) := ⟨⟨by decide +kernel, by decide +kernel⟩, List.mem_of_getElem? (i := 23) (by decide +kernel), List.mem_of_getElem? (i := 958) (by decide +kernel), List.mem_of_getElem? (i := 959) (by decide +kernel)⟩
theorem lw_p59 : lw_okq (⟨"FootNotes", "planTrip", "(LFootNotes$Row;I)V"⟩, 13) := ⟨⟨by decide +kernel, by decide +kernel⟩, List.mem_of_getElem? (i := 23) (by decide +kernel), List.mem_of_getElem? (i := 965) (by decide +kernel), List.mem_of_getElem? (i := 966) (by decide +kernel)⟩
theorem lw_p60 : lw_okq (⟨"FootNotes$Tour", "begin", "(I)V"⟩, 4) := ⟨⟨by decide +kernel, by decide +kernel⟩, List.mem_of_getElem? (i := 307) (by decide +kernel), List.mem_of_getElem? (i := 969) (by decide +kernel), List.mem_of_getElem? (i := 970) (by decide +kernel)⟩
theorem lw_p61 : lw_okq (⟨"FootNotes$Tour", "addStop", "(I)V"⟩, 4) := ⟨⟨by decide +kernel, by decide +kernel⟩, List.mem_of_getElem? (i := 307) (by decide +kernel), List.mem_of_getElem? (i := 973) (by decide +kernel), List.mem_of_getElem? (i := 974) (by decide +kernel)⟩
theorem lw_p62 : lw_okq (⟨"FootNotes$Tour", "plan", "()V"⟩, 4) := ⟨⟨by decide +kernel, by decide +kernel⟩, List.mem_of_getElem? (i := 307) (by decide +kernel), List.mem_of_getElem? (i := 977) (by decide +kernel), List.mem_of_getElem? (i := 978) (by decide +kernel)⟩
theorem lw_p63 : lw_okq (⟨"FootNotes$Tour", "all", "()I"⟩, 4) := ⟨⟨by decide +kernel, by decide +kernel⟩, List.mem_of_getElem? (i := 307) (by decide +kernel), List.mem_of_getElem? (i := 981) (by decide +kernel), List.mem_of_getElem? (i := 982) (by decide +kernel)⟩
def lw_privs_4 : List (MethodName × Nat) := [(⟨"FootNotes$Faith", "broken", "(II)I"⟩, 12), (⟨"FootNotes$Faith", "searchWays", "()V"⟩, 12), (⟨"FootNotes$Faith", "searchLoosest", "(I)V"⟩, 12), (⟨"FootNotes$Web", "isTorn", "(I)Z"⟩, 7), (⟨"FootNotes$Turns", "measureFromDoors", "(LFootNotes$Text;LFootNotes$Shelf;LFootNotes$Web;)V"⟩, 6), (⟨"FootNotes$Turns", "arrive", "([III)V"⟩, 6), (⟨"FootNotes$Turns", "spread", "([ILFootNotes$Shelf;LFootNotes$Web;)V"⟩, 6), (⟨"FootNotes$Turns", "followNotes", "([ILFootNotes$Web;II)V"⟩, 6), (⟨"FootNotes$Turns", "measureFrom", "(ILFootNotes$Shelf;LFootNotes$Web;)V"⟩, 6), (⟨"FootNotes$Turns", "between", "(II)I"⟩, 6), (⟨"FootNotes", "tripTrouble", "(II)I"⟩, 13), (⟨"FootNotes", "planTrip", "(LFootNotes$Row;I)V"⟩, 13), (⟨"FootNotes$Tour", "begin", "(I)V"⟩, 4), (⟨"FootNotes$Tour", "addStop", "(I)V"⟩, 4), (⟨"FootNotes$Tour", "plan", "()V"⟩, 4), (⟨"FootNotes$Tour", "all", "()I"⟩, 4)]
theorem lw_r4 : ∀ q ∈ lw_privs_4, lw_okq q := List.forall_mem_cons.mpr ⟨lw_p48, List.forall_mem_cons.mpr ⟨lw_p49, List.forall_mem_cons.mpr ⟨lw_p50, List.forall_mem_cons.mpr ⟨lw_p51, List.forall_mem_cons.mpr ⟨lw_p52, List.forall_mem_cons.mpr ⟨lw_p53, List.forall_mem_cons.mpr ⟨lw_p54, List.forall_mem_cons.mpr ⟨lw_p55, List.forall_mem_cons.mpr ⟨lw_p56, List.forall_mem_cons.mpr ⟨lw_p57, List.forall_mem_cons.mpr ⟨lw_p58, List.forall_mem_cons.mpr ⟨lw_p59, List.forall_mem_cons.mpr ⟨lw_p60, List.forall_mem_cons.mpr ⟨lw_p61, List.forall_mem_cons.mpr ⟨lw_p62, List.forall_mem_cons.mpr ⟨lw_p63, fun _ h => absurd h List.not_mem_nil⟩⟩⟩⟩⟩⟩⟩⟩⟩⟩⟩⟩⟩⟩⟩⟩
theorem lw_p64 : lw_okq (⟨"FootNotes$Tour", "fewestFrom", "(II)I"⟩, 4) := ⟨⟨by decide +kernel, by decide +kernel⟩, List.mem_of_getElem? (i := 307) (by decide +kernel), List.mem_of_getElem? (i := 985) (by decide +kernel), List.mem_of_getElem? (i := 986) (by decide +kernel)⟩
theorem lw_p65 : lw_okq (⟨"FootNotes$Tour", "costBy", "(III)I"⟩, 4) := ⟨⟨by decide +kernel, by decide +kernel⟩, List.mem_of_getElem? (i := 307) (by decide +kernel), List.mem_of_getElem? (i := 989) (by decide +kernel), List.mem_of_getElem? (i := 990) (by decide +kernel)⟩
theorem lw_p66 : lw_okq (⟨"FootNotes$Tour", "fewestFor", "(I)I"⟩, 4) := ⟨⟨by decide +kernel, by decide +kernel⟩, List.mem_of_getElem? (i := 307) (by decide +kernel), List.mem_of_getElem? (i := 995) (by decide +kernel), List.mem_of_getElem? (i := 996) (by decide +kernel)⟩
theorem lw_p67 : lw_okq (⟨"FootNotes$Tour", "stopAt", "(I)I"⟩, 4) := ⟨⟨by decide +kernel, by decide +kernel⟩, List.mem_of_getElem? (i := 307) (by decide +kernel), List.mem_of_getElem? (i := 1003) (by decide +kernel), List.mem_of_getElem? (i := 1004) (by decide +kernel)⟩
theorem lw_p68 : lw_okq (⟨"FootNotes$Tour", "bestNext", "(II)I"⟩, 4) := ⟨⟨by decide +kernel, by decide +kernel⟩, List.mem_of_getElem? (i := 307) (by decide +kernel), List.mem_of_getElem? (i := 1007) (by decide +kernel), List.mem_of_getElem? (i := 1008) (by decide +kernel)⟩
theorem lw_p69 : lw_okq (⟨"FootNotes$Tour", "fairestSet", "()I"⟩, 4) := ⟨⟨by decide +kernel, by decide +kernel⟩, List.mem_of_getElem? (i := 307) (by decide +kernel), List.mem_of_getElem? (i := 1015) (by decide +kernel), List.mem_of_getElem? (i := 1016) (by decide +kernel)⟩
theorem lw_p70 : lw_okq (⟨"FootNotes$Tour", "longerOf", "(I)I"⟩, 4) := ⟨⟨by decide +kernel, by decide +kernel⟩, List.mem_of_getElem? (i := 307) (by decide +kernel), List.mem_of_getElem? (i := 1019) (by decide +kernel), List.mem_of_getElem? (i := 1020) (by decide +kernel)⟩
theorem lw_p71 : lw_okq (⟨"FootNotes$Precedence", "search", "(LFootNotes$Text;LFootNotes$Web;)V"⟩, 6) := ⟨⟨by decide +kernel, by decide +kernel⟩, List.mem_of_getElem? (i := 352) (by decide +kernel), List.mem_of_getElem? (i := 1034) (by decide +kernel), List.mem_of_getElem? (i := 1035) (by decide +kernel)⟩
theorem lw_p72 : lw_okq (⟨"FootNotes$Precedence", "tally", "(LFootNotes$Text;LFootNotes$Web;)V"⟩, 6) := ⟨⟨by decide +kernel, by decide +kernel⟩, List.mem_of_getElem? (i := 352) (by decide +kernel), List.mem_of_getElem? (i := 1038) (by decide +kernel), List.mem_of_getElem? (i := 1039) (by decide +kernel)⟩
theorem lw_p73 : lw_okq (⟨"FootNotes$Precedence", "weighTried", "()V"⟩, 6) := ⟨⟨by decide +kernel, by decide +kernel⟩, List.mem_of_getElem? (i := 352) (by decide +kernel), List.mem_of_getElem? (i := 1043) (by decide +kernel), List.mem_of_getElem? (i := 1044) (by decide +kernel)⟩
theorem lw_p74 : lw_okq (⟨"FootNotes$Precedence", "moveToNextOrder", "()Z"⟩, 6) := ⟨⟨by decide +kernel, by decide +kernel⟩, List.mem_of_getElem? (i := 352) (by decide +kernel), List.mem_of_getElem? (i := 1048) (by decide +kernel), List.mem_of_getElem? (i := 1049) (by decide +kernel)⟩
theorem lw_p75 : lw_okq (⟨"FootNotes$Precedence", "swap", "(II)V"⟩, 6) := ⟨⟨by decide +kernel, by decide +kernel⟩, List.mem_of_getElem? (i := 352) (by decide +kernel), List.mem_of_getElem? (i := 1052) (by decide +kernel), List.mem_of_getElem? (i := 1053) (by decide +kernel)⟩
theorem lw_p76 : lw_okq (⟨"FootNotes$Ledger", "runRounds", "(LFootNotes$Text;LFootNotes$Web;I)V"⟩, 4) := ⟨⟨by decide +kernel, by decide +kernel⟩, List.mem_of_getElem? (i := 380) (by decide +kernel), List.mem_of_getElem? (i := 1071) (by decide +kernel), List.mem_of_getElem? (i := 1072) (by decide +kernel)⟩
theorem lw_p77 : lw_okq (⟨"FootNotes$Ledger", "open", "(LFootNotes$Text;LFootNotes$Web;)V"⟩, 4) := ⟨⟨by decide +kernel, by decide +kernel⟩, List.mem_of_getElem? (i := 380) (by decide +kernel), List.mem_of_getElem? (i := 1075) (by decide +kernel), List.mem_of_getElem? (i := 1076) (by decide +kernel)⟩
theorem lw_p78 : lw_okq (⟨"FootNotes$Ledger", "roundChanges", "(LFootNotes$Text;LFootNotes$Web;)Z"⟩, 4) := ⟨⟨by decide +kernel, by decide +kernel⟩, List.mem_of_getElem? (i := 380) (by decide +kernel), List.mem_of_getElem? (i := 1080) (by decide +kernel), List.mem_of_getElem? (i := 1081) (by decide +kernel)⟩
theorem lw_p79 : lw_okq (⟨"FootNotes", "noPair", "(II)Z"⟩, 13) := ⟨⟨by decide +kernel, by decide +kernel⟩, List.mem_of_getElem? (i := 23) (by decide +kernel), List.mem_of_getElem? (i := 1098) (by decide +kernel), List.mem_of_getElem? (i := 1099) (by decide +kernel)⟩
def lw_privs_5 : List (MethodName × Nat) := [(⟨"FootNotes$Tour", "fewestFrom", "(II)I"⟩, 4), (⟨"FootNotes$Tour", "costBy", "(III)I"⟩, 4), (⟨"FootNotes$Tour", "fewestFor", "(I)I"⟩, 4), (⟨"FootNotes$Tour", "stopAt", "(I)I"⟩, 4), (⟨"FootNotes$Tour", "bestNext", "(II)I"⟩, 4), (⟨"FootNotes$Tour", "fairestSet", "()I"⟩, 4), (⟨"FootNotes$Tour", "longerOf", "(I)I"⟩, 4), (⟨"FootNotes$Precedence", "search", "(LFootNotes$Text;LFootNotes$Web;)V"⟩, 6), (⟨"FootNotes$Precedence", "tally", "(LFootNotes$Text;LFootNotes$Web;)V"⟩, 6), (⟨"FootNotes$Precedence", "weighTried", "()V"⟩, 6), (⟨"FootNotes$Precedence", "moveToNextOrder", "()Z"⟩, 6), (⟨"FootNotes$Precedence", "swap", "(II)V"⟩, 6), (⟨"FootNotes$Ledger", "runRounds", "(LFootNotes$Text;LFootNotes$Web;I)V"⟩, 4), (⟨"FootNotes$Ledger", "open", "(LFootNotes$Text;LFootNotes$Web;)V"⟩, 4), (⟨"FootNotes$Ledger", "roundChanges", "(LFootNotes$Text;LFootNotes$Web;)Z"⟩, 4), (⟨"FootNotes", "noPair", "(II)Z"⟩, 13)]
theorem lw_r5 : ∀ q ∈ lw_privs_5, lw_okq q := List.forall_mem_cons.mpr ⟨lw_p64, List.forall_mem_cons.mpr ⟨lw_p65, List.forall_mem_cons.mpr ⟨lw_p66, List.forall_mem_cons.mpr ⟨lw_p67, List.forall_mem_cons.mpr ⟨lw_p68, List.forall_mem_cons.mpr ⟨lw_p69, List.forall_mem_cons.mpr ⟨lw_p70, List.forall_mem_cons.mpr ⟨lw_p71, List.forall_mem_cons.mpr ⟨lw_p72, List.forall_mem_cons.mpr ⟨lw_p73, List.forall_mem_cons.mpr ⟨lw_p74, List.forall_mem_cons.mpr ⟨lw_p75, List.forall_mem_cons.mpr ⟨lw_p76, List.forall_mem_cons.mpr ⟨lw_p77, List.forall_mem_cons.mpr ⟨lw_p78, List.forall_mem_cons.mpr ⟨lw_p79, fun _ h => absurd h List.not_mem_nil⟩⟩⟩⟩⟩⟩⟩⟩⟩⟩⟩⟩⟩⟩⟩⟩
theorem lw_p80 : lw_okq (⟨"FootNotes", "stepsTogether", "(III)I"⟩, 13) := ⟨⟨by decide +kernel, by decide +kernel⟩, List.mem_of_getElem? (i := 23) (by decide +kernel), List.mem_of_getElem? (i := 1111) (by decide +kernel), List.mem_of_getElem? (i := 1112) (by decide +kernel)⟩
theorem lw_p81 : lw_okq (⟨"FootNotes$Web", "stepsBetween", "(II)I"⟩, 7) := ⟨⟨by decide +kernel, by decide +kernel⟩, List.mem_of_getElem? (i := 220) (by decide +kernel), List.mem_of_getElem? (i := 1115) (by decide +kernel), List.mem_of_getElem? (i := 1116) (by decide +kernel)⟩
theorem lw_p82 : lw_okq (⟨"FootNotes", "noScholar", "(I)Z"⟩, 13) := ⟨⟨by decide +kernel, by decide +kernel⟩, List.mem_of_getElem? (i := 23) (by decide +kernel), List.mem_of_getElem? (i := 1124) (by decide +kernel), List.mem_of_getElem? (i := 1125) (by decide +kernel)⟩
theorem lw_p83 : lw_okq (⟨"FootNotes", "leadsTo", "(I)I"⟩, 13) := ⟨⟨by decide +kernel, by decide +kernel⟩, List.mem_of_getElem? (i := 23) (by decide +kernel), List.mem_of_getElem? (i := 1128) (by decide +kernel), List.mem_of_getElem? (i := 1129) (by decide +kernel)⟩
theorem lw_p84 : lw_okq (⟨"FootNotes", "leadsBetween", "(II)I"⟩, 13) := ⟨⟨by decide +kernel, by decide +kernel⟩, List.mem_of_getElem? (i := 23) (by decide +kernel), List.mem_of_getElem? (i := 1132) (by decide +kernel), List.mem_of_getElem? (i := 1133) (by decide +kernel)⟩
theorem lw_p85 : lw_okq (⟨"FootNotes$Text", "scholarOf", "(I)I"⟩, 15) := ⟨⟨by decide +kernel, by decide +kernel⟩, List.mem_of_getElem? (i := 63) (by decide +kernel), List.mem_of_getElem? (i := 1136) (by decide +kernel), List.mem_of_getElem? (i := 1137) (by decide +kernel)⟩
theorem lw_p86 : lw_okq (⟨"FootNotes", "noSeed", "(I)Z"⟩, 13) := ⟨⟨by decide +kernel, by decide +kernel⟩, List.mem_of_getElem? (i := 23) (by decide +kernel), List.mem_of_getElem? (i := 1152) (by decide +kernel), List.mem_of_getElem? (i := 1153) (by decide +kernel)⟩
theorem lw_p87 : lw_okq (⟨"FootNotes", "drawMisprints", "(J)I"⟩, 13) := ⟨⟨by decide +kernel, by decide +kernel⟩, List.mem_of_getElem? (i := 23) (by decide +kernel), List.mem_of_getElem? (i := 1157) (by decide +kernel), List.mem_of_getElem? (i := 1158) (by decide +kernel)⟩
theorem lw_p88 : lw_okq (⟨"FootNotes", "groundedByDraw", "(J)I"⟩, 13) := ⟨⟨by decide +kernel, by decide +kernel⟩, List.mem_of_getElem? (i := 23) (by decide +kernel), List.mem_of_getElem? (i := 1170) (by decide +kernel), List.mem_of_getElem? (i := 1171) (by decide +kernel)⟩
theorem lw_p89 : lw_okq (⟨"FootNotes", "rowsPresent", "()I"⟩, 13) := ⟨⟨by decide +kernel, by decide +kernel⟩, List.mem_of_getElem? (i := 23) (by decide +kernel), List.mem_of_getElem? (i := 1182) (by decide +kernel), List.mem_of_getElem? (i := 1183) (by decide +kernel)⟩
theorem lw_p90 : lw_okq (⟨"FootNotes$Shelf", "copyFrom", "(LFootNotes$Shelf;)V"⟩, 8) := ⟨⟨by decide +kernel, by decide +kernel⟩, List.mem_of_getElem? (i := 179) (by decide +kernel), List.mem_of_getElem? (i := 1193) (by decide +kernel), List.mem_of_getElem? (i := 1194) (by decide +kernel)⟩
theorem lw_p91 : lw_okq (⟨"FootNotes$Row", "begin", "(II)V"⟩, 4) := ⟨⟨by decide +kernel, by decide +kernel⟩, List.mem_of_getElem? (i := 399) (by decide +kernel), List.mem_of_getElem? (i := 1205) (by decide +kernel), List.mem_of_getElem? (i := 1206) (by decide +kernel)⟩
theorem lw_p92 : lw_okq (⟨"FootNotes$Row", "cutToWidth", "(J)J"⟩, 4) := ⟨⟨by decide +kernel, by decide +kernel⟩, List.mem_of_getElem? (i := 399) (by decide +kernel), List.mem_of_getElem? (i := 1216) (by decide +kernel), List.mem_of_getElem? (i := 1217) (by decide +kernel)⟩
theorem lw_p93 : lw_okq (⟨"FootNotes$Row", "spans", "(II)Z"⟩, 4) := ⟨⟨by decide +kernel, by decide +kernel⟩, List.mem_of_getElem? (i := 399) (by decide +kernel), List.mem_of_getElem? (i := 1224) (by decide +kernel), List.mem_of_getElem? (i := 1225) (by decide +kernel)⟩
theorem lw_p94 : lw_okq (⟨"FootNotesModel", "four", "(I)V"⟩, 51) := ⟨⟨by decide +kernel, by decide +kernel⟩, List.mem_of_getElem? (i := 1229) (by decide +kernel), List.mem_of_getElem? (i := 1415) (by decide +kernel), List.mem_of_getElem? (i := 1416) (by decide +kernel)⟩
theorem lw_p95 : lw_okq (⟨"FootNotesModel", "clears", "()V"⟩, 51) := ⟨⟨by decide +kernel, by decide +kernel⟩, List.mem_of_getElem? (i := 1229) (by decide +kernel), List.mem_of_getElem? (i := 1431) (by decide +kernel), List.mem_of_getElem? (i := 1432) (by decide +kernel)⟩
def lw_privs_6 : List (MethodName × Nat) := [(⟨"FootNotes", "stepsTogether", "(III)I"⟩, 13), (⟨"FootNotes$Web", "stepsBetween", "(II)I"⟩, 7), (⟨"FootNotes", "noScholar", "(I)Z"⟩, 13), (⟨"FootNotes", "leadsTo", "(I)I"⟩, 13), (⟨"FootNotes", "leadsBetween", "(II)I"⟩, 13), (⟨"FootNotes$Text", "scholarOf", "(I)I"⟩, 15), (⟨"FootNotes", "noSeed", "(I)Z"⟩, 13), (⟨"FootNotes", "drawMisprints", "(J)I"⟩, 13), (⟨"FootNotes", "groundedByDraw", "(J)I"⟩, 13), (⟨"FootNotes", "rowsPresent", "()I"⟩, 13), (⟨"FootNotes$Shelf", "copyFrom", "(LFootNotes$Shelf;)V"⟩, 8), (⟨"FootNotes$Row", "begin", "(II)V"⟩, 4), (⟨"FootNotes$Row", "cutToWidth", "(J)J"⟩, 4), (⟨"FootNotes$Row", "spans", "(II)Z"⟩, 4), (⟨"FootNotesModel", "four", "(I)V"⟩, 51), (⟨"FootNotesModel", "clears", "()V"⟩, 51)]
theorem lw_r6 : ∀ q ∈ lw_privs_6, lw_okq q := List.forall_mem_cons.mpr ⟨lw_p80, List.forall_mem_cons.mpr ⟨lw_p81, List.forall_mem_cons.mpr ⟨lw_p82, List.forall_mem_cons.mpr ⟨lw_p83, List.forall_mem_cons.mpr ⟨lw_p84, List.forall_mem_cons.mpr ⟨lw_p85, List.forall_mem_cons.mpr ⟨lw_p86, List.forall_mem_cons.mpr ⟨lw_p87, List.forall_mem_cons.mpr ⟨lw_p88, List.forall_mem_cons.mpr ⟨lw_p89, List.forall_mem_cons.mpr ⟨lw_p90, List.forall_mem_cons.mpr ⟨lw_p91, List.forall_mem_cons.mpr ⟨lw_p92, List.forall_mem_cons.mpr ⟨lw_p93, List.forall_mem_cons.mpr ⟨lw_p94, List.forall_mem_cons.mpr ⟨lw_p95, fun _ h => absurd h List.not_mem_nil⟩⟩⟩⟩⟩⟩⟩⟩⟩⟩⟩⟩⟩⟩⟩⟩
theorem lw_p96 : lw_okq (⟨"FootNotesModel", "tells", "(II)V"⟩, 51) := ⟨⟨by decide +kernel, by decide +kernel⟩, List.mem_of_getElem? (i := 1229) (by decide +kernel), List.mem_of_getElem? (i := 1435) (by decide +kernel), List.mem_of_getElem? (i := 1436) (by decide +kernel)⟩
theorem lw_p97 : lw_okq (⟨"FootNotesModel", "begins", "()V"⟩, 51) := ⟨⟨by decide +kernel, by decide +kernel⟩, List.mem_of_getElem? (i := 1229) (by decide +kernel), List.mem_of_getElem? (i := 1439) (by decide +kernel), List.mem_of_getElem? (i := 1440) (by decide +kernel)⟩
theorem lw_p98 : lw_okq (⟨"FootNotesModel", "next", "()V"⟩, 51) := ⟨⟨by decide +kernel, by decide +kernel⟩, List.mem_of_getElem? (i := 1229) (by decide +kernel), List.mem_of_getElem? (i := 1443) (by decide +kernel), List.mem_of_getElem? (i := 1444) (by decide +kernel)⟩
theorem lw_p99 : lw_okq (⟨"FootNotesModel", "isByte", "(III)Z"⟩, 51) := ⟨⟨by decide +kernel, by decide +kernel⟩, List.mem_of_getElem? (i := 1229) (by decide +kernel), List.mem_of_getElem? (i := 1447) (by decide +kernel), List.mem_of_getElem? (i := 1448) (by decide +kernel)⟩
theorem lw_p100 : lw_okq (⟨"FootNotesModel", "isGood", "()Z"⟩, 51) := ⟨⟨by decide +kernel, by decide +kernel⟩, List.mem_of_getElem? (i := 1229) (by decide +kernel), List.mem_of_getElem? (i := 1456) (by decide +kernel), List.mem_of_getElem? (i := 1457) (by decide +kernel)⟩
theorem lw_p101 : lw_okq (⟨"FootNotesModel", "asks", "(J)V"⟩, 51) := ⟨⟨by decide +kernel, by decide +kernel⟩, List.mem_of_getElem? (i := 1229) (by decide +kernel), List.mem_of_getElem? (i := 1461) (by decide +kernel), List.mem_of_getElem? (i := 1462) (by decide +kernel)⟩
theorem lw_p102 : lw_okq (⟨"FootNotesModel", "takes", "(J)Z"⟩, 51) := ⟨⟨by decide +kernel, by decide +kernel⟩, List.mem_of_getElem? (i := 1229) (by decide +kernel), List.mem_of_getElem? (i := 1465) (by decide +kernel), List.mem_of_getElem? (i := 1466) (by decide +kernel)⟩
theorem lw_p103 : lw_okq (⟨"FootNotesModel", "is", "(J)Z"⟩, 51) := ⟨⟨by decide +kernel, by decide +kernel⟩, List.mem_of_getElem? (i := 1229) (by decide +kernel), List.mem_of_getElem? (i := 1469) (by decide +kernel), List.mem_of_getElem? (i := 1470) (by decide +kernel)⟩
theorem lw_p104 : lw_okq (⟨"FootNotesModel", "fails", "(I)V"⟩, 51) := ⟨⟨by decide +kernel, by decide +kernel⟩, List.mem_of_getElem? (i := 1229) (by decide +kernel), List.mem_of_getElem? (i := 1473) (by decide +kernel), List.mem_of_getElem? (i := 1474) (by decide +kernel)⟩
theorem lw_p105 : lw_okq (⟨"FootNotesModel", "number", "(JII)I"⟩, 51) := ⟨⟨by decide +kernel, by decide +kernel⟩, List.mem_of_getElem? (i := 1229) (by decide +kernel), List.mem_of_getElem? (i := 1478) (by decide +kernel), List.mem_of_getElem? (i := 1479) (by decide +kernel)⟩
theorem lw_p106 : lw_okq (⟨"FootNotesModel", "number", "(II)I"⟩, 51) := ⟨⟨by decide +kernel, by decide +kernel⟩, List.mem_of_getElem? (i := 1229) (by decide +kernel), List.mem_of_getElem? (i := 1482) (by decide +kernel), List.mem_of_getElem? (i := 1483) (by decide +kernel)⟩
theorem lw_p107 : lw_okq (⟨"FootNotesModel", "line", "()V"⟩, 51) := ⟨⟨by decide +kernel, by decide +kernel⟩, List.mem_of_getElem? (i := 1229) (by decide +kernel), List.mem_of_getElem? (i := 1487) (by decide +kernel), List.mem_of_getElem? (i := 1488) (by decide +kernel)⟩
theorem lw_p108 : lw_okq (⟨"FootNotesModel", "hasRead", "(I)I"⟩, 51) := ⟨⟨by decide +kernel, by decide +kernel⟩, List.mem_of_getElem? (i := 1229) (by decide +kernel), List.mem_of_getElem? (i := 1493) (by decide +kernel), List.mem_of_getElem? (i := 1494) (by decide +kernel)⟩
theorem lw_p109 : lw_okq (⟨"FootNotesModel", "bookLine", "()V"⟩, 51) := ⟨⟨by decide +kernel, by decide +kernel⟩, List.mem_of_getElem? (i := 1229) (by decide +kernel), List.mem_of_getElem? (i := 1497) (by decide +kernel), List.mem_of_getElem? (i := 1498) (by decide +kernel)⟩
theorem lw_p110 : lw_okq (⟨"FootNotesModel", "noteLine", "()V"⟩, 51) := ⟨⟨by decide +kernel, by decide +kernel⟩, List.mem_of_getElem? (i := 1229) (by decide +kernel), List.mem_of_getElem? (i := 1503) (by decide +kernel), List.mem_of_getElem? (i := 1504) (by decide +kernel)⟩
theorem lw_p111 : lw_okq (⟨"FootNotesModel", "pageHere", "()I"⟩, 51) := ⟨⟨by decide +kernel, by decide +kernel⟩, List.mem_of_getElem? (i := 1229) (by decide +kernel), List.mem_of_getElem? (i := 1507) (by decide +kernel), List.mem_of_getElem? (i := 1508) (by decide +kernel)⟩
def lw_privs_7 : List (MethodName × Nat) := [(⟨"FootNotesModel", "tells", "(II)V"⟩, 51), (⟨"FootNotesModel", "begins", "()V"⟩, 51), (⟨"FootNotesModel", "next", "()V"⟩, 51), (⟨"FootNotesModel", "isByte", "(III)Z"⟩, 51), (⟨"FootNotesModel", "isGood", "()Z"⟩, 51), (⟨"FootNotesModel", "asks", "(J)V"⟩, 51), (⟨"FootNotesModel", "takes", "(J)Z"⟩, 51), (⟨"FootNotesModel", "is", "(J)Z"⟩, 51), (⟨"FootNotesModel", "fails", "(I)V"⟩, 51), (⟨"FootNotesModel", "number", "(JII)I"⟩, 51), (⟨"FootNotesModel", "number", "(II)I"⟩, 51), (⟨"FootNotesModel", "line", "()V"⟩, 51), (⟨"FootNotesModel", "hasRead", "(I)I"⟩, 51), (⟨"FootNotesModel", "bookLine", "()V"⟩, 51), (⟨"FootNotesModel", "noteLine", "()V"⟩, 51), (⟨"FootNotesModel", "pageHere", "()I"⟩, 51)]
theorem lw_r7 : ∀ q ∈ lw_privs_7, lw_okq q := List.forall_mem_cons.mpr ⟨lw_p96, List.forall_mem_cons.mpr ⟨lw_p97, List.forall_mem_cons.mpr ⟨lw_p98, List.forall_mem_cons.mpr ⟨lw_p99, List.forall_mem_cons.mpr ⟨lw_p100, List.forall_mem_cons.mpr ⟨lw_p101, List.forall_mem_cons.mpr ⟨lw_p102, List.forall_mem_cons.mpr ⟨lw_p103, List.forall_mem_cons.mpr ⟨lw_p104, List.forall_mem_cons.mpr ⟨lw_p105, List.forall_mem_cons.mpr ⟨lw_p106, List.forall_mem_cons.mpr ⟨lw_p107, List.forall_mem_cons.mpr ⟨lw_p108, List.forall_mem_cons.mpr ⟨lw_p109, List.forall_mem_cons.mpr ⟨lw_p110, List.forall_mem_cons.mpr ⟨lw_p111, fun _ h => absurd h List.not_mem_nil⟩⟩⟩⟩⟩⟩⟩⟩⟩⟩⟩⟩⟩⟩⟩⟩
theorem lw_p112 : lw_okq (⟨"FootNotesModel", "scholarHere", "()I"⟩, 51) := ⟨⟨by decide +kernel, by decide +kernel⟩, List.mem_of_getElem? (i := 1229) (by decide +kernel), List.mem_of_getElem? (i := 1518) (by decide +kernel), List.mem_of_getElem? (i := 1519) (by decide +kernel)⟩
theorem lw_p113 : lw_okq (⟨"FootNotesModel", "ends", "()V"⟩, 51) := ⟨⟨by decide +kernel, by decide +kernel⟩, List.mem_of_getElem? (i := 1229) (by decide +kernel), List.mem_of_getElem? (i := 1522) (by decide +kernel), List.mem_of_getElem? (i := 1523) (by decide +kernel)⟩
theorem lw_p114 : lw_okq (⟨"FootNotesModel", "isOver", "()V"⟩, 51) := ⟨⟨by decide +kernel, by decide +kernel⟩, List.mem_of_getElem? (i := 1229) (by decide +kernel), List.mem_of_getElem? (i := 1526) (by decide +kernel), List.mem_of_getElem? (i := 1527) (by decide +kernel)⟩
theorem lw_p115 : lw_okq (⟨"FootNotesModel", "copyTown", "(II)V"⟩, 51) := ⟨⟨by decide +kernel, by decide +kernel⟩, List.mem_of_getElem? (i := 1229) (by decide +kernel), List.mem_of_getElem? (i := 1530) (by decide +kernel), List.mem_of_getElem? (i := 1531) (by decide +kernel)⟩
theorem lw_p116 : lw_okq (⟨"FootNotesModel", "isPage", "(J)Z"⟩, 51) := ⟨⟨by decide +kernel, by decide +kernel⟩, List.mem_of_getElem? (i := 1229) (by decide +kernel), List.mem_of_getElem? (i := 1541) (by decide +kernel), List.mem_of_getElem? (i := 1542) (by decide +kernel)⟩
theorem lw_p117 : lw_okq (⟨"FootNotesModel", "laysNow", "()V"⟩, 51) := ⟨⟨by decide +kernel, by decide +kernel⟩, List.mem_of_getElem? (i := 1229) (by decide +kernel), List.mem_of_getElem? (i := 1545) (by decide +kernel), List.mem_of_getElem? (i := 1546) (by decide +kernel)⟩
theorem lw_p118 : lw_okq (⟨"FootNotesModel", "lays", "(I)V"⟩, 51) := ⟨⟨by decide +kernel, by decide +kernel⟩, List.mem_of_getElem? (i := 1229) (by decide +kernel), List.mem_of_getElem? (i := 1549) (by decide +kernel), List.mem_of_getElem? (i := 1550) (by decide +kernel)⟩
theorem lw_p119 : lw_okq (⟨"FootNotesModel", "does", "(III)V"⟩, 51) := ⟨⟨by decide +kernel, by decide +kernel⟩, List.mem_of_getElem? (i := 1229) (by decide +kernel), List.mem_of_getElem? (i := 1553) (by decide +kernel), List.mem_of_getElem? (i := 1554) (by decide +kernel)⟩
theorem lw_p120 : lw_okq (⟨"FootNotesModel", "laysLeads", "()V"⟩, 51) := ⟨⟨by decide +kernel, by decide +kernel⟩, List.mem_of_getElem? (i := 1229) (by decide +kernel), List.mem_of_getElem? (i := 1557) (by decide +kernel), List.mem_of_getElem? (i := 1558) (by decide +kernel)⟩
theorem lw_p121 : lw_okq (⟨"FootNotesModel", "laysOuts", "()V"⟩, 51) := ⟨⟨by decide +kernel, by decide +kernel⟩, List.mem_of_getElem? (i := 1229) (by decide +kernel), List.mem_of_getElem? (i := 1561) (by decide +kernel), List.mem_of_getElem? (i := 1562) (by decide +kernel)⟩
theorem lw_p122 : lw_okq (⟨"FootNotesModel", "isBook", "(I)Z"⟩, 51) := ⟨⟨by decide +kernel, by decide +kernel⟩, List.mem_of_getElem? (i := 1229) (by decide +kernel), List.mem_of_getElem? (i := 1569) (by decide +kernel), List.mem_of_getElem? (i := 1570) (by decide +kernel)⟩
theorem lw_p123 : lw_okq (⟨"FootNotesModel", "isNote", "(I)Z"⟩, 51) := ⟨⟨by decide +kernel, by decide +kernel⟩, List.mem_of_getElem? (i := 1229) (by decide +kernel), List.mem_of_getElem? (i := 1581) (by decide +kernel), List.mem_of_getElem? (i := 1582) (by decide +kernel)⟩
theorem lw_p124 : lw_okq (⟨"FootNotesModel", "isTown", "()Z"⟩, 51) := ⟨⟨by decide +kernel, by decide +kernel⟩, List.mem_of_getElem? (i := 1229) (by decide +kernel), List.mem_of_getElem? (i := 1597) (by decide +kernel), List.mem_of_getElem? (i := 1598) (by decide +kernel)⟩
theorem lw_p125 : lw_okq (⟨"FootNotesModel", "acts", "(III)V"⟩, 51) := ⟨⟨by decide +kernel, by decide +kernel⟩, List.mem_of_getElem? (i := 1229) (by decide +kernel), List.mem_of_getElem? (i := 1605) (by decide +kernel), List.mem_of_getElem? (i := 1606) (by decide +kernel)⟩
theorem lw_p126 : lw_okq (⟨"FootNotesModel", "reachOf", "(I)I"⟩, 51) := ⟨⟨by decide +kernel, by decide +kernel⟩, List.mem_of_getElem? (i := 1229) (by decide +kernel), List.mem_of_getElem? (i := 1630) (by decide +kernel), List.mem_of_getElem? (i := 1631) (by decide +kernel)⟩
theorem lw_p127 : lw_okq (⟨"FootNotesModel", "goes", "(II)V"⟩, 51) := ⟨⟨by decide +kernel, by decide +kernel⟩, List.mem_of_getElem? (i := 1229) (by decide +kernel), List.mem_of_getElem? (i := 1634) (by decide +kernel), List.mem_of_getElem? (i := 1635) (by decide +kernel)⟩
def lw_privs_8 : List (MethodName × Nat) := [(⟨"FootNotesModel", "scholarHere", "()I"⟩, 51), (⟨"FootNotesModel", "ends", "()V"⟩, 51), (⟨"FootNotesModel", "isOver", "()V"⟩, 51), (⟨"FootNotesModel", "copyTown", "(II)V"⟩, 51), (⟨"FootNotesModel", "isPage", "(J)Z"⟩, 51), (⟨"FootNotesModel", "laysNow", "()V"⟩, 51), (⟨"FootNotesModel", "lays", "(I)V"⟩, 51), (⟨"FootNotesModel", "does", "(III)V"⟩, 51), (⟨"FootNotesModel", "laysLeads", "()V"⟩, 51), (⟨"FootNotesModel", "laysOuts", "()V"⟩, 51), (⟨"FootNotesModel", "isBook", "(I)Z"⟩, 51), (⟨"FootNotesModel", "isNote", "(I)Z"⟩, 51), (⟨"FootNotesModel", "isTown", "()Z"⟩, 51), (⟨"FootNotesModel", "acts", "(III)V"⟩, 51), (⟨"FootNotesModel", "reachOf", "(I)I"⟩, 51), (⟨"FootNotesModel", "goes", "(II)V"⟩, 51)]
theorem lw_r8 : ∀ q ∈ lw_privs_8, lw_okq q := List.forall_mem_cons.mpr ⟨lw_p112, List.forall_mem_cons.mpr ⟨lw_p113, List.forall_mem_cons.mpr ⟨lw_p114, List.forall_mem_cons.mpr ⟨lw_p115, List.forall_mem_cons.mpr ⟨lw_p116, List.forall_mem_cons.mpr ⟨lw_p117, List.forall_mem_cons.mpr ⟨lw_p118, List.forall_mem_cons.mpr ⟨lw_p119, List.forall_mem_cons.mpr ⟨lw_p120, List.forall_mem_cons.mpr ⟨lw_p121, List.forall_mem_cons.mpr ⟨lw_p122, List.forall_mem_cons.mpr ⟨lw_p123, List.forall_mem_cons.mpr ⟨lw_p124, List.forall_mem_cons.mpr ⟨lw_p125, List.forall_mem_cons.mpr ⟨lw_p126, List.forall_mem_cons.mpr ⟨lw_p127, fun _ h => absurd h List.not_mem_nil⟩⟩⟩⟩⟩⟩⟩⟩⟩⟩⟩⟩⟩⟩⟩⟩
theorem lw_p128 : lw_okq (⟨"FootNotesModel", "uponOf", "(I)I"⟩, 51) := ⟨⟨by decide +kernel, by decide +kernel⟩, List.mem_of_getElem? (i := 1229) (by decide +kernel), List.mem_of_getElem? (i := 1642) (by decide +kernel), List.mem_of_getElem? (i := 1643) (by decide +kernel)⟩
theorem lw_p129 : lw_okq (⟨"FootNotesModel", "wayOf", "(II)I"⟩, 51) := ⟨⟨by decide +kernel, by decide +kernel⟩, List.mem_of_getElem? (i := 1229) (by decide +kernel), List.mem_of_getElem? (i := 1662) (by decide +kernel), List.mem_of_getElem? (i := 1663) (by decide +kernel)⟩
theorem lw_p130 : lw_okq (⟨"FootNotesModel", "depthOf", "(I)I"⟩, 51) := ⟨⟨by decide +kernel, by decide +kernel⟩, List.mem_of_getElem? (i := 1229) (by decide +kernel), List.mem_of_getElem? (i := 1674) (by decide +kernel), List.mem_of_getElem? (i := 1675) (by decide +kernel)⟩
theorem lw_p131 : lw_okq (⟨"FootNotesModel", "groundedBut", "(I)I"⟩, 51) := ⟨⟨by decide +kernel, by decide +kernel⟩, List.mem_of_getElem? (i := 1229) (by decide +kernel), List.mem_of_getElem? (i := 1686) (by decide +kernel), List.mem_of_getElem? (i := 1687) (by decide +kernel)⟩
theorem lw_p132 : lw_okq (⟨"FootNotesModel", "lossOf", "(I)I"⟩, 51) := ⟨⟨by decide +kernel, by decide +kernel⟩, List.mem_of_getElem? (i := 1229) (by decide +kernel), List.mem_of_getElem? (i := 1698) (by decide +kernel), List.mem_of_getElem? (i := 1699) (by decide +kernel)⟩
theorem lw_p133 : lw_okq (⟨"FootNotesModel", "cutOf", "(I)I"⟩, 51) := ⟨⟨by decide +kernel, by decide +kernel⟩, List.mem_of_getElem? (i := 1229) (by decide +kernel), List.mem_of_getElem? (i := 1713) (by decide +kernel), List.mem_of_getElem? (i := 1714) (by decide +kernel)⟩
theorem lw_p134 : lw_okq (⟨"FootNotesModel", "all", "()I"⟩, 51) := ⟨⟨by decide +kernel, by decide +kernel⟩, List.mem_of_getElem? (i := 1229) (by decide +kernel), List.mem_of_getElem? (i := 1717) (by decide +kernel), List.mem_of_getElem? (i := 1718) (by decide +kernel)⟩
theorem lw_p135 : lw_okq (⟨"FootNotesModel", "isSet", "(I)Z"⟩, 51) := ⟨⟨by decide +kernel, by decide +kernel⟩, List.mem_of_getElem? (i := 1229) (by decide +kernel), List.mem_of_getElem? (i := 1729) (by decide +kernel), List.mem_of_getElem? (i := 1730) (by decide +kernel)⟩
theorem lw_p136 : lw_okq (⟨"FootNotesModel", "brokenOf", "(I)I"⟩, 51) := ⟨⟨by decide +kernel, by decide +kernel⟩, List.mem_of_getElem? (i := 1229) (by decide +kernel), List.mem_of_getElem? (i := 1733) (by decide +kernel), List.mem_of_getElem? (i := 1734) (by decide +kernel)⟩
theorem lw_p137 : lw_okq (⟨"FootNotesModel", "laysWays", "()V"⟩, 51) := ⟨⟨by decide +kernel, by decide +kernel⟩, List.mem_of_getElem? (i := 1229) (by decide +kernel), List.mem_of_getElem? (i := 1741) (by decide +kernel), List.mem_of_getElem? (i := 1742) (by decide +kernel)⟩
theorem lw_p138 : lw_okq (⟨"FootNotesModel", "looseSet", "(I)I"⟩, 51) := ⟨⟨by decide +kernel, by decide +kernel⟩, List.mem_of_getElem? (i := 1229) (by decide +kernel), List.mem_of_getElem? (i := 1761) (by decide +kernel), List.mem_of_getElem? (i := 1762) (by decide +kernel)⟩
theorem lw_p139 : lw_okq (⟨"FootNotesModel", "turnsFrom", "(I)V"⟩, 51) := ⟨⟨by decide +kernel, by decide +kernel⟩, List.mem_of_getElem? (i := 1229) (by decide +kernel), List.mem_of_getElem? (i := 1773) (by decide +kernel), List.mem_of_getElem? (i := 1774) (by decide +kernel)⟩
theorem lw_p140 : lw_okq (⟨"FootNotesModel", "spreads", "(II)Z"⟩, 51) := ⟨⟨by decide +kernel, by decide +kernel⟩, List.mem_of_getElem? (i := 1229) (by decide +kernel), List.mem_of_getElem? (i := 1777) (by decide +kernel), List.mem_of_getElem? (i := 1778) (by decide +kernel)⟩
theorem lw_p141 : lw_okq (⟨"FootNotesModel", "betters", "(II)Z"⟩, 51) := ⟨⟨by decide +kernel, by decide +kernel⟩, List.mem_of_getElem? (i := 1229) (by decide +kernel), List.mem_of_getElem? (i := 1781) (by decide +kernel), List.mem_of_getElem? (i := 1782) (by decide +kernel)⟩
theorem lw_p142 : lw_okq (⟨"FootNotesModel", "turnsTo", "(I)I"⟩, 51) := ⟨⟨by decide +kernel, by decide +kernel⟩, List.mem_of_getElem? (i := 1229) (by decide +kernel), List.mem_of_getElem? (i := 1785) (by decide +kernel), List.mem_of_getElem? (i := 1786) (by decide +kernel)⟩
theorem lw_p143 : lw_okq (⟨"FootNotesModel", "whyNot", "(II)I"⟩, 51) := ⟨⟨by decide +kernel, by decide +kernel⟩, List.mem_of_getElem? (i := 1229) (by decide +kernel), List.mem_of_getElem? (i := 1793) (by decide +kernel), List.mem_of_getElem? (i := 1794) (by decide +kernel)⟩
def lw_privs_9 : List (MethodName × Nat) := [(⟨"FootNotesModel", "uponOf", "(I)I"⟩, 51), (⟨"FootNotesModel", "wayOf", "(II)I"⟩, 51), (⟨"FootNotesModel", "depthOf", "(I)I"⟩, 51), (⟨"FootNotesModel", "groundedBut", "(I)I"⟩, 51), (⟨"FootNotesModel", "lossOf", "(I)I"⟩, 51), (⟨"FootNotesModel", "cutOf", "(I)I"⟩, 51), (⟨"FootNotesModel", "all", "()I"⟩, 51), (⟨"FootNotesModel", "isSet", "(I)Z"⟩, 51), (⟨"FootNotesModel", "brokenOf", "(I)I"⟩, 51), (⟨"FootNotesModel", "laysWays", "()V"⟩, 51), (⟨"FootNotesModel", "looseSet", "(I)I"⟩, 51), (⟨"FootNotesModel", "turnsFrom", "(I)V"⟩, 51), (⟨"FootNotesModel", "spreads", "(II)Z"⟩, 51), (⟨"FootNotesModel", "betters", "(II)Z"⟩, 51), (⟨"FootNotesModel", "turnsTo", "(I)I"⟩, 51), (⟨"FootNotesModel", "whyNot", "(II)I"⟩, 51)]
theorem lw_r9 : ∀ q ∈ lw_privs_9, lw_okq q := List.forall_mem_cons.mpr ⟨lw_p128, List.forall_mem_cons.mpr ⟨lw_p129, List.forall_mem_cons.mpr ⟨lw_p130, List.forall_mem_cons.mpr ⟨lw_p131, List.forall_mem_cons.mpr ⟨lw_p132, List.forall_mem_cons.mpr ⟨lw_p133, List.forall_mem_cons.mpr ⟨lw_p134, List.forall_mem_cons.mpr ⟨lw_p135, List.forall_mem_cons.mpr ⟨lw_p136, List.forall_mem_cons.mpr ⟨lw_p137, List.forall_mem_cons.mpr ⟨lw_p138, List.forall_mem_cons.mpr ⟨lw_p139, List.forall_mem_cons.mpr ⟨lw_p140, List.forall_mem_cons.mpr ⟨lw_p141, List.forall_mem_cons.mpr ⟨lw_p142, List.forall_mem_cons.mpr ⟨lw_p143, fun _ h => absurd h List.not_mem_nil⟩⟩⟩⟩⟩⟩⟩⟩⟩⟩⟩⟩⟩⟩⟩⟩
theorem lw_p144 : lw_okq (⟨"FootNotesModel", "laysRead", "(II)Z"⟩, 51) := ⟨⟨by decide +kernel, by decide +kernel⟩, List.mem_of_getElem? (i := 1229) (by decide +kernel), List.mem_of_getElem? (i := 1797) (by decide +kernel), List.mem_of_getElem? (i := 1798) (by decide +kernel)⟩
theorem lw_p145 : lw_okq (⟨"FootNotesModel", "cellOf", "(II)I"⟩, 51) := ⟨⟨by decide +kernel, by decide +kernel⟩, List.mem_of_getElem? (i := 1229) (by decide +kernel), List.mem_of_getElem? (i := 1801) (by decide +kernel), List.mem_of_getElem? (i := 1802) (by decide +kernel)⟩
theorem lw_p146 : lw_okq (⟨"FootNotesModel", "readBy", "(III)I"⟩, 51) := ⟨⟨by decide +kernel, by decide +kernel⟩, List.mem_of_getElem? (i := 1229) (by decide +kernel), List.mem_of_getElem? (i := 1805) (by decide +kernel), List.mem_of_getElem? (i := 1806) (by decide +kernel)⟩
theorem lw_p147 : lw_okq (⟨"FootNotesModel", "laysShared", "(I)V"⟩, 51) := ⟨⟨by decide +kernel, by decide +kernel⟩, List.mem_of_getElem? (i := 1229) (by decide +kernel), List.mem_of_getElem? (i := 1817) (by decide +kernel), List.mem_of_getElem? (i := 1818) (by decide +kernel)⟩
theorem lw_p148 : lw_okq (⟨"FootNotesModel", "laysOrders", "()V"⟩, 51) := ⟨⟨by decide +kernel, by decide +kernel⟩, List.mem_of_getElem? (i := 1229) (by decide +kernel), List.mem_of_getElem? (i := 1829) (by decide +kernel), List.mem_of_getElem? (i := 1830) (by decide +kernel)⟩
theorem lw_p149 : lw_okq (⟨"FootNotesModel", "puts", "(II)V"⟩, 51) := ⟨⟨by decide +kernel, by decide +kernel⟩, List.mem_of_getElem? (i := 1229) (by decide +kernel), List.mem_of_getElem? (i := 1833) (by decide +kernel), List.mem_of_getElem? (i := 1834) (by decide +kernel)⟩
theorem lw_p150 : lw_okq (⟨"FootNotesModel", "placeOf", "(I)I"⟩, 51) := ⟨⟨by decide +kernel, by decide +kernel⟩, List.mem_of_getElem? (i := 1229) (by decide +kernel), List.mem_of_getElem? (i := 1837) (by decide +kernel), List.mem_of_getElem? (i := 1838) (by decide +kernel)⟩
theorem lw_p151 : lw_okq (⟨"FootNotesModel", "laysWorth", "(I)V"⟩, 51) := ⟨⟨by decide +kernel, by decide +kernel⟩, List.mem_of_getElem? (i := 1229) (by decide +kernel), List.mem_of_getElem? (i := 1854) (by decide +kernel), List.mem_of_getElem? (i := 1855) (by decide +kernel)⟩
theorem lw_p152 : lw_okq (⟨"FootNotesModel", "gives", "()Z"⟩, 51) := ⟨⟨by decide +kernel, by decide +kernel⟩, List.mem_of_getElem? (i := 1229) (by decide +kernel), List.mem_of_getElem? (i := 1858) (by decide +kernel), List.mem_of_getElem? (i := 1859) (by decide +kernel)⟩
theorem lw_p153 : lw_okq (⟨"FootNotesModel", "areTwo", "(II)Z"⟩, 51) := ⟨⟨by decide +kernel, by decide +kernel⟩, List.mem_of_getElem? (i := 1229) (by decide +kernel), List.mem_of_getElem? (i := 1874) (by decide +kernel), List.mem_of_getElem? (i := 1875) (by decide +kernel)⟩
theorem lw_p154 : lw_okq (⟨"FootNotesModel", "laysMeets", "(II)V"⟩, 51) := ⟨⟨by decide +kernel, by decide +kernel⟩, List.mem_of_getElem? (i := 1229) (by decide +kernel), List.mem_of_getElem? (i := 1878) (by decide +kernel), List.mem_of_getElem? (i := 1879) (by decide +kernel)⟩
theorem lw_p155 : lw_okq (⟨"FootNotesModel", "citedOf", "(I)I"⟩, 51) := ⟨⟨by decide +kernel, by decide +kernel⟩, List.mem_of_getElem? (i := 1229) (by decide +kernel), List.mem_of_getElem? (i := 1898) (by decide +kernel), List.mem_of_getElem? (i := 1899) (by decide +kernel)⟩
theorem lw_p156 : lw_okq (⟨"FootNotesModel", "scholarOf", "(I)I"⟩, 51) := ⟨⟨by decide +kernel, by decide +kernel⟩, List.mem_of_getElem? (i := 1229) (by decide +kernel), List.mem_of_getElem? (i := 1902) (by decide +kernel), List.mem_of_getElem? (i := 1903) (by decide +kernel)⟩
theorem lw_p157 : lw_okq (⟨"FootNotesModel", "isSeed", "(I)Z"⟩, 51) := ⟨⟨by decide +kernel, by decide +kernel⟩, List.mem_of_getElem? (i := 1229) (by decide +kernel), List.mem_of_getElem? (i := 1918) (by decide +kernel), List.mem_of_getElem? (i := 1919) (by decide +kernel)⟩
theorem lw_p158 : lw_okq (⟨"FootNotesModel", "drawnOf", "(J)I"⟩, 51) := ⟨⟨by decide +kernel, by decide +kernel⟩, List.mem_of_getElem? (i := 1229) (by decide +kernel), List.mem_of_getElem? (i := 1923) (by decide +kernel), List.mem_of_getElem? (i := 1924) (by decide +kernel)⟩
def lw_privs_10 : List (MethodName × Nat) := [(⟨"FootNotesModel", "laysRead", "(II)Z"⟩, 51), (⟨"FootNotesModel", "cellOf", "(II)I"⟩, 51), (⟨"FootNotesModel", "readBy", "(III)I"⟩, 51), (⟨"FootNotesModel", "laysShared", "(I)V"⟩, 51), (⟨"FootNotesModel", "laysOrders", "()V"⟩, 51), (⟨"FootNotesModel", "puts", "(II)V"⟩, 51), (⟨"FootNotesModel", "placeOf", "(I)I"⟩, 51), (⟨"FootNotesModel", "laysWorth", "(I)V"⟩, 51), (⟨"FootNotesModel", "gives", "()Z"⟩, 51), (⟨"FootNotesModel", "areTwo", "(II)Z"⟩, 51), (⟨"FootNotesModel", "laysMeets", "(II)V"⟩, 51), (⟨"FootNotesModel", "citedOf", "(I)I"⟩, 51), (⟨"FootNotesModel", "scholarOf", "(I)I"⟩, 51), (⟨"FootNotesModel", "isSeed", "(I)Z"⟩, 51), (⟨"FootNotesModel", "drawnOf", "(J)I"⟩, 51)]
theorem lw_r10 : ∀ q ∈ lw_privs_10, lw_okq q := List.forall_mem_cons.mpr ⟨lw_p144, List.forall_mem_cons.mpr ⟨lw_p145, List.forall_mem_cons.mpr ⟨lw_p146, List.forall_mem_cons.mpr ⟨lw_p147, List.forall_mem_cons.mpr ⟨lw_p148, List.forall_mem_cons.mpr ⟨lw_p149, List.forall_mem_cons.mpr ⟨lw_p150, List.forall_mem_cons.mpr ⟨lw_p151, List.forall_mem_cons.mpr ⟨lw_p152, List.forall_mem_cons.mpr ⟨lw_p153, List.forall_mem_cons.mpr ⟨lw_p154, List.forall_mem_cons.mpr ⟨lw_p155, List.forall_mem_cons.mpr ⟨lw_p156, List.forall_mem_cons.mpr ⟨lw_p157, List.forall_mem_cons.mpr ⟨lw_p158, fun _ h => absurd h List.not_mem_nil⟩⟩⟩⟩⟩⟩⟩⟩⟩⟩⟩⟩⟩⟩⟩
def lw_privs : List (MethodName × Nat) := lw_privs_1 ++ (lw_privs_2 ++ (lw_privs_3 ++ (lw_privs_4 ++ (lw_privs_5 ++ (lw_privs_6 ++ (lw_privs_7 ++ (lw_privs_8 ++ (lw_privs_9 ++ (lw_privs_10)))))))))
def lw_tbl : List Cond := k2_sels lw_privs ++ tables_1
theorem lw_privs_ok : ∀ q ∈ lw_privs, lw_okq q := by
  show ∀ q ∈ lw_privs_1 ++ (lw_privs_2 ++ (lw_privs_3 ++ (lw_privs_4 ++ (lw_privs_5 ++ (lw_privs_6 ++ (lw_privs_7 ++ (lw_privs_8 ++ (lw_privs_9 ++ (lw_privs_10))))))))), lw_okq q
  exact List.forall_mem_append.mpr ⟨lw_r1, List.forall_mem_append.mpr ⟨lw_r2, List.forall_mem_append.mpr ⟨lw_r3, List.forall_mem_append.mpr ⟨lw_r4, List.forall_mem_append.mpr ⟨lw_r5, List.forall_mem_append.mpr ⟨lw_r6, List.forall_mem_append.mpr ⟨lw_r7, List.forall_mem_append.mpr ⟨lw_r8, List.forall_mem_append.mpr ⟨lw_r9, lw_r10⟩⟩⟩⟩⟩⟩⟩⟩⟩
end
section
/-! ===== BEGIN words of one list among another's, by their places ===== -/
theorem goodIn_r {big : List Cond} (ws : List Cond) (ps : List Nat) (hp : ws = ps.filterMap (fun i => big[i]?)) (h : ws.all goodWord = true) : GoodIn big ws := by
  intro w hw
  have h1 := List.all_eq_true.mp h w hw
  rw [hp] at hw
  obtain ⟨i, -, hi⟩ := List.mem_filterMap.mp hw
  have hm : w ∈ big := by first | exact List.mem_of_getElem? hi | exact List.getElem?_mem hi
  exact ⟨hm, good_of_word h1⟩
theorem goodIn_app {big a b : List Cond} (ha : GoodIn big a) (hb : GoodIn big b) : GoodIn big (a ++ b) := fun w h => (List.mem_append.mp h).elim (ha w) (hb w)
theorem goodIn_ca {big a b : List Cond} {c : Cond} (ha : GoodIn big (c :: a)) (hb : GoodIn big b) : GoodIn big (c :: (a ++ b)) := fun w h => (List.mem_cons.mp h).elim (fun e => ha w (List.mem_cons.mpr (Or.inl e))) (fun h => (List.mem_append.mp h).elim (fun h => ha w (List.mem_cons.mpr (Or.inr h))) (hb w))
theorem goodIn_sub {big ws : List Cond} (hm : ∀ w ∈ ws, w ∈ big) (h : ws.all goodWord = true) : GoodIn big ws := fun w hw => ⟨hm w hw, good_of_word (List.all_eq_true.mp h w hw)⟩
/-! ===== END ===== -/

/-! ===== BEGIN printed: names, fields, word lists, decode rows ===== -/
def RX0 : String := "FootNotes$Faith"
def TX0 : u_T := fun k => match k with
  | 0 => ("FootNotes$Faith", "full", "I", false)
  | 1 => ("FootNotes$Faith", "facts", "I", false)
  | 2 => ("FootNotes$Faith", "notes", "I", false)
  | 3 => ("FootNotes$Faith", "from", "[I", true)
  | 4 => ("FootNotes$Faith", "to", "[I", true)
  | 5 => ("FootNotes$Faith", "wanted", "[I", true)
  | 6 => ("FootNotes$Faith", "found", "I", false)
  | 7 => ("FootNotes$Faith", "largest", "I", false)
  | 8 => ("FootNotes$Faith", "inAll", "I", false)
  | 9 => ("FootNotes$Faith", "inNone", "I", false)
  | 10 => ("FootNotes$Faith", "fewestDropped", "I", false)
  | _ => ("FootNotes$Faith", "loosestSet", "I", false)
def tyX0 : Nat → FieldType := fun k => match k with
  | 0 => .int
  | 1 => .int
  | 2 => .int
  | 3 => .array .int
  | 4 => .array .int
  | 5 => .array .int
  | 6 => .int
  | 7 => .int
  | 8 => .int
  | 9 => .int
  | 10 => .int
  | _ => .int
abbrev wsX00 : List Cond := u_ws RX0 TX0 12
theorem nmX0 : ∀ a, a < 12 → ∀ b, b < 12 → a ≠ b → (TX0 a).2.1 ≠ (TX0 b).2.1 := by decide +kernel
theorem tyX0_ok : ∀ k, k < 12 → parseFieldDescriptor (TX0 k).2.2.1 = some (tyX0 k) := by decide +kernel
abbrev cX0_init : ByteArray := prog_2_method_1_code
def yX0_init : MethodName := ⟨RX0, "<init>", "()V"⟩
abbrev cX0_take : ByteArray := prog_2_method_2_code
def yX0_take : MethodName := ⟨RX0, "take", "(LFootNotes$Text;LFootNotes$Web;)V"⟩
abbrev cX0_canHold : ByteArray := prog_2_method_3_code
def yX0_canHold : MethodName := ⟨RX0, "canHold", "(I)Z"⟩
abbrev cX0_broken : ByteArray := prog_2_method_4_code
def yX0_broken : MethodName := ⟨RX0, "broken", "(II)I"⟩
abbrev cX0_searchWays : ByteArray := prog_2_method_5_code
def yX0_searchWays : MethodName := ⟨RX0, "searchWays", "()V"⟩
abbrev cX0_searchLoosest : ByteArray := prog_2_method_6_code
def yX0_searchLoosest : MethodName := ⟨RX0, "searchLoosest", "(I)V"⟩
def RX1 : String := "FootNotes$Ledger"
def TX1 : u_T := fun k => match k with
  | 0 => ("FootNotes$Ledger", "purse", "[I", true)
  | 1 => ("FootNotes$Ledger", "parts", "[I", true)
  | 2 => ("FootNotes$Ledger", "share", "[I", true)
  | _ => ("FootNotes$Ledger", "gain", "[I", true)
def tyX1 : Nat → FieldType := fun k => match k with
  | 0 => .array .int
  | 1 => .array .int
  | 2 => .array .int
  | _ => .array .int
abbrev wsX10 : List Cond := u_ws RX1 TX1 4
theorem nmX1 : ∀ a, a < 4 → ∀ b, b < 4 → a ≠ b → (TX1 a).2.1 ≠ (TX1 b).2.1 := by decide +kernel
theorem tyX1_ok : ∀ k, k < 4 → parseFieldDescriptor (TX1 k).2.2.1 = some (tyX1 k) := by decide +kernel
abbrev cX1_init : ByteArray := prog_3_method_1_code
def yX1_init : MethodName := ⟨RX1, "<init>", "()V"⟩
abbrev cX1_open : ByteArray := prog_3_method_2_code
def yX1_open : MethodName := ⟨RX1, "open", "(LFootNotes$Text;LFootNotes$Web;)V"⟩
abbrev cX1_runRounds : ByteArray := prog_3_method_3_code
def yX1_runRounds : MethodName := ⟨RX1, "runRounds", "(LFootNotes$Text;LFootNotes$Web;I)V"⟩
abbrev cX1_roundChanges : ByteArray := prog_3_method_4_code
def yX1_roundChanges : MethodName := ⟨RX1, "roundChanges", "(LFootNotes$Text;LFootNotes$Web;)Z"⟩
def RX2 : String := "FootNotes$Precedence"
def TX2 : u_T := fun k => match k with
  | 0 => ("FootNotes$Precedence", "books", "I", false)
  | 1 => ("FootNotes$Precedence", "sent", "[I", true)
  | 2 => ("FootNotes$Precedence", "tried", "[I", true)
  | 3 => ("FootNotes$Precedence", "best", "[I", true)
  | 4 => ("FootNotes$Precedence", "fewest", "I", false)
  | _ => ("FootNotes$Precedence", "found", "I", false)
def tyX2 : Nat → FieldType := fun k => match k with
  | 0 => .int
  | 1 => .array .int
  | 2 => .array .int
  | 3 => .array .int
  | 4 => .int
  | _ => .int
abbrev wsX20 : List Cond := u_ws RX2 TX2 6
theorem nmX2 : ∀ a, a < 6 → ∀ b, b < 6 → a ≠ b → (TX2 a).2.1 ≠ (TX2 b).2.1 := by decide +kernel
theorem tyX2_ok : ∀ k, k < 6 → parseFieldDescriptor (TX2 k).2.2.1 = some (tyX2 k) := by decide +kernel
abbrev cX2_init : ByteArray := prog_4_method_1_code
def yX2_init : MethodName := ⟨RX2, "<init>", "()V"⟩
abbrev cX2_search : ByteArray := prog_4_method_2_code
def yX2_search : MethodName := ⟨RX2, "search", "(LFootNotes$Text;LFootNotes$Web;)V"⟩
abbrev cX2_tally : ByteArray := prog_4_method_3_code
def yX2_tally : MethodName := ⟨RX2, "tally", "(LFootNotes$Text;LFootNotes$Web;)V"⟩
abbrev cX2_weighTried : ByteArray := prog_4_method_4_code
def yX2_weighTried : MethodName := ⟨RX2, "weighTried", "()V"⟩
abbrev cX2_moveToNextOrder : ByteArray := prog_4_method_5_code
def yX2_moveToNextOrder : MethodName := ⟨RX2, "moveToNextOrder", "()Z"⟩
abbrev cX2_swap : ByteArray := prog_4_method_6_code
def yX2_swap : MethodName := ⟨RX2, "swap", "(II)V"⟩
def RX3 : String := "FootNotes$Reader"
def TX3 : u_T := fun k => match k with
  | 0 => ("FootNotes$Reader", "tape", "LFootNotes$Tape;", true)
  | 1 => ("FootNotes$Reader", "told", "LFootNotes$Text;", true)
  | 2 => ("FootNotes$Reader", "fault", "I", false)
  | _ => ("FootNotes$Reader", "faultPlace", "I", false)
def tyX3 : Nat → FieldType := fun k => match k with
  | 0 => .object "FootNotes$Tape"
  | 1 => .object "FootNotes$Text"
  | 2 => .int
  | _ => .int
abbrev wsX30 : List Cond := u_ws RX3 TX3 4
theorem nmX3 : ∀ a, a < 4 → ∀ b, b < 4 → a ≠ b → (TX3 a).2.1 ≠ (TX3 b).2.1 := by decide +kernel
theorem tyX3_ok : ∀ k, k < 4 → parseFieldDescriptor (TX3 k).2.2.1 = some (tyX3 k) := by decide +kernel
abbrev cX3_init : ByteArray := prog_5_method_1_code
def yX3_init : MethodName := ⟨RX3, "<init>", "()V"⟩
abbrev cX3_readLines : ByteArray := prog_5_method_2_code
def yX3_readLines : MethodName := ⟨RX3, "readLines", "()V"⟩
abbrev cX3_readLine : ByteArray := prog_5_method_3_code
def yX3_readLine : MethodName := ⟨RX3, "readLine", "()V"⟩
abbrev cX3_readTown : ByteArray := prog_5_method_4_code
def yX3_readTown : MethodName := ⟨RX3, "readTown", "()V"⟩
abbrev cX3_readBook : ByteArray := prog_5_method_5_code
def yX3_readBook : MethodName := ⟨RX3, "readBook", "()V"⟩
abbrev cX3_readNote : ByteArray := prog_5_method_6_code
def yX3_readNote : MethodName := ⟨RX3, "readNote", "()V"⟩
abbrev cX3_takeNewMember : ByteArray := prog_5_method_7_code
def yX3_takeNewMember : MethodName := ⟨RX3, "takeNewMember", "(II)I"⟩
abbrev cX3_takeWord : ByteArray := prog_5_method_8_code
def yX3_takeWord : MethodName := ⟨RX3, "takeWord", "(Ljava/lang/String;)V"⟩
abbrev cX3_takeSign : ByteArray := prog_5_method_9_code
def yX3_takeSign : MethodName := ⟨RX3, "takeSign", "()V"⟩
abbrev cX3_takeNumber : ByteArray := prog_5_method_10_code
def yX3_takeNumber : MethodName := ⟨RX3, "takeNumber", "(II)I"⟩
abbrev cX3_blame : ByteArray := prog_5_method_11_code
def yX3_blame : MethodName := ⟨RX3, "blame", "(II)V"⟩
def RX4 : String := "FootNotes$Row"
def TX4 : u_T := fun k => match k with
  | 0 => ("FootNotes$Row", "present", "Z", false)
  | 1 => ("FootNotes$Row", "width", "I", false)
  | 2 => ("FootNotes$Row", "size", "I", false)
  | _ => ("FootNotes$Row", "numbers", "[J", true)
def tyX4 : Nat → FieldType := fun k => match k with
  | 0 => .boolean
  | 1 => .int
  | 2 => .int
  | _ => .array .long
abbrev wsX40 : List Cond := u_ws RX4 TX4 4
theorem nmX4 : ∀ a, a < 4 → ∀ b, b < 4 → a ≠ b → (TX4 a).2.1 ≠ (TX4 b).2.1 := by decide +kernel
theorem tyX4_ok : ∀ k, k < 4 → parseFieldDescriptor (TX4 k).2.2.1 = some (tyX4 k) := by decide +kernel
abbrev cX4_init : ByteArray := prog_6_method_1_code
def yX4_init : MethodName := ⟨RX4, "<init>", "()V"⟩
abbrev cX4_begin : ByteArray := prog_6_method_2_code
def yX4_begin : MethodName := ⟨RX4, "begin", "(II)V"⟩
abbrev cX4_cutToWidth : ByteArray := prog_6_method_3_code
def yX4_cutToWidth : MethodName := ⟨RX4, "cutToWidth", "(J)J"⟩
abbrev cX4_spans : ByteArray := prog_6_method_4_code
def yX4_spans : MethodName := ⟨RX4, "spans", "(II)Z"⟩
def RX5 : String := "FootNotes$Shelf"
def TX5 : u_T := fun k => match k with
  | 0 => ("FootNotes$Shelf", "acts", "I", false)
  | 1 => ("FootNotes$Shelf", "leafCount", "[I", true)
  | 2 => ("FootNotes$Shelf", "content", "[I", true)
  | 3 => ("FootNotes$Shelf", "says", "[I", true)
  | 4 => ("FootNotes$Shelf", "actKind", "[I", true)
  | 5 => ("FootNotes$Shelf", "actOn", "[I", true)
  | 6 => ("FootNotes$Shelf", "actLeaf", "[I", true)
  | _ => ("FootNotes$Shelf", "actWas", "[I", true)
def tyX5 : Nat → FieldType := fun k => match k with
  | 0 => .int
  | 1 => .array .int
  | 2 => .array .int
  | 3 => .array .int
  | 4 => .array .int
  | 5 => .array .int
  | 6 => .array .int
  | _ => .array .int
abbrev wsX50 : List Cond := u_ws RX5 TX5 8
theorem nmX5 : ∀ a, a < 8 → ∀ b, b < 8 → a ≠ b → (TX5 a).2.1 ≠ (TX5 b).2.1 := by decide +kernel
theorem tyX5_ok : ∀ k, k < 8 → parseFieldDescriptor (TX5 k).2.2.1 = some (tyX5 k) := by decide +kernel
abbrev cX5_init : ByteArray := prog_7_method_1_code
def yX5_init : MethodName := ⟨RX5, "<init>", "()V"⟩
abbrev cX5_lay : ByteArray := prog_7_method_2_code
def yX5_lay : MethodName := ⟨RX5, "lay", "(LFootNotes$Text;)V"⟩
abbrev cX5_copyFrom : ByteArray := prog_7_method_3_code
def yX5_copyFrom : MethodName := ⟨RX5, "copyFrom", "(LFootNotes$Shelf;)V"⟩
abbrev cX5_onLeaf : ByteArray := prog_7_method_4_code
def yX5_onLeaf : MethodName := ⟨RX5, "onLeaf", "(II)I"⟩
abbrev cX5_putBlank : ByteArray := prog_7_method_5_code
def yX5_putBlank : MethodName := ⟨RX5, "putBlank", "(II)V"⟩
abbrev cX5_tearOut : ByteArray := prog_7_method_6_code
def yX5_tearOut : MethodName := ⟨RX5, "tearOut", "(II)V"⟩
abbrev cX5_reprint : ByteArray := prog_7_method_7_code
def yX5_reprint : MethodName := ⟨RX5, "reprint", "(II)V"⟩
abbrev cX5_remember : ByteArray := prog_7_method_8_code
def yX5_remember : MethodName := ⟨RX5, "remember", "(IIII)V"⟩
abbrev cX5_takeBack : ByteArray := prog_7_method_9_code
def yX5_takeBack : MethodName := ⟨RX5, "takeBack", "()V"⟩
abbrev cX5_takeOutLeaf : ByteArray := prog_7_method_10_code
def yX5_takeOutLeaf : MethodName := ⟨RX5, "takeOutLeaf", "(II)V"⟩
def RX6 : String := "FootNotes$Tape"
def TX6 : u_T := fun k => match k with
  | 0 => ("FootNotes$Tape", "size", "I", false)
  | 1 => ("FootNotes$Tape", "bytes", "[B", true)
  | 2 => ("FootNotes$Tape", "kind", "I", false)
  | 3 => ("FootNotes$Tape", "start", "I", false)
  | _ => ("FootNotes$Tape", "stop", "I", false)
def tyX6 : Nat → FieldType := fun k => match k with
  | 0 => .int
  | 1 => .array .byte
  | 2 => .int
  | 3 => .int
  | _ => .int
abbrev wsX60 : List Cond := u_ws RX6 TX6 5
theorem nmX6 : ∀ a, a < 5 → ∀ b, b < 5 → a ≠ b → (TX6 a).2.1 ≠ (TX6 b).2.1 := by decide +kernel
theorem tyX6_ok : ∀ k, k < 5 → parseFieldDescriptor (TX6 k).2.2.1 = some (tyX6 k) := by decide +kernel
abbrev cX6_init : ByteArray := prog_8_method_1_code
def yX6_init : MethodName := ⟨RX6, "<init>", "()V"⟩
abbrev cX6_put : ByteArray := prog_8_method_2_code
def yX6_put : MethodName := ⟨RX6, "put", "(I)V"⟩
abbrev cX6_goToFirstToken : ByteArray := prog_8_method_3_code
def yX6_goToFirstToken : MethodName := ⟨RX6, "goToFirstToken", "()V"⟩
abbrev cX6_moveOn : ByteArray := prog_8_method_4_code
def yX6_moveOn : MethodName := ⟨RX6, "moveOn", "()V"⟩
abbrev cX6_kindOf : ByteArray := prog_8_method_5_code
def yX6_kindOf : MethodName := ⟨RX6, "kindOf", "(B)I"⟩
abbrev cX6_isWord : ByteArray := prog_8_method_6_code
def yX6_isWord : MethodName := ⟨RX6, "isWord", "(Ljava/lang/String;)Z"⟩
abbrev cX6_valueOfDigits : ByteArray := prog_8_method_7_code
def yX6_valueOfDigits : MethodName := ⟨RX6, "valueOfDigits", "()I"⟩
def RX7 : String := "FootNotes$Text"
def TX7 : u_T := fun k => match k with
  | 0 => ("FootNotes$Text", "lines", "I", false)
  | 1 => ("FootNotes$Text", "opens", "I", false)
  | 2 => ("FootNotes$Text", "odds", "I", false)
  | 3 => ("FootNotes$Text", "books", "I", false)
  | 4 => ("FootNotes$Text", "pages", "I", false)
  | 5 => ("FootNotes$Text", "notes", "I", false)
  | 6 => ("FootNotes$Text", "facts", "I", false)
  | 7 => ("FootNotes$Text", "dead", "I", false)
  | 8 => ("FootNotes$Text", "denials", "I", false)
  | 9 => ("FootNotes$Text", "scholar", "[I", true)
  | 10 => ("FootNotes$Text", "firstPage", "[I", true)
  | 11 => ("FootNotes$Text", "bookOf", "[I", true)
  | 12 => ("FootNotes$Text", "notePage", "[I", true)
  | 13 => ("FootNotes$Text", "noteBook", "[I", true)
  | _ => ("FootNotes$Text", "noteLeaf", "[I", true)
def tyX7 : Nat → FieldType := fun k => match k with
  | 0 => .int
  | 1 => .int
  | 2 => .int
  | 3 => .int
  | 4 => .int
  | 5 => .int
  | 6 => .int
  | 7 => .int
  | 8 => .int
  | 9 => .array .int
  | 10 => .array .int
  | 11 => .array .int
  | 12 => .array .int
  | 13 => .array .int
  | _ => .array .int
abbrev wsX70 : List Cond := u_ws RX7 TX7 15
theorem nmX7 : ∀ a, a < 15 → ∀ b, b < 15 → a ≠ b → (TX7 a).2.1 ≠ (TX7 b).2.1 := by decide +kernel
theorem tyX7_ok : ∀ k, k < 15 → parseFieldDescriptor (TX7 k).2.2.1 = some (tyX7 k) := by decide +kernel
abbrev cX7_init : ByteArray := prog_9_method_1_code
def yX7_init : MethodName := ⟨RX7, "<init>", "()V"⟩
abbrev cX7_clear : ByteArray := prog_9_method_2_code
def yX7_clear : MethodName := ⟨RX7, "clear", "()V"⟩
abbrev cX7_copyFrom : ByteArray := prog_9_method_3_code
def yX7_copyFrom : MethodName := ⟨RX7, "copyFrom", "(LFootNotes$Text;)V"⟩
abbrev cX7_addBook : ByteArray := prog_9_method_4_code
def yX7_addBook : MethodName := ⟨RX7, "addBook", "(II)V"⟩
abbrev cX7_addNote : ByteArray := prog_9_method_5_code
def yX7_addNote : MethodName := ⟨RX7, "addNote", "(IIIZ)V"⟩
abbrev cX7_hasPage : ByteArray := prog_9_method_6_code
def yX7_hasPage : MethodName := ⟨RX7, "hasPage", "(I)Z"⟩
abbrev cX7_hasBook : ByteArray := prog_9_method_7_code
def yX7_hasBook : MethodName := ⟨RX7, "hasBook", "(I)Z"⟩
abbrev cX7_hasNote : ByteArray := prog_9_method_8_code
def yX7_hasNote : MethodName := ⟨RX7, "hasNote", "(I)Z"⟩
abbrev cX7_pagesIn : ByteArray := prog_9_method_9_code
def yX7_pagesIn : MethodName := ⟨RX7, "pagesIn", "(I)I"⟩
abbrev cX7_scholarOf : ByteArray := prog_9_method_10_code
def yX7_scholarOf : MethodName := ⟨RX7, "scholarOf", "(I)I"⟩
abbrev cX7_notesOn : ByteArray := prog_9_method_11_code
def yX7_notesOn : MethodName := ⟨RX7, "notesOn", "(I)I"⟩
abbrev cX7_targetAtFirst : ByteArray := prog_9_method_12_code
def yX7_targetAtFirst : MethodName := ⟨RX7, "targetAtFirst", "(I)I"⟩
def RX8 : String := "FootNotes$Tour"
def TX8 : u_T := fun k => match k with
  | 0 => ("FootNotes$Tour", "turns", "LFootNotes$Turns;", true)
  | 1 => ("FootNotes$Tour", "size", "I", false)
  | 2 => ("FootNotes$Tour", "stop", "[I", true)
  | _ => ("FootNotes$Tour", "left", "[I", true)
def tyX8 : Nat → FieldType := fun k => match k with
  | 0 => .object "FootNotes$Turns"
  | 1 => .int
  | 2 => .array .int
  | _ => .array .int
abbrev wsX80 : List Cond := u_ws RX8 TX8 4
theorem nmX8 : ∀ a, a < 4 → ∀ b, b < 4 → a ≠ b → (TX8 a).2.1 ≠ (TX8 b).2.1 := by decide +kernel
theorem tyX8_ok : ∀ k, k < 4 → parseFieldDescriptor (TX8 k).2.2.1 = some (tyX8 k) := by decide +kernel
abbrev cX8_init : ByteArray := prog_10_method_1_code
def yX8_init : MethodName := ⟨RX8, "<init>", "()V"⟩
abbrev cX8_begin : ByteArray := prog_10_method_2_code
def yX8_begin : MethodName := ⟨RX8, "begin", "(I)V"⟩
abbrev cX8_addStop : ByteArray := prog_10_method_3_code
def yX8_addStop : MethodName := ⟨RX8, "addStop", "(I)V"⟩
abbrev cX8_all : ByteArray := prog_10_method_4_code
def yX8_all : MethodName := ⟨RX8, "all", "()I"⟩
abbrev cX8_plan : ByteArray := prog_10_method_5_code
def yX8_plan : MethodName := ⟨RX8, "plan", "()V"⟩
abbrev cX8_fewestFrom : ByteArray := prog_10_method_6_code
def yX8_fewestFrom : MethodName := ⟨RX8, "fewestFrom", "(II)I"⟩
abbrev cX8_costBy : ByteArray := prog_10_method_7_code
def yX8_costBy : MethodName := ⟨RX8, "costBy", "(III)I"⟩
abbrev cX8_fewestFor : ByteArray := prog_10_method_8_code
def yX8_fewestFor : MethodName := ⟨RX8, "fewestFor", "(I)I"⟩
abbrev cX8_stopAt : ByteArray := prog_10_method_9_code
def yX8_stopAt : MethodName := ⟨RX8, "stopAt", "(I)I"⟩
abbrev cX8_bestNext : ByteArray := prog_10_method_10_code
def yX8_bestNext : MethodName := ⟨RX8, "bestNext", "(II)I"⟩
abbrev cX8_longerOf : ByteArray := prog_10_method_11_code
def yX8_longerOf : MethodName := ⟨RX8, "longerOf", "(I)I"⟩
abbrev cX8_fairestSet : ByteArray := prog_10_method_12_code
def yX8_fairestSet : MethodName := ⟨RX8, "fairestSet", "()I"⟩
def RX9 : String := "FootNotes$Turns"
def TX9 : u_T := fun k => match k with
  | 0 => ("FootNotes$Turns", "opens", "I", false)
  | 1 => ("FootNotes$Turns", "fromDoors", "[I", true)
  | 2 => ("FootNotes$Turns", "fromPage", "[I", true)
  | 3 => ("FootNotes$Turns", "queue", "[I", true)
  | 4 => ("FootNotes$Turns", "queued", "I", false)
  | _ => ("FootNotes$Turns", "far", "[I", true)
def tyX9 : Nat → FieldType := fun k => match k with
  | 0 => .int
  | 1 => .array .int
  | 2 => .array .int
  | 3 => .array .int
  | 4 => .int
  | _ => .array .int
abbrev wsX90 : List Cond := u_ws RX9 TX9 6
theorem nmX9 : ∀ a, a < 6 → ∀ b, b < 6 → a ≠ b → (TX9 a).2.1 ≠ (TX9 b).2.1 := by decide +kernel
theorem tyX9_ok : ∀ k, k < 6 → parseFieldDescriptor (TX9 k).2.2.1 = some (tyX9 k) := by decide +kernel
abbrev cX9_init : ByteArray := prog_11_method_1_code
def yX9_init : MethodName := ⟨RX9, "<init>", "()V"⟩
abbrev cX9_measureFromDoors : ByteArray := prog_11_method_2_code
def yX9_measureFromDoors : MethodName := ⟨RX9, "measureFromDoors", "(LFootNotes$Text;LFootNotes$Shelf;LFootNotes$Web;)V"⟩
abbrev cX9_measureFrom : ByteArray := prog_11_method_3_code
def yX9_measureFrom : MethodName := ⟨RX9, "measureFrom", "(ILFootNotes$Shelf;LFootNotes$Web;)V"⟩
abbrev cX9_between : ByteArray := prog_11_method_4_code
def yX9_between : MethodName := ⟨RX9, "between", "(II)I"⟩
abbrev cX9_spread : ByteArray := prog_11_method_5_code
def yX9_spread : MethodName := ⟨RX9, "spread", "([ILFootNotes$Shelf;LFootNotes$Web;)V"⟩
abbrev cX9_followNotes : ByteArray := prog_11_method_6_code
def yX9_followNotes : MethodName := ⟨RX9, "followNotes", "([ILFootNotes$Web;II)V"⟩
abbrev cX9_arrive : ByteArray := prog_11_method_7_code
def yX9_arrive : MethodName := ⟨RX9, "arrive", "([III)V"⟩
def RX10 : String := "FootNotes$Web"
def TX10 : u_T := fun k => match k with
  | 0 => ("FootNotes$Web", "pages", "I", false)
  | 1 => ("FootNotes$Web", "standingFacts", "I", false)
  | 2 => ("FootNotes$Web", "place", "[I", true)
  | 3 => ("FootNotes$Web", "target", "[I", true)
  | 4 => ("FootNotes$Web", "next", "[I", true)
  | 5 => ("FootNotes$Web", "steps", "[I", true)
  | _ => ("FootNotes$Web", "reached", "I", false)
def tyX10 : Nat → FieldType := fun k => match k with
  | 0 => .int
  | 1 => .int
  | 2 => .array .int
  | 3 => .array .int
  | 4 => .array .int
  | 5 => .array .int
  | _ => .int
abbrev wsX100 : List Cond := u_ws RX10 TX10 7
theorem nmX10 : ∀ a, a < 7 → ∀ b, b < 7 → a ≠ b → (TX10 a).2.1 ≠ (TX10 b).2.1 := by decide +kernel
theorem tyX10_ok : ∀ k, k < 7 → parseFieldDescriptor (TX10 k).2.2.1 = some (tyX10 k) := by decide +kernel
abbrev cX10_init : ByteArray := prog_12_method_1_code
def yX10_init : MethodName := ⟨RX10, "<init>", "()V"⟩
abbrev cX10_weave : ByteArray := prog_12_method_2_code
def yX10_weave : MethodName := ⟨RX10, "weave", "(LFootNotes$Text;LFootNotes$Shelf;I)V"⟩
abbrev cX10_locatePages : ByteArray := prog_12_method_3_code
def yX10_locatePages : MethodName := ⟨RX10, "locatePages", "(LFootNotes$Text;LFootNotes$Shelf;)V"⟩
abbrev cX10_isTorn : ByteArray := prog_12_method_4_code
def yX10_isTorn : MethodName := ⟨RX10, "isTorn", "(I)Z"⟩
abbrev cX10_walkFrom : ByteArray := prog_12_method_5_code
def yX10_walkFrom : MethodName := ⟨RX10, "walkFrom", "(I)V"⟩
abbrev cX10_reachedFrom : ByteArray := prog_12_method_6_code
def yX10_reachedFrom : MethodName := ⟨RX10, "reachedFrom", "(I)I"⟩
abbrev cX10_stepsBetween : ByteArray := prog_12_method_7_code
def yX10_stepsBetween : MethodName := ⟨RX10, "stepsBetween", "(II)I"⟩
abbrev cX10_farthestFrom : ByteArray := prog_12_method_8_code
def yX10_farthestFrom : MethodName := ⟨RX10, "farthestFrom", "(I)I"⟩
abbrev cX10_wayLength : ByteArray := prog_12_method_9_code
def yX10_wayLength : MethodName := ⟨RX10, "wayLength", "(I)I"⟩
abbrev cX10_nextOnWay : ByteArray := prog_12_method_10_code
def yX10_nextOnWay : MethodName := ⟨RX10, "nextOnWay", "(II)I"⟩
abbrev cX10_groundedWithout : ByteArray := prog_12_method_11_code
def yX10_groundedWithout : MethodName := ⟨RX10, "groundedWithout", "(I)I"⟩
abbrev cX10_lossBy : ByteArray := prog_12_method_12_code
def yX10_lossBy : MethodName := ⟨RX10, "lossBy", "(I)I"⟩
abbrev cX10_leastCut : ByteArray := prog_12_method_13_code
def yX10_leastCut : MethodName := ⟨RX10, "leastCut", "(I)I"⟩
def RX11 : String := "FootNotes"
def TX11 : u_T := fun k => match k with
  | 0 => ("FootNotes", "reader", "LFootNotes$Reader;", true)
  | 1 => ("FootNotes", "text", "LFootNotes$Text;", true)
  | 2 => ("FootNotes", "shelf", "LFootNotes$Shelf;", true)
  | 3 => ("FootNotes", "imageTexts", "[LFootNotes$Text;", true)
  | 4 => ("FootNotes", "imageShelves", "[LFootNotes$Shelf;", true)
  | 5 => ("FootNotes", "imageKept", "[Z", true)
  | 6 => ("FootNotes", "rows", "[LFootNotes$Row;", true)
  | 7 => ("FootNotes", "web", "LFootNotes$Web;", true)
  | 8 => ("FootNotes", "shakenWeb", "LFootNotes$Web;", true)
  | 9 => ("FootNotes", "faith", "LFootNotes$Faith;", true)
  | 10 => ("FootNotes", "tour", "LFootNotes$Tour;", true)
  | 11 => ("FootNotes", "precedence", "LFootNotes$Precedence;", true)
  | _ => ("FootNotes", "ledger", "LFootNotes$Ledger;", true)
def tyX11 : Nat → FieldType := fun k => match k with
  | 0 => .object "FootNotes$Reader"
  | 1 => .object "FootNotes$Text"
  | 2 => .object "FootNotes$Shelf"
  | 3 => .array (.object "FootNotes$Text")
  | 4 => .array (.object "FootNotes$Shelf")
  | 5 => .array .boolean
  | 6 => .array (.object "FootNotes$Row")
  | 7 => .object "FootNotes$Web"
  | 8 => .object "FootNotes$Web"
  | 9 => .object "FootNotes$Faith"
  | 10 => .object "FootNotes$Tour"
  | 11 => .object "FootNotes$Precedence"
  | _ => .object "FootNotes$Ledger"
abbrev wsX110 : List Cond := u_ws RX11 TX11 13
theorem nmX11 : ∀ a, a < 13 → ∀ b, b < 13 → a ≠ b → (TX11 a).2.1 ≠ (TX11 b).2.1 := by decide +kernel
theorem tyX11_ok : ∀ k, k < 13 → parseFieldDescriptor (TX11 k).2.2.1 = some (tyX11 k) := by decide +kernel
abbrev cX11_init : ByteArray := prog_1_method_1_code
def yX11_init : MethodName := ⟨RX11, "<init>", "()V"⟩
abbrev cX11_feed : ByteArray := prog_1_method_2_code
def yX11_feed : MethodName := ⟨RX11, "feed", "(IIIII)I"⟩
abbrev cX11_end : ByteArray := prog_1_method_3_code
def yX11_end : MethodName := ⟨RX11, "end", "(I)I"⟩
abbrev cX11_town : ByteArray := prog_1_method_4_code
def yX11_town : MethodName := ⟨RX11, "town", "()I"⟩
abbrev cX11_fault : ByteArray := prog_1_method_5_code
def yX11_fault : MethodName := ⟨RX11, "fault", "(I)I"⟩
abbrev cX11_settle : ByteArray := prog_1_method_6_code
def yX11_settle : MethodName := ⟨RX11, "settle", "()V"⟩
abbrev cX11_noTown : ByteArray := prog_1_method_7_code
def yX11_noTown : MethodName := ⟨RX11, "noTown", "()Z"⟩
abbrev cX11_bit : ByteArray := prog_1_method_8_code
def yX11_bit : MethodName := ⟨RX11, "bit", "(Z)I"⟩
abbrev cX11_page : ByteArray := prog_1_method_9_code
def yX11_page : MethodName := ⟨RX11, "page", "(II)I"⟩
abbrev cX11_book : ByteArray := prog_1_method_10_code
def yX11_book : MethodName := ⟨RX11, "book", "(II)I"⟩
abbrev cX11_leaf : ByteArray := prog_1_method_11_code
def yX11_leaf : MethodName := ⟨RX11, "leaf", "(II)I"⟩
abbrev cX11_note : ByteArray := prog_1_method_12_code
def yX11_note : MethodName := ⟨RX11, "note", "(II)I"⟩
abbrev cX11_leads : ByteArray := prog_1_method_13_code
def yX11_leads : MethodName := ⟨RX11, "leads", "(I)I"⟩
abbrev cX11_meant : ByteArray := prog_1_method_14_code
def yX11_meant : MethodName := ⟨RX11, "meant", "(I)I"⟩
abbrev cX11_astray : ByteArray := prog_1_method_15_code
def yX11_astray : MethodName := ⟨RX11, "astray", "()I"⟩
abbrev cX11_edition : ByteArray := prog_1_method_16_code
def yX11_edition : MethodName := ⟨RX11, "edition", "(II)I"⟩
abbrev cX11_tear : ByteArray := prog_1_method_17_code
def yX11_tear : MethodName := ⟨RX11, "tear", "(II)I"⟩
abbrev cX11_misprint : ByteArray := prog_1_method_18_code
def yX11_misprint : MethodName := ⟨RX11, "misprint", "(II)I"⟩
abbrev cX11_undo : ByteArray := prog_1_method_19_code
def yX11_undo : MethodName := ⟨RX11, "undo", "()I"⟩
abbrev cX11_anew : ByteArray := prog_1_method_20_code
def yX11_anew : MethodName := ⟨RX11, "anew", "()I"⟩
abbrev cX11_reach : ByteArray := prog_1_method_21_code
def yX11_reach : MethodName := ⟨RX11, "reach", "(I)I"⟩
abbrev cX11_upon : ByteArray := prog_1_method_22_code
def yX11_upon : MethodName := ⟨RX11, "upon", "(I)I"⟩
abbrev cX11_rings : ByteArray := prog_1_method_23_code
def yX11_rings : MethodName := ⟨RX11, "rings", "()I"⟩
abbrev cX11_round : ByteArray := prog_1_method_24_code
def yX11_round : MethodName := ⟨RX11, "round", "(I)I"⟩
abbrev cX11_ring : ByteArray := prog_1_method_25_code
def yX11_ring : MethodName := ⟨RX11, "ring", "(I)I"⟩
abbrev cX11_way : ByteArray := prog_1_method_26_code
def yX11_way : MethodName := ⟨RX11, "way", "(I)I"⟩
abbrev cX11_step : ByteArray := prog_1_method_27_code
def yX11_step : MethodName := ⟨RX11, "step", "(II)I"⟩
abbrev cX11_depth : ByteArray := prog_1_method_28_code
def yX11_depth : MethodName := ⟨RX11, "depth", "(I)I"⟩
abbrev cX11_deepest : ByteArray := prog_1_method_29_code
def yX11_deepest : MethodName := ⟨RX11, "deepest", "()I"⟩
abbrev cX11_grounded : ByteArray := prog_1_method_30_code
def yX11_grounded : MethodName := ⟨RX11, "grounded", "()I"⟩
abbrev cX11_needs : ByteArray := prog_1_method_31_code
def yX11_needs : MethodName := ⟨RX11, "needs", "(I)I"⟩
abbrev cX11_loss : ByteArray := prog_1_method_32_code
def yX11_loss : MethodName := ⟨RX11, "loss", "(I)I"⟩
abbrev cX11_key : ByteArray := prog_1_method_33_code
def yX11_key : MethodName := ⟨RX11, "key", "()I"⟩
abbrev cX11_cut : ByteArray := prog_1_method_34_code
def yX11_cut : MethodName := ⟨RX11, "cut", "(I)I"⟩
abbrev cX11_torn : ByteArray := prog_1_method_35_code
def yX11_torn : MethodName := ⟨RX11, "torn", "(I)I"⟩
abbrev cX11_noSet : ByteArray := prog_1_method_36_code
def yX11_noSet : MethodName := ⟨RX11, "noSet", "(I)Z"⟩
abbrev cX11_holds : ByteArray := prog_1_method_37_code
def yX11_holds : MethodName := ⟨RX11, "holds", "(I)I"⟩
abbrev cX11_ways : ByteArray := prog_1_method_38_code
def yX11_ways : MethodName := ⟨RX11, "ways", "()I"⟩
abbrev cX11_most : ByteArray := prog_1_method_39_code
def yX11_most : MethodName := ⟨RX11, "most", "()I"⟩
abbrev cX11_mostly : ByteArray := prog_1_method_40_code
def yX11_mostly : MethodName := ⟨RX11, "mostly", "()I"⟩
abbrev cX11_sure : ByteArray := prog_1_method_41_code
def yX11_sure : MethodName := ⟨RX11, "sure", "(I)I"⟩
abbrev cX11_loose : ByteArray := prog_1_method_42_code
def yX11_loose : MethodName := ⟨RX11, "loose", "(I)I"⟩
abbrev cX11_loosely : ByteArray := prog_1_method_43_code
def yX11_loosely : MethodName := ⟨RX11, "loosely", "(I)I"⟩
abbrev cX11_leaves : ByteArray := prog_1_method_44_code
def yX11_leaves : MethodName := ⟨RX11, "leaves", "(II)I"⟩
abbrev cX11_reads : ByteArray := prog_1_method_45_code
def yX11_reads : MethodName := ⟨RX11, "reads", "(II)I"⟩
abbrev cX11_order : ByteArray := prog_1_method_46_code
def yX11_order : MethodName := ⟨RX11, "order", "(III)I"⟩
abbrev cX11_shares : ByteArray := prog_1_method_47_code
def yX11_shares : MethodName := ⟨RX11, "shares", "(II)I"⟩
abbrev cX11_first : ByteArray := prog_1_method_48_code
def yX11_first : MethodName := ⟨RX11, "first", "(II)I"⟩
abbrev cX11_tripTrouble : ByteArray := prog_1_method_49_code
def yX11_tripTrouble : MethodName := ⟨RX11, "tripTrouble", "(II)I"⟩
abbrev cX11_planTrip : ByteArray := prog_1_method_50_code
def yX11_planTrip : MethodName := ⟨RX11, "planTrip", "(LFootNotes$Row;I)V"⟩
abbrev cX11_sends : ByteArray := prog_1_method_51_code
def yX11_sends : MethodName := ⟨RX11, "sends", "()I"⟩
abbrev cX11_orders : ByteArray := prog_1_method_52_code
def yX11_orders : MethodName := ⟨RX11, "orders", "()I"⟩
abbrev cX11_earliest : ByteArray := prog_1_method_53_code
def yX11_earliest : MethodName := ⟨RX11, "earliest", "(I)I"⟩
abbrev cX11_noRounds : ByteArray := prog_1_method_54_code
def yX11_noRounds : MethodName := ⟨RX11, "noRounds", "(I)Z"⟩
abbrev cX11_worth : ByteArray := prog_1_method_55_code
def yX11_worth : MethodName := ⟨RX11, "worth", "(II)I"⟩
abbrev cX11_rest : ByteArray := prog_1_method_56_code
def yX11_rest : MethodName := ⟨RX11, "rest", "()I"⟩
abbrev cX11_saint : ByteArray := prog_1_method_57_code
def yX11_saint : MethodName := ⟨RX11, "saint", "(I)I"⟩
abbrev cX11_noPair : ByteArray := prog_1_method_58_code
def yX11_noPair : MethodName := ⟨RX11, "noPair", "(II)Z"⟩
abbrev cX11_meets : ByteArray := prog_1_method_59_code
def yX11_meets : MethodName := ⟨RX11, "meets", "(II)I"⟩
abbrev cX11_nearest : ByteArray := prog_1_method_60_code
def yX11_nearest : MethodName := ⟨RX11, "nearest", "(II)I"⟩
abbrev cX11_third : ByteArray := prog_1_method_61_code
def yX11_third : MethodName := ⟨RX11, "third", "(II)I"⟩
abbrev cX11_stepsTogether : ByteArray := prog_1_method_62_code
def yX11_stepsTogether : MethodName := ⟨RX11, "stepsTogether", "(III)I"⟩
abbrev cX11_noScholar : ByteArray := prog_1_method_63_code
def yX11_noScholar : MethodName := ⟨RX11, "noScholar", "(I)Z"⟩
abbrev cX11_cited : ByteArray := prog_1_method_64_code
def yX11_cited : MethodName := ⟨RX11, "cited", "(I)I"⟩
abbrev cX11_leadsTo : ByteArray := prog_1_method_65_code
def yX11_leadsTo : MethodName := ⟨RX11, "leadsTo", "(I)I"⟩
abbrev cX11_leadsBetween : ByteArray := prog_1_method_66_code
def yX11_leadsBetween : MethodName := ⟨RX11, "leadsBetween", "(II)I"⟩
abbrev cX11_famous : ByteArray := prog_1_method_67_code
def yX11_famous : MethodName := ⟨RX11, "famous", "(I)I"⟩
abbrev cX11_quotes : ByteArray := prog_1_method_68_code
def yX11_quotes : MethodName := ⟨RX11, "quotes", "(II)I"⟩
abbrev cX11_noSeed : ByteArray := prog_1_method_69_code
def yX11_noSeed : MethodName := ⟨RX11, "noSeed", "(I)Z"⟩
abbrev cX11_drawn : ByteArray := prog_1_method_70_code
def yX11_drawn : MethodName := ⟨RX11, "drawn", "(I)I"⟩
abbrev cX11_drawMisprints : ByteArray := prog_1_method_71_code
def yX11_drawMisprints : MethodName := ⟨RX11, "drawMisprints", "(J)I"⟩
abbrev cX11_groundedByDraw : ByteArray := prog_1_method_72_code
def yX11_groundedByDraw : MethodName := ⟨RX11, "groundedByDraw", "(J)I"⟩
abbrev cX11_shaken : ByteArray := prog_1_method_73_code
def yX11_shaken : MethodName := ⟨RX11, "shaken", "(I)I"⟩
abbrev cX11_years : ByteArray := prog_1_method_74_code
def yX11_years : MethodName := ⟨RX11, "years", "(III)I"⟩
abbrev cX11_count : ByteArray := prog_1_method_75_code
def yX11_count : MethodName := ⟨RX11, "count", "(I)I"⟩
abbrev cX11_rowsPresent : ByteArray := prog_1_method_76_code
def yX11_rowsPresent : MethodName := ⟨RX11, "rowsPresent", "()I"⟩
abbrev cX11_noImage : ByteArray := prog_1_method_77_code
def yX11_noImage : MethodName := ⟨RX11, "noImage", "(I)Z"⟩
abbrev cX11_image : ByteArray := prog_1_method_78_code
def yX11_image : MethodName := ⟨RX11, "image", "(I)I"⟩
abbrev cX11_back : ByteArray := prog_1_method_79_code
def yX11_back : MethodName := ⟨RX11, "back", "(I)I"⟩
abbrev cX11_noSlot : ByteArray := prog_1_method_80_code
def yX11_noSlot : MethodName := ⟨RX11, "noSlot", "(I)Z"⟩
abbrev cX11_row : ByteArray := prog_1_method_81_code
def yX11_row : MethodName := ⟨RX11, "row", "(III)I"⟩
abbrev cX11_write : ByteArray := prog_1_method_82_code
def yX11_write : MethodName := ⟨RX11, "write", "(IIJ)I"⟩
abbrev cX11_paste : ByteArray := prog_1_method_83_code
def yX11_paste : MethodName := ⟨RX11, "paste", "(IIIII)I"⟩
def RX12 : String := "FootNotesModel"
def TX12 : u_T := fun k => match k with
  | 0 => ("FootNotesModel", "thrown", "I", false)
  | 1 => ("FootNotesModel", "width", "[I", true)
  | 2 => ("FootNotesModel", "many", "[I", true)
  | 3 => ("FootNotesModel", "cells", "[J", true)
  | 4 => ("FootNotesModel", "moved", "[J", true)
  | 5 => ("FootNotesModel", "tape", "[B", true)
  | 6 => ("FootNotesModel", "taped", "I", false)
  | 7 => ("FootNotesModel", "at", "I", false)
  | 8 => ("FootNotesModel", "token", "I", false)
  | 9 => ("FootNotesModel", "place", "I", false)
  | 10 => ("FootNotesModel", "value", "I", false)
  | 11 => ("FootNotesModel", "word", "J", false)
  | 12 => ("FootNotesModel", "bad", "I", false)
  | 13 => ("FootNotesModel", "badPlace", "I", false)
  | 14 => ("FootNotesModel", "fault", "I", false)
  | 15 => ("FootNotesModel", "faultPlace", "I", false)
  | 16 => ("FootNotesModel", "lines", "[I", true)
  | 17 => ("FootNotesModel", "has", "[I", true)
  | 18 => ("FootNotesModel", "book", "[I", true)
  | 19 => ("FootNotesModel", "bookOf", "[I", true)
  | 20 => ("FootNotesModel", "note", "[I", true)
  | 21 => ("FootNotesModel", "act", "[I", true)
  | 22 => ("FootNotesModel", "isKept", "[Z", true)
  | 23 => ("FootNotesModel", "leaf", "[I", true)
  | 24 => ("FootNotesModel", "many0", "[I", true)
  | 25 => ("FootNotesModel", "says", "[I", true)
  | 26 => ("FootNotesModel", "leads", "[I", true)
  | 27 => ("FootNotesModel", "leafOf", "[I", true)
  | 28 => ("FootNotesModel", "outs", "[I", true)
  | 29 => ("FootNotesModel", "atFirst", "[I", true)
  | 30 => ("FootNotesModel", "far", "[I", true)
  | 31 => ("FootNotesModel", "queue", "[I", true)
  | 32 => ("FootNotesModel", "wayMany", "I", false)
  | 33 => ("FootNotesModel", "wayMost", "I", false)
  | 34 => ("FootNotesModel", "wayAll", "I", false)
  | 35 => ("FootNotesModel", "waySome", "I", false)
  | 36 => ("FootNotesModel", "turns", "[I", true)
  | 37 => ("FootNotesModel", "between", "[I", true)
  | 38 => ("FootNotesModel", "read", "[I", true)
  | 39 => ("FootNotesModel", "sharedBest", "I", false)
  | 40 => ("FootNotesModel", "sharedSet", "I", false)
  | 41 => ("FootNotesModel", "order", "[I", true)
  | 42 => ("FootNotesModel", "best", "[I", true)
  | 43 => ("FootNotesModel", "sendsLeast", "I", false)
  | 44 => ("FootNotesModel", "orderMany", "I", false)
  | 45 => ("FootNotesModel", "worth", "[I", true)
  | 46 => ("FootNotesModel", "worthThen", "[I", true)
  | 47 => ("FootNotesModel", "farOther", "[I", true)
  | 48 => ("FootNotesModel", "meetSet", "I", false)
  | 49 => ("FootNotesModel", "meetLeast", "I", false)
  | _ => ("FootNotesModel", "meetPage", "I", false)
def tyX12 : Nat → FieldType := fun k => match k with
  | 0 => .int
  | 1 => .array .int
  | 2 => .array .int
  | 3 => .array .long
  | 4 => .array .long
  | 5 => .array .byte
  | 6 => .int
  | 7 => .int
  | 8 => .int
  | 9 => .int
  | 10 => .int
  | 11 => .long
  | 12 => .int
  | 13 => .int
  | 14 => .int
  | 15 => .int
  | 16 => .array .int
  | 17 => .array .int
  | 18 => .array .int
  | 19 => .array .int
  | 20 => .array .int
  | 21 => .array .int
  | 22 => .array .boolean
  | 23 => .array .int
  | 24 => .array .int
  | 25 => .array .int
  | 26 => .array .int
  | 27 => .array .int
  | 28 => .array .int
  | 29 => .array .int
  | 30 => .array .int
  | 31 => .array .int
  | 32 => .int
  | 33 => .int
  | 34 => .int
  | 35 => .int
  | 36 => .array .int
  | 37 => .array .int
  | 38 => .array .int
  | 39 => .int
  | 40 => .int
  | 41 => .array .int
  | 42 => .array .int
  | 43 => .int
  | 44 => .int
  | 45 => .array .int
  | 46 => .array .int
  | 47 => .array .int
  | 48 => .int
  | 49 => .int
  | _ => .int
abbrev wsX120 : List Cond := u_ws RX12 TX12 51
theorem nmX12 : ∀ a, a < 51 → ∀ b, b < 51 → a ≠ b → (TX12 a).2.1 ≠ (TX12 b).2.1 := by decide +kernel
theorem tyX12_ok : ∀ k, k < 51 → parseFieldDescriptor (TX12 k).2.2.1 = some (tyX12 k) := by decide +kernel
abbrev cX12_init : ByteArray := prog_14_method_1_code
def yX12_init : MethodName := ⟨RX12, "<init>", "()V"⟩
abbrev cX12_in : ByteArray := prog_14_method_3_code
def yX12_in : MethodName := ⟨RX12, "in", "(JJJ)Z"⟩
abbrev cX12_isSlot : ByteArray := prog_14_method_4_code
def yX12_isSlot : MethodName := ⟨RX12, "isSlot", "(I)Z"⟩
abbrev cX12_row : ByteArray := prog_14_method_5_code
def yX12_row : MethodName := ⟨RX12, "row", "(III)I"⟩
abbrev cX12_cut : ByteArray := prog_14_method_6_code
def yX12_cut : MethodName := ⟨RX12, "cut", "(JI)J"⟩
abbrev cX12_write : ByteArray := prog_14_method_7_code
def yX12_write : MethodName := ⟨RX12, "write", "(IIJ)I"⟩
abbrev cX12_paste : ByteArray := prog_14_method_8_code
def yX12_paste : MethodName := ⟨RX12, "paste", "(IIIII)I"⟩
abbrev cX12_feed : ByteArray := prog_14_method_9_code
def yX12_feed : MethodName := ⟨RX12, "feed", "(IIIII)I"⟩
abbrev cX12_four : ByteArray := prog_14_method_10_code
def yX12_four : MethodName := ⟨RX12, "four", "(I)V"⟩
abbrev cX12_end : ByteArray := prog_14_method_11_code
def yX12_end : MethodName := ⟨RX12, "end", "(I)I"⟩
abbrev cX12_isByte : ByteArray := prog_14_method_12_code
def yX12_isByte : MethodName := ⟨RX12, "isByte", "(III)Z"⟩
abbrev cX12_next : ByteArray := prog_14_method_13_code
def yX12_next : MethodName := ⟨RX12, "next", "()V"⟩
abbrev cX12_isGood : ByteArray := prog_14_method_14_code
def yX12_isGood : MethodName := ⟨RX12, "isGood", "()Z"⟩
abbrev cX12_fails : ByteArray := prog_14_method_15_code
def yX12_fails : MethodName := ⟨RX12, "fails", "(I)V"⟩
abbrev cX12_is : ByteArray := prog_14_method_16_code
def yX12_is : MethodName := ⟨RX12, "is", "(J)Z"⟩
abbrev cX12_takes : ByteArray := prog_14_method_17_code
def yX12_takes : MethodName := ⟨RX12, "takes", "(J)Z"⟩
abbrev cX12_asks : ByteArray := prog_14_method_18_code
def yX12_asks : MethodName := ⟨RX12, "asks", "(J)V"⟩
abbrev cX12_number : ByteArray := prog_14_method_19_code
def yX12_number : MethodName := ⟨RX12, "number", "(II)I"⟩
abbrev cX12_number_ : ByteArray := prog_14_method_20_code
def yX12_number_ : MethodName := ⟨RX12, "number", "(JII)I"⟩
abbrev cX12_ends : ByteArray := prog_14_method_21_code
def yX12_ends : MethodName := ⟨RX12, "ends", "()V"⟩
abbrev cX12_begins : ByteArray := prog_14_method_22_code
def yX12_begins : MethodName := ⟨RX12, "begins", "()V"⟩
abbrev cX12_isOver : ByteArray := prog_14_method_23_code
def yX12_isOver : MethodName := ⟨RX12, "isOver", "()V"⟩
abbrev cX12_fault : ByteArray := prog_14_method_24_code
def yX12_fault : MethodName := ⟨RX12, "fault", "(I)I"⟩
abbrev cX12_hasRead : ByteArray := prog_14_method_25_code
def yX12_hasRead : MethodName := ⟨RX12, "hasRead", "(I)I"⟩
abbrev cX12_tells : ByteArray := prog_14_method_26_code
def yX12_tells : MethodName := ⟨RX12, "tells", "(II)V"⟩
abbrev cX12_pageHere : ByteArray := prog_14_method_27_code
def yX12_pageHere : MethodName := ⟨RX12, "pageHere", "()I"⟩
abbrev cX12_scholarHere : ByteArray := prog_14_method_28_code
def yX12_scholarHere : MethodName := ⟨RX12, "scholarHere", "()I"⟩
abbrev cX12_bookLine : ByteArray := prog_14_method_29_code
def yX12_bookLine : MethodName := ⟨RX12, "bookLine", "()V"⟩
abbrev cX12_noteLine : ByteArray := prog_14_method_30_code
def yX12_noteLine : MethodName := ⟨RX12, "noteLine", "()V"⟩
abbrev cX12_line : ByteArray := prog_14_method_31_code
def yX12_line : MethodName := ⟨RX12, "line", "()V"⟩
abbrev cX12_clears : ByteArray := prog_14_method_32_code
def yX12_clears : MethodName := ⟨RX12, "clears", "()V"⟩
abbrev cX12_town : ByteArray := prog_14_method_33_code
def yX12_town : MethodName := ⟨RX12, "town", "()I"⟩
abbrev cX12_copyRow : ByteArray := prog_14_method_34_code
def yX12_copyRow : MethodName := ⟨RX12, "copyRow", "([IIII)V"⟩
abbrev cX12_copyTown : ByteArray := prog_14_method_35_code
def yX12_copyTown : MethodName := ⟨RX12, "copyTown", "(II)V"⟩
abbrev cX12_isTown : ByteArray := prog_14_method_36_code
def yX12_isTown : MethodName := ⟨RX12, "isTown", "()Z"⟩
abbrev cX12_isBook : ByteArray := prog_14_method_37_code
def yX12_isBook : MethodName := ⟨RX12, "isBook", "(I)Z"⟩
abbrev cX12_isPage : ByteArray := prog_14_method_38_code
def yX12_isPage : MethodName := ⟨RX12, "isPage", "(J)Z"⟩
abbrev cX12_isNote : ByteArray := prog_14_method_39_code
def yX12_isNote : MethodName := ⟨RX12, "isNote", "(I)Z"⟩
abbrev cX12_areTwo : ByteArray := prog_14_method_40_code
def yX12_areTwo : MethodName := ⟨RX12, "areTwo", "(II)Z"⟩
abbrev cX12_isScholar : ByteArray := prog_14_method_41_code
def yX12_isScholar : MethodName := ⟨RX12, "isScholar", "(I)Z"⟩
abbrev cX12_all : ByteArray := prog_14_method_42_code
def yX12_all : MethodName := ⟨RX12, "all", "()I"⟩
abbrev cX12_isSet : ByteArray := prog_14_method_43_code
def yX12_isSet : MethodName := ⟨RX12, "isSet", "(I)Z"⟩
abbrev cX12_isBit : ByteArray := prog_14_method_44_code
def yX12_isBit : MethodName := ⟨RX12, "isBit", "(II)Z"⟩
abbrev cX12_sizeOf : ByteArray := prog_14_method_45_code
def yX12_sizeOf : MethodName := ⟨RX12, "sizeOf", "(I)I"⟩
abbrev cX12_lays : ByteArray := prog_14_method_46_code
def yX12_lays : MethodName := ⟨RX12, "lays", "(I)V"⟩
abbrev cX12_does : ByteArray := prog_14_method_47_code
def yX12_does : MethodName := ⟨RX12, "does", "(III)V"⟩
abbrev cX12_laysLeads : ByteArray := prog_14_method_48_code
def yX12_laysLeads : MethodName := ⟨RX12, "laysLeads", "()V"⟩
abbrev cX12_laysOuts : ByteArray := prog_14_method_49_code
def yX12_laysOuts : MethodName := ⟨RX12, "laysOuts", "()V"⟩
abbrev cX12_laysNow : ByteArray := prog_14_method_50_code
def yX12_laysNow : MethodName := ⟨RX12, "laysNow", "()V"⟩
abbrev cX12_page : ByteArray := prog_14_method_51_code
def yX12_page : MethodName := ⟨RX12, "page", "(II)I"⟩
abbrev cX12_book : ByteArray := prog_14_method_52_code
def yX12_book : MethodName := ⟨RX12, "book", "(II)I"⟩
abbrev cX12_leaf : ByteArray := prog_14_method_53_code
def yX12_leaf : MethodName := ⟨RX12, "leaf", "(II)I"⟩
abbrev cX12_note : ByteArray := prog_14_method_54_code
def yX12_note : MethodName := ⟨RX12, "note", "(II)I"⟩
abbrev cX12_leads : ByteArray := prog_14_method_55_code
def yX12_leads : MethodName := ⟨RX12, "leads", "(I)I"⟩
abbrev cX12_meant : ByteArray := prog_14_method_56_code
def yX12_meant : MethodName := ⟨RX12, "meant", "(I)I"⟩
abbrev cX12_astray : ByteArray := prog_14_method_57_code
def yX12_astray : MethodName := ⟨RX12, "astray", "()I"⟩
abbrev cX12_acts : ByteArray := prog_14_method_58_code
def yX12_acts : MethodName := ⟨RX12, "acts", "(III)V"⟩
abbrev cX12_edition : ByteArray := prog_14_method_59_code
def yX12_edition : MethodName := ⟨RX12, "edition", "(II)I"⟩
abbrev cX12_tear : ByteArray := prog_14_method_60_code
def yX12_tear : MethodName := ⟨RX12, "tear", "(II)I"⟩
abbrev cX12_misprint : ByteArray := prog_14_method_61_code
def yX12_misprint : MethodName := ⟨RX12, "misprint", "(II)I"⟩
abbrev cX12_undo : ByteArray := prog_14_method_62_code
def yX12_undo : MethodName := ⟨RX12, "undo", "()I"⟩
abbrev cX12_anew : ByteArray := prog_14_method_63_code
def yX12_anew : MethodName := ⟨RX12, "anew", "()I"⟩
abbrev cX12_goes : ByteArray := prog_14_method_64_code
def yX12_goes : MethodName := ⟨RX12, "goes", "(II)V"⟩
abbrev cX12_reachOf : ByteArray := prog_14_method_65_code
def yX12_reachOf : MethodName := ⟨RX12, "reachOf", "(I)I"⟩
abbrev cX12_reach : ByteArray := prog_14_method_66_code
def yX12_reach : MethodName := ⟨RX12, "reach", "(I)I"⟩
abbrev cX12_uponOf : ByteArray := prog_14_method_67_code
def yX12_uponOf : MethodName := ⟨RX12, "uponOf", "(I)I"⟩
abbrev cX12_upon : ByteArray := prog_14_method_68_code
def yX12_upon : MethodName := ⟨RX12, "upon", "(I)I"⟩
abbrev cX12_rings : ByteArray := prog_14_method_69_code
def yX12_rings : MethodName := ⟨RX12, "rings", "()I"⟩
abbrev cX12_round : ByteArray := prog_14_method_70_code
def yX12_round : MethodName := ⟨RX12, "round", "(I)I"⟩
abbrev cX12_ring : ByteArray := prog_14_method_71_code
def yX12_ring : MethodName := ⟨RX12, "ring", "(I)I"⟩
abbrev cX12_wayOf : ByteArray := prog_14_method_72_code
def yX12_wayOf : MethodName := ⟨RX12, "wayOf", "(II)I"⟩
abbrev cX12_way : ByteArray := prog_14_method_73_code
def yX12_way : MethodName := ⟨RX12, "way", "(I)I"⟩
abbrev cX12_step : ByteArray := prog_14_method_74_code
def yX12_step : MethodName := ⟨RX12, "step", "(II)I"⟩
abbrev cX12_depthOf : ByteArray := prog_14_method_75_code
def yX12_depthOf : MethodName := ⟨RX12, "depthOf", "(I)I"⟩
abbrev cX12_depth : ByteArray := prog_14_method_76_code
def yX12_depth : MethodName := ⟨RX12, "depth", "(I)I"⟩
abbrev cX12_deepest : ByteArray := prog_14_method_77_code
def yX12_deepest : MethodName := ⟨RX12, "deepest", "()I"⟩
abbrev cX12_groundedBut : ByteArray := prog_14_method_78_code
def yX12_groundedBut : MethodName := ⟨RX12, "groundedBut", "(I)I"⟩
abbrev cX12_grounded : ByteArray := prog_14_method_79_code
def yX12_grounded : MethodName := ⟨RX12, "grounded", "()I"⟩
abbrev cX12_needs : ByteArray := prog_14_method_80_code
def yX12_needs : MethodName := ⟨RX12, "needs", "(I)I"⟩
abbrev cX12_lossOf : ByteArray := prog_14_method_81_code
def yX12_lossOf : MethodName := ⟨RX12, "lossOf", "(I)I"⟩
abbrev cX12_loss : ByteArray := prog_14_method_82_code
def yX12_loss : MethodName := ⟨RX12, "loss", "(I)I"⟩
abbrev cX12_key : ByteArray := prog_14_method_83_code
def yX12_key : MethodName := ⟨RX12, "key", "()I"⟩
abbrev cX12_cutOf : ByteArray := prog_14_method_84_code
def yX12_cutOf : MethodName := ⟨RX12, "cutOf", "(I)I"⟩
abbrev cX12_cut_ : ByteArray := prog_14_method_85_code
def yX12_cut_ : MethodName := ⟨RX12, "cut", "(I)I"⟩
abbrev cX12_torn : ByteArray := prog_14_method_86_code
def yX12_torn : MethodName := ⟨RX12, "torn", "(I)I"⟩
abbrev cX12_brokenOf : ByteArray := prog_14_method_87_code
def yX12_brokenOf : MethodName := ⟨RX12, "brokenOf", "(I)I"⟩
abbrev cX12_holds : ByteArray := prog_14_method_88_code
def yX12_holds : MethodName := ⟨RX12, "holds", "(I)I"⟩
abbrev cX12_laysWays : ByteArray := prog_14_method_89_code
def yX12_laysWays : MethodName := ⟨RX12, "laysWays", "()V"⟩
abbrev cX12_ways : ByteArray := prog_14_method_90_code
def yX12_ways : MethodName := ⟨RX12, "ways", "()I"⟩
abbrev cX12_most : ByteArray := prog_14_method_91_code
def yX12_most : MethodName := ⟨RX12, "most", "()I"⟩
abbrev cX12_mostly : ByteArray := prog_14_method_92_code
def yX12_mostly : MethodName := ⟨RX12, "mostly", "()I"⟩
abbrev cX12_sure : ByteArray := prog_14_method_93_code
def yX12_sure : MethodName := ⟨RX12, "sure", "(I)I"⟩
abbrev cX12_looseSet : ByteArray := prog_14_method_94_code
def yX12_looseSet : MethodName := ⟨RX12, "looseSet", "(I)I"⟩
abbrev cX12_loose : ByteArray := prog_14_method_95_code
def yX12_loose : MethodName := ⟨RX12, "loose", "(I)I"⟩
abbrev cX12_loosely : ByteArray := prog_14_method_96_code
def yX12_loosely : MethodName := ⟨RX12, "loosely", "(I)I"⟩
abbrev cX12_turnsFrom : ByteArray := prog_14_method_97_code
def yX12_turnsFrom : MethodName := ⟨RX12, "turnsFrom", "(I)V"⟩
abbrev cX12_betters : ByteArray := prog_14_method_98_code
def yX12_betters : MethodName := ⟨RX12, "betters", "(II)Z"⟩
abbrev cX12_spreads : ByteArray := prog_14_method_99_code
def yX12_spreads : MethodName := ⟨RX12, "spreads", "(II)Z"⟩
abbrev cX12_turnsTo : ByteArray := prog_14_method_100_code
def yX12_turnsTo : MethodName := ⟨RX12, "turnsTo", "(I)I"⟩
abbrev cX12_leaves : ByteArray := prog_14_method_101_code
def yX12_leaves : MethodName := ⟨RX12, "leaves", "(II)I"⟩
abbrev cX12_whyNot : ByteArray := prog_14_method_102_code
def yX12_whyNot : MethodName := ⟨RX12, "whyNot", "(II)I"⟩
abbrev cX12_cellOf : ByteArray := prog_14_method_103_code
def yX12_cellOf : MethodName := ⟨RX12, "cellOf", "(II)I"⟩
abbrev cX12_laysRead : ByteArray := prog_14_method_104_code
def yX12_laysRead : MethodName := ⟨RX12, "laysRead", "(II)Z"⟩
abbrev cX12_readBy : ByteArray := prog_14_method_105_code
def yX12_readBy : MethodName := ⟨RX12, "readBy", "(III)I"⟩
abbrev cX12_reads : ByteArray := prog_14_method_106_code
def yX12_reads : MethodName := ⟨RX12, "reads", "(II)I"⟩
abbrev cX12_order : ByteArray := prog_14_method_107_code
def yX12_order : MethodName := ⟨RX12, "order", "(III)I"⟩
abbrev cX12_laysShared : ByteArray := prog_14_method_108_code
def yX12_laysShared : MethodName := ⟨RX12, "laysShared", "(I)V"⟩
abbrev cX12_shares : ByteArray := prog_14_method_109_code
def yX12_shares : MethodName := ⟨RX12, "shares", "(II)I"⟩
abbrev cX12_first : ByteArray := prog_14_method_110_code
def yX12_first : MethodName := ⟨RX12, "first", "(II)I"⟩
abbrev cX12_placeOf : ByteArray := prog_14_method_111_code
def yX12_placeOf : MethodName := ⟨RX12, "placeOf", "(I)I"⟩
abbrev cX12_puts : ByteArray := prog_14_method_112_code
def yX12_puts : MethodName := ⟨RX12, "puts", "(II)V"⟩
abbrev cX12_laysOrders : ByteArray := prog_14_method_113_code
def yX12_laysOrders : MethodName := ⟨RX12, "laysOrders", "()V"⟩
abbrev cX12_sends : ByteArray := prog_14_method_114_code
def yX12_sends : MethodName := ⟨RX12, "sends", "()I"⟩
abbrev cX12_orders : ByteArray := prog_14_method_115_code
def yX12_orders : MethodName := ⟨RX12, "orders", "()I"⟩
abbrev cX12_earliest : ByteArray := prog_14_method_116_code
def yX12_earliest : MethodName := ⟨RX12, "earliest", "(I)I"⟩
abbrev cX12_gives : ByteArray := prog_14_method_117_code
def yX12_gives : MethodName := ⟨RX12, "gives", "()Z"⟩
abbrev cX12_laysWorth : ByteArray := prog_14_method_118_code
def yX12_laysWorth : MethodName := ⟨RX12, "laysWorth", "(I)V"⟩
abbrev cX12_worth : ByteArray := prog_14_method_119_code
def yX12_worth : MethodName := ⟨RX12, "worth", "(II)I"⟩
abbrev cX12_rest : ByteArray := prog_14_method_120_code
def yX12_rest : MethodName := ⟨RX12, "rest", "()I"⟩
abbrev cX12_saint : ByteArray := prog_14_method_121_code
def yX12_saint : MethodName := ⟨RX12, "saint", "(I)I"⟩
abbrev cX12_laysMeets : ByteArray := prog_14_method_122_code
def yX12_laysMeets : MethodName := ⟨RX12, "laysMeets", "(II)V"⟩
abbrev cX12_meets : ByteArray := prog_14_method_123_code
def yX12_meets : MethodName := ⟨RX12, "meets", "(II)I"⟩
abbrev cX12_nearest : ByteArray := prog_14_method_124_code
def yX12_nearest : MethodName := ⟨RX12, "nearest", "(II)I"⟩
abbrev cX12_third : ByteArray := prog_14_method_125_code
def yX12_third : MethodName := ⟨RX12, "third", "(II)I"⟩
abbrev cX12_scholarOf : ByteArray := prog_14_method_126_code
def yX12_scholarOf : MethodName := ⟨RX12, "scholarOf", "(I)I"⟩
abbrev cX12_citedOf : ByteArray := prog_14_method_127_code
def yX12_citedOf : MethodName := ⟨RX12, "citedOf", "(I)I"⟩
abbrev cX12_cited : ByteArray := prog_14_method_128_code
def yX12_cited : MethodName := ⟨RX12, "cited", "(I)I"⟩
abbrev cX12_famous : ByteArray := prog_14_method_129_code
def yX12_famous : MethodName := ⟨RX12, "famous", "(I)I"⟩
abbrev cX12_quotes : ByteArray := prog_14_method_130_code
def yX12_quotes : MethodName := ⟨RX12, "quotes", "(II)I"⟩
abbrev cX12_drawnOf : ByteArray := prog_14_method_131_code
def yX12_drawnOf : MethodName := ⟨RX12, "drawnOf", "(J)I"⟩
abbrev cX12_isSeed : ByteArray := prog_14_method_132_code
def yX12_isSeed : MethodName := ⟨RX12, "isSeed", "(I)Z"⟩
abbrev cX12_drawn : ByteArray := prog_14_method_133_code
def yX12_drawn : MethodName := ⟨RX12, "drawn", "(I)I"⟩
abbrev cX12_shaken : ByteArray := prog_14_method_134_code
def yX12_shaken : MethodName := ⟨RX12, "shaken", "(I)I"⟩
abbrev cX12_years : ByteArray := prog_14_method_135_code
def yX12_years : MethodName := ⟨RX12, "years", "(III)I"⟩
abbrev cX12_count : ByteArray := prog_14_method_136_code
def yX12_count : MethodName := ⟨RX12, "count", "(I)I"⟩
abbrev cX12_image : ByteArray := prog_14_method_137_code
def yX12_image : MethodName := ⟨RX12, "image", "(I)I"⟩
abbrev cX12_back : ByteArray := prog_14_method_138_code
def yX12_back : MethodName := ⟨RX12, "back", "(I)I"⟩
def RJx145de : String := "java/io/Serializable"
def TJx145de : u_T := fun k => match k with
  | _ => ("", "", "", false)
def tyJx145de : Nat → FieldType := fun k => match k with
  | _ => .int
theorem nmJx145de : ∀ a, a < 0 → ∀ b, b < 0 → a ≠ b → (TJx145de a).2.1 ≠ (TJx145de b).2.1 := by decide +kernel
theorem tyJx145de_ok : ∀ k, k < 0 → parseFieldDescriptor (TJx145de k).2.2.1 = some (tyJx145de k) := by decide +kernel
def RJx9f9b0 : String := "java/lang/CharSequence"
def TJx9f9b0 : u_T := fun k => match k with
  | _ => ("", "", "", false)
def tyJx9f9b0 : Nat → FieldType := fun k => match k with
  | _ => .int
theorem nmJx9f9b0 : ∀ a, a < 0 → ∀ b, b < 0 → a ≠ b → (TJx9f9b0 a).2.1 ≠ (TJx9f9b0 b).2.1 := by decide +kernel
theorem tyJx9f9b0_ok : ∀ k, k < 0 → parseFieldDescriptor (TJx9f9b0 k).2.2.1 = some (tyJx9f9b0 k) := by decide +kernel
def RJxb160c : String := "java/lang/Comparable"
def TJxb160c : u_T := fun k => match k with
  | _ => ("", "", "", false)
def tyJxb160c : Nat → FieldType := fun k => match k with
  | _ => .int
theorem nmJxb160c : ∀ a, a < 0 → ∀ b, b < 0 → a ≠ b → (TJxb160c a).2.1 ≠ (TJxb160c b).2.1 := by decide +kernel
theorem tyJxb160c_ok : ∀ k, k < 0 → parseFieldDescriptor (TJxb160c k).2.2.1 = some (tyJxb160c k) := by decide +kernel
def RJ6 : String := "java/lang/Integer"
def TJ6 : u_T := fun k => match k with
  | _ => ("", "", "", false)
def tyJ6 : Nat → FieldType := fun k => match k with
  | _ => .int
theorem nmJ6 : ∀ a, a < 0 → ∀ b, b < 0 → a ≠ b → (TJ6 a).2.1 ≠ (TJ6 b).2.1 := by decide +kernel
theorem tyJ6_ok : ∀ k, k < 0 → parseFieldDescriptor (TJ6 k).2.2.1 = some (tyJ6 k) := by decide +kernel
abbrev cJ6_bitCount_0f7a4 : ByteArray := prog_15_method_49_code
def yJ6_bitCount_0f7a4 : MethodName := ⟨RJ6, "bitCount", "(I)I"⟩
def RJ9 : String := "java/lang/Math"
def TJ9 : u_T := fun k => match k with
  | _ => ("", "", "", false)
def tyJ9 : Nat → FieldType := fun k => match k with
  | _ => .int
theorem nmJ9 : ∀ a, a < 0 → ∀ b, b < 0 → a ≠ b → (TJ9 a).2.1 ≠ (TJ9 b).2.1 := by decide +kernel
theorem tyJ9_ok : ∀ k, k < 0 → parseFieldDescriptor (TJ9 k).2.2.1 = some (tyJ9 k) := by decide +kernel
abbrev cJ9_max_7cf53 : ByteArray := prog_16_method_65_code
def yJ9_max_7cf53 : MethodName := ⟨RJ9, "max", "(II)I"⟩
abbrev cJ9_min_7cf53 : ByteArray := prog_16_method_69_code
def yJ9_min_7cf53 : MethodName := ⟨RJ9, "min", "(II)I"⟩
def RJ0 : String := "java/lang/String"
def TJ0 : u_T := fun k => match k with
  | _ => ("", "", "", false)
def tyJ0 : Nat → FieldType := fun k => match k with
  | _ => .int
theorem nmJ0 : ∀ a, a < 0 → ∀ b, b < 0 → a ≠ b → (TJ0 a).2.1 ≠ (TJ0 b).2.1 := by decide +kernel
theorem tyJ0_ok : ∀ k, k < 0 → parseFieldDescriptor (TJ0 k).2.2.1 = some (tyJ0 k) := by decide +kernel
abbrev cJ0_length_8abf5 : ByteArray := prog_17_method_54_code
def yJ0_length_8abf5 : MethodName := ⟨RJ0, "length", "()I"⟩
abbrev cJ0_charAt_5068e : ByteArray := prog_17_method_56_code
def yJ0_charAt_5068e : MethodName := ⟨RJ0, "charAt", "(I)C"⟩
abbrev cJ0_coder_7d493 : ByteArray := prog_17_method_152_code
def yJ0_coder_7d493 : MethodName := ⟨RJ0, "coder", "()B"⟩
abbrev cJ0_isLatin1_aae02 : ByteArray := prog_17_method_154_code
def yJ0_isLatin1_aae02 : MethodName := ⟨RJ0, "isLatin1", "()Z"⟩
abbrev cJ0_checkIndex_df160 : ByteArray := prog_17_method_155_code
def yJ0_checkIndex_df160 : MethodName := ⟨RJ0, "checkIndex", "(II)V"⟩
def RJ1 : String := "java/lang/StringLatin1"
def TJ1 : u_T := fun k => match k with
  | _ => ("", "", "", false)
def tyJ1 : Nat → FieldType := fun k => match k with
  | _ => .int
theorem nmJ1 : ∀ a, a < 0 → ∀ b, b < 0 → a ≠ b → (TJ1 a).2.1 ≠ (TJ1 b).2.1 := by decide +kernel
theorem tyJ1_ok : ∀ k, k < 0 → parseFieldDescriptor (TJ1 k).2.2.1 = some (tyJ1 k) := by decide +kernel
abbrev cJ1_charAt_3b067 : ByteArray := prog_18_method_2_code
def yJ1_charAt_3b067 : MethodName := ⟨RJ1, "charAt", "([BI)C"⟩
def RJ2 : String := "java/lang/StringUTF16"
def TJ2 : u_T := fun k => match k with
  | _ => ("", "", "", false)
def tyJ2 : Nat → FieldType := fun k => match k with
  | _ => .int
theorem nmJ2 : ∀ a, a < 0 → ∀ b, b < 0 → a ≠ b → (TJ2 a).2.1 ≠ (TJ2 b).2.1 := by decide +kernel
theorem tyJ2_ok : ∀ k, k < 0 → parseFieldDescriptor (TJ2 k).2.2.1 = some (tyJ2 k) := by decide +kernel
abbrev cJ2_getChar_3b067 : ByteArray := prog_19_method_5_code
def yJ2_getChar_3b067 : MethodName := ⟨RJ2, "getChar", "([BI)C"⟩
abbrev cJ2_length_9d52b : ByteArray := prog_19_method_6_code
def yJ2_length_9d52b : MethodName := ⟨RJ2, "length", "([B)I"⟩
abbrev cJ2_charAt_3b067 : ByteArray := prog_19_method_83_code
def yJ2_charAt_3b067 : MethodName := ⟨RJ2, "charAt", "([BI)C"⟩
abbrev cJ2_checkIndex_2214a : ByteArray := prog_19_method_91_code
def yJ2_checkIndex_2214a : MethodName := ⟨RJ2, "checkIndex", "(I[B)V"⟩
def RJ10 : String := "java/lang/System"
def TJ10 : u_T := fun k => match k with
  | _ => ("", "", "", false)
def tyJ10 : Nat → FieldType := fun k => match k with
  | _ => .int
theorem nmJ10 : ∀ a, a < 0 → ∀ b, b < 0 → a ≠ b → (TJ10 a).2.1 ≠ (TJ10 b).2.1 := by decide +kernel
theorem tyJ10_ok : ∀ k, k < 0 → parseFieldDescriptor (TJ10 k).2.2.1 = some (tyJ10 k) := by decide +kernel
def RJxfd54e : String := "java/lang/constant/Constable"
def TJxfd54e : u_T := fun k => match k with
  | _ => ("", "", "", false)
def tyJxfd54e : Nat → FieldType := fun k => match k with
  | _ => .int
theorem nmJxfd54e : ∀ a, a < 0 → ∀ b, b < 0 → a ≠ b → (TJxfd54e a).2.1 ≠ (TJxfd54e b).2.1 := by decide +kernel
theorem tyJxfd54e_ok : ∀ k, k < 0 → parseFieldDescriptor (TJxfd54e k).2.2.1 = some (tyJxfd54e k) := by decide +kernel
def RJx3cf43 : String := "java/lang/constant/ConstantDesc"
def TJx3cf43 : u_T := fun k => match k with
  | _ => ("", "", "", false)
def tyJx3cf43 : Nat → FieldType := fun k => match k with
  | _ => .int
theorem nmJx3cf43 : ∀ a, a < 0 → ∀ b, b < 0 → a ≠ b → (TJx3cf43 a).2.1 ≠ (TJx3cf43 b).2.1 := by decide +kernel
theorem tyJx3cf43_ok : ∀ k, k < 0 → parseFieldDescriptor (TJx3cf43 k).2.2.1 = some (tyJx3cf43 k) := by decide +kernel
def RJ7 : String := "java/util/Arrays"
def TJ7 : u_T := fun k => match k with
  | _ => ("", "", "", false)
def tyJ7 : Nat → FieldType := fun k => match k with
  | _ => .int
theorem nmJ7 : ∀ a, a < 0 → ∀ b, b < 0 → a ≠ b → (TJ7 a).2.1 ≠ (TJ7 b).2.1 := by decide +kernel
theorem tyJ7_ok : ∀ k, k < 0 → parseFieldDescriptor (TJ7 k).2.2.1 = some (tyJ7 k) := by decide +kernel
abbrev cJ7_fill_d0a16 : ByteArray := prog_21_method_101_code
def yJ7_fill_d0a16 : MethodName := ⟨RJ7, "fill", "([JJ)V"⟩
abbrev cJ7_fill_53178 : ByteArray := prog_21_method_103_code
def yJ7_fill_53178 : MethodName := ⟨RJ7, "fill", "([II)V"⟩
def RJ3 : String := "jdk/internal/util/Preconditions"
def TJ3 : u_T := fun k => match k with
  | _ => ("", "", "", false)
def tyJ3 : Nat → FieldType := fun k => match k with
  | _ => .int
theorem nmJ3 : ∀ a, a < 0 → ∀ b, b < 0 → a ≠ b → (TJ3 a).2.1 ≠ (TJ3 b).2.1 := by decide +kernel
theorem tyJ3_ok : ∀ k, k < 0 → parseFieldDescriptor (TJ3 k).2.2.1 = some (tyJ3 k) := by decide +kernel
abbrev cJ3_checkIndex_8e157 : ByteArray := prog_22_method_11_code
def yJ3_checkIndex_8e157 : MethodName := ⟨RJ3, "checkIndex", "(IILjava/util/function/BiFunction;)I"⟩
def RL : String := "FootNotesLaw"
abbrev cL_law : ByteArray := code
def yL_law : MethodName := ⟨RL, "law", "([I)Z"⟩
set_option maxRecDepth 20000 in
abbrev vwCl : List vw_C := [(RX0, TX0, 12), (RX1, TX1, 4), (RX2, TX2, 6), (RX3, TX3, 4), (RX4, TX4, 4), (RX5, TX5, 8), (RX6, TX6, 5), (RX7, TX7, 15), (RX8, TX8, 4), (RX9, TX9, 6), (RX10, TX10, 7), (RX11, TX11, 13), (RX12, TX12, 51)]
/-- the links between the classes of one nest -/
def fn_nws : List Cond := [Cond.methodLinkNest "FootNotes" 9 ⟨"FootNotes$Reader", "<init>", "()V"⟩ "FootNotes",
  Cond.methodLinkNest "FootNotes$Reader" 11 ⟨"FootNotes$Tape", "<init>", "()V"⟩ "FootNotes",
  Cond.fieldLinkNest "FootNotes" 91 "FootNotes$Tape" "size" "I" "FootNotes",
  Cond.fieldLinkNest "FootNotes$Reader" 38 "FootNotes$Tape" "kind" "I" "FootNotes",
  Cond.fieldLinkNest "FootNotes$Reader" 87 "FootNotes$Tape" "start" "I" "FootNotes",
  Cond.methodLinkNest "FootNotes$Reader" 20 ⟨"FootNotes$Text", "<init>", "()V"⟩ "FootNotes",
  Cond.fieldLinkNest "FootNotes$Reader" 47 "FootNotes$Text" "lines" "I" "FootNotes",
  Cond.fieldLinkNest "FootNotes" 120 "FootNotes$Text" "lines" "I" "FootNotes",
  Cond.fieldLinkNest "FootNotes$Turns" 24 "FootNotes$Text" "opens" "I" "FootNotes",
  Cond.fieldLinkNest "FootNotes$Reader" 101 "FootNotes$Text" "opens" "I" "FootNotes",
  Cond.fieldLinkNest "FootNotes" 440 "FootNotes$Text" "opens" "I" "FootNotes",
  Cond.fieldLinkNest "FootNotes$Reader" 105 "FootNotes$Text" "odds" "I" "FootNotes",
  Cond.fieldLinkNest "FootNotes" 434 "FootNotes$Text" "odds" "I" "FootNotes",
  Cond.fieldLinkNest "FootNotes$Precedence" 21 "FootNotes$Text" "books" "I" "FootNotes",
  Cond.fieldLinkNest "FootNotes$Shelf" 37 "FootNotes$Text" "books" "I" "FootNotes",
  Cond.fieldLinkNest "FootNotes$Turns" 40 "FootNotes$Text" "books" "I" "FootNotes",
  Cond.fieldLinkNest "FootNotes$Web" 62 "FootNotes$Text" "books" "I" "FootNotes",
  Cond.fieldLinkNest "FootNotes$Reader" 107 "FootNotes$Text" "books" "I" "FootNotes",
  Cond.fieldLinkNest "FootNotes" 364 "FootNotes$Text" "books" "I" "FootNotes",
  Cond.fieldLinkNest "FootNotes$Web" 24 "FootNotes$Text" "pages" "I" "FootNotes",
  Cond.fieldLinkNest "FootNotes$Faith" 21 "FootNotes$Text" "pages" "I" "FootNotes",
  Cond.fieldLinkNest "FootNotes$Reader" 76 "FootNotes$Text" "pages" "I" "FootNotes",
  Cond.fieldLinkNest "FootNotes$Ledger" 52 "FootNotes$Text" "pages" "I" "FootNotes",
  Cond.fieldLinkNest "FootNotes" 218 "FootNotes$Text" "pages" "I" "FootNotes",
  Cond.fieldLinkNest "FootNotes$Ledger" 30 "FootNotes$Text" "notes" "I" "FootNotes",
  Cond.fieldLinkNest "FootNotes$Web" 41 "FootNotes$Text" "notes" "I" "FootNotes",
  Cond.fieldLinkNest "FootNotes$Faith" 37 "FootNotes$Text" "notes" "I" "FootNotes",
  Cond.fieldLinkNest "FootNotes$Precedence" 51 "FootNotes$Text" "notes" "I" "FootNotes",
  Cond.fieldLinkNest "FootNotes$Reader" 116 "FootNotes$Text" "notes" "I" "FootNotes",
  Cond.fieldLinkNest "FootNotes" 192 "FootNotes$Text" "notes" "I" "FootNotes",
  Cond.fieldLinkNest "FootNotes$Faith" 30 "FootNotes$Text" "facts" "I" "FootNotes",
  Cond.fieldLinkNest "FootNotes$Web" 68 "FootNotes$Text" "facts" "I" "FootNotes",
  Cond.fieldLinkNest "FootNotes$Reader" 73 "FootNotes$Text" "facts" "I" "FootNotes",
  Cond.fieldLinkNest "FootNotes" 145 "FootNotes$Text" "facts" "I" "FootNotes",
  Cond.fieldLinkNest "FootNotes$Reader" 85 "FootNotes$Text" "dead" "I" "FootNotes",
  Cond.fieldLinkNest "FootNotes" 160 "FootNotes$Text" "dead" "I" "FootNotes",
  Cond.fieldLinkNest "FootNotes$Faith" 46 "FootNotes$Text" "denials" "I" "FootNotes",
  Cond.fieldLinkNest "FootNotes" 179 "FootNotes$Text" "denials" "I" "FootNotes",
  Cond.fieldLinkNest "FootNotes" 151 "FootNotes$Text" "scholar" "[I" "FootNotes",
  Cond.fieldLinkNest "FootNotes$Shelf" 46 "FootNotes$Text" "firstPage" "[I" "FootNotes",
  Cond.fieldLinkNest "FootNotes$Precedence" 59 "FootNotes$Text" "bookOf" "[I" "FootNotes",
  Cond.fieldLinkNest "FootNotes" 134 "FootNotes$Text" "bookOf" "[I" "FootNotes",
  Cond.fieldLinkNest "FootNotes$Web" 44 "FootNotes$Text" "notePage" "[I" "FootNotes",
  Cond.fieldLinkNest "FootNotes$Ledger" 41 "FootNotes$Text" "notePage" "[I" "FootNotes",
  Cond.fieldLinkNest "FootNotes$Faith" 43 "FootNotes$Text" "notePage" "[I" "FootNotes",
  Cond.fieldLinkNest "FootNotes$Precedence" 62 "FootNotes$Text" "notePage" "[I" "FootNotes",
  Cond.fieldLinkNest "FootNotes" 170 "FootNotes$Text" "notePage" "[I" "FootNotes",
  Cond.fieldLinkNest "FootNotes$Web" 52 "FootNotes$Text" "noteBook" "[I" "FootNotes",
  Cond.fieldLinkNest "FootNotes" 173 "FootNotes$Text" "noteBook" "[I" "FootNotes",
  Cond.fieldLinkNest "FootNotes$Shelf" 49 "FootNotes$Text" "noteLeaf" "[I" "FootNotes",
  Cond.fieldLinkNest "FootNotes" 87 "FootNotes$Reader" "tape" "LFootNotes$Tape;" "FootNotes",
  Cond.fieldLinkNest "FootNotes" 107 "FootNotes$Reader" "told" "LFootNotes$Text;" "FootNotes",
  Cond.fieldLinkNest "FootNotes" 104 "FootNotes$Reader" "fault" "I" "FootNotes",
  Cond.fieldLinkNest "FootNotes" 123 "FootNotes$Reader" "faultPlace" "I" "FootNotes",
  Cond.methodLinkNest "FootNotes" 18 ⟨"FootNotes$Text", "<init>", "()V"⟩ "FootNotes",
  Cond.methodLinkNest "FootNotes" 25 ⟨"FootNotes$Shelf", "<init>", "()V"⟩ "FootNotes",
  Cond.fieldLinkNest "FootNotes" 199 "FootNotes$Shelf" "acts" "I" "FootNotes",
  Cond.fieldLinkNest "FootNotes$Web" 65 "FootNotes$Shelf" "leafCount" "[I" "FootNotes",
  Cond.fieldLinkNest "FootNotes$Turns" 63 "FootNotes$Shelf" "leafCount" "[I" "FootNotes",
  Cond.fieldLinkNest "FootNotes" 154 "FootNotes$Shelf" "leafCount" "[I" "FootNotes",
  Cond.fieldLinkNest "FootNotes$Web" 47 "FootNotes$Shelf" "says" "[I" "FootNotes",
  Cond.fieldLinkNest "FootNotes" 176 "FootNotes$Shelf" "says" "[I" "FootNotes",
  Cond.methodLinkNest "FootNotes" 50 ⟨"FootNotes$Web", "<init>", "()V"⟩ "FootNotes",
  Cond.fieldLinkNest "FootNotes$Turns" 60 "FootNotes$Web" "pages" "I" "FootNotes",
  Cond.fieldLinkNest "FootNotes$Turns" 57 "FootNotes$Web" "place" "[I" "FootNotes",
  Cond.fieldLinkNest "FootNotes" 138 "FootNotes$Web" "place" "[I" "FootNotes",
  Cond.fieldLinkNest "FootNotes$Ledger" 36 "FootNotes$Web" "target" "[I" "FootNotes",
  Cond.fieldLinkNest "FootNotes$Faith" 38 "FootNotes$Web" "target" "[I" "FootNotes",
  Cond.fieldLinkNest "FootNotes$Precedence" 54 "FootNotes$Web" "target" "[I" "FootNotes",
  Cond.fieldLinkNest "FootNotes" 182 "FootNotes$Web" "target" "[I" "FootNotes",
  Cond.fieldLinkNest "FootNotes$Turns" 76 "FootNotes$Web" "next" "[I" "FootNotes",
  Cond.fieldLinkNest "FootNotes" 224 "FootNotes$Web" "steps" "[I" "FootNotes",
  Cond.methodLinkNest "FootNotes" 60 ⟨"FootNotes$Faith", "<init>", "()V"⟩ "FootNotes",
  Cond.fieldLinkNest "FootNotes" 269 "FootNotes$Faith" "found" "I" "FootNotes",
  Cond.fieldLinkNest "FootNotes" 276 "FootNotes$Faith" "largest" "I" "FootNotes",
  Cond.fieldLinkNest "FootNotes" 279 "FootNotes$Faith" "inAll" "I" "FootNotes",
  Cond.fieldLinkNest "FootNotes" 282 "FootNotes$Faith" "inNone" "I" "FootNotes",
  Cond.fieldLinkNest "FootNotes" 288 "FootNotes$Faith" "fewestDropped" "I" "FootNotes",
  Cond.fieldLinkNest "FootNotes" 291 "FootNotes$Faith" "loosestSet" "I" "FootNotes",
  Cond.methodLinkNest "FootNotes" 67 ⟨"FootNotes$Tour", "<init>", "()V"⟩ "FootNotes",
  Cond.methodLinkNest "FootNotes$Tour" 11 ⟨"FootNotes$Turns", "<init>", "()V"⟩ "FootNotes",
  Cond.fieldLinkNest "FootNotes" 297 "FootNotes$Tour" "turns" "LFootNotes$Turns;" "FootNotes",
  Cond.methodLinkNest "FootNotes" 74 ⟨"FootNotes$Precedence", "<init>", "()V"⟩ "FootNotes",
  Cond.fieldLinkNest "FootNotes" 367 "FootNotes$Precedence" "best" "[I" "FootNotes",
  Cond.fieldLinkNest "FootNotes" 360 "FootNotes$Precedence" "fewest" "I" "FootNotes",
  Cond.fieldLinkNest "FootNotes" 363 "FootNotes$Precedence" "found" "I" "FootNotes",
  Cond.methodLinkNest "FootNotes" 81 ⟨"FootNotes$Ledger", "<init>", "()V"⟩ "FootNotes",
  Cond.fieldLinkNest "FootNotes" 377 "FootNotes$Ledger" "purse" "[I" "FootNotes",
  Cond.methodLinkNest "FootNotes" 86 ⟨"FootNotes$Row", "<init>", "()V"⟩ "FootNotes",
  Cond.fieldLinkNest "FootNotes" 340 "FootNotes$Row" "present" "Z" "FootNotes",
  Cond.fieldLinkNest "FootNotes" 458 "FootNotes$Row" "width" "I" "FootNotes",
  Cond.fieldLinkNest "FootNotes" 327 "FootNotes$Row" "size" "I" "FootNotes",
  Cond.fieldLinkNest "FootNotes" 344 "FootNotes$Row" "numbers" "[J" "FootNotes",
  Cond.methodLinkNest "FootNotes" 97 ⟨"FootNotes$Tape", "put", "(I)V"⟩ "FootNotes",
  Cond.methodLinkNest "FootNotes" 101 ⟨"FootNotes$Reader", "readLines", "()V"⟩ "FootNotes",
  Cond.methodLinkNest "FootNotes$Reader" 32 ⟨"FootNotes$Text", "clear", "()V"⟩ "FootNotes",
  Cond.methodLinkNest "FootNotes$Reader" 35 ⟨"FootNotes$Tape", "goToFirstToken", "()V"⟩ "FootNotes",
  Cond.methodLinkNest "FootNotes$Reader" 55 ⟨"FootNotes$Tape", "isWord", "(Ljava/lang/String;)Z"⟩ "FootNotes",
  Cond.methodLinkNest "FootNotes$Reader" 127 ⟨"FootNotes$Tape", "moveOn", "()V"⟩ "FootNotes",
  Cond.methodLinkNest "FootNotes$Reader" 130 ⟨"FootNotes$Tape", "valueOfDigits", "()I"⟩ "FootNotes",
  Cond.methodLinkNest "FootNotes$Reader" 113 ⟨"FootNotes$Text", "addBook", "(II)V"⟩ "FootNotes",
  Cond.methodLinkNest "FootNotes$Reader" 123 ⟨"FootNotes$Text", "addNote", "(IIIZ)V"⟩ "FootNotes",
  Cond.methodLinkNest "FootNotes$Text" 64 ⟨"FootNotes", "bit", "(Z)I"⟩ "FootNotes",
  Cond.methodLinkNest "FootNotes" 110 ⟨"FootNotes$Text", "copyFrom", "(LFootNotes$Text;)V"⟩ "FootNotes",
  Cond.methodLinkNest "FootNotes" 114 ⟨"FootNotes$Shelf", "lay", "(LFootNotes$Text;)V"⟩ "FootNotes",
  Cond.methodLinkNest "FootNotes$Shelf" 42 ⟨"FootNotes$Text", "pagesIn", "(I)I"⟩ "FootNotes",
  Cond.methodLinkNest "FootNotes" 126 ⟨"FootNotes$Web", "weave", "(LFootNotes$Text;LFootNotes$Shelf;I)V"⟩ "FootNotes",
  Cond.methodLinkNest "FootNotes$Web" 55 ⟨"FootNotes$Shelf", "onLeaf", "(II)I"⟩ "FootNotes",
  Cond.methodLinkNest "FootNotes" 130 ⟨"FootNotes$Text", "hasPage", "(I)Z"⟩ "FootNotes",
  Cond.methodLinkNest "FootNotes" 141 ⟨"FootNotes$Text", "notesOn", "(I)I"⟩ "FootNotes",
  Cond.methodLinkNest "FootNotes" 148 ⟨"FootNotes$Text", "hasBook", "(I)Z"⟩ "FootNotes",
  Cond.methodLinkNest "FootNotes" 157 ⟨"FootNotes$Text", "pagesIn", "(I)I"⟩ "FootNotes",
  Cond.methodLinkNest "FootNotes" 163 ⟨"FootNotes$Shelf", "onLeaf", "(II)I"⟩ "FootNotes",
  Cond.methodLinkNest "FootNotes" 167 ⟨"FootNotes$Text", "hasNote", "(I)Z"⟩ "FootNotes",
  Cond.methodLinkNest "FootNotes" 185 ⟨"FootNotes$Text", "targetAtFirst", "(I)I"⟩ "FootNotes",
  Cond.methodLinkNest "FootNotes" 202 ⟨"FootNotes$Shelf", "putBlank", "(II)V"⟩ "FootNotes",
  Cond.methodLinkNest "FootNotes" 206 ⟨"FootNotes$Shelf", "tearOut", "(II)V"⟩ "FootNotes",
  Cond.methodLinkNest "FootNotes" 209 ⟨"FootNotes$Shelf", "reprint", "(II)V"⟩ "FootNotes",
  Cond.methodLinkNest "FootNotes" 212 ⟨"FootNotes$Shelf", "takeBack", "()V"⟩ "FootNotes",
  Cond.methodLinkNest "FootNotes" 215 ⟨"FootNotes$Web", "reachedFrom", "(I)I"⟩ "FootNotes",
  Cond.methodLinkNest "FootNotes" 221 ⟨"FootNotes$Web", "walkFrom", "(I)V"⟩ "FootNotes",
  Cond.methodLinkNest "FootNotes" 230 ⟨"FootNotes$Web", "wayLength", "(I)I"⟩ "FootNotes",
  Cond.methodLinkNest "FootNotes" 233 ⟨"FootNotes$Web", "nextOnWay", "(II)I"⟩ "FootNotes",
  Cond.methodLinkNest "FootNotes" 236 ⟨"FootNotes$Web", "farthestFrom", "(I)I"⟩ "FootNotes",
  Cond.methodLinkNest "FootNotes" 239 ⟨"FootNotes$Web", "groundedWithout", "(I)I"⟩ "FootNotes",
  Cond.methodLinkNest "FootNotes" 242 ⟨"FootNotes$Web", "lossBy", "(I)I"⟩ "FootNotes",
  Cond.methodLinkNest "FootNotes" 253 ⟨"FootNotes$Web", "leastCut", "(I)I"⟩ "FootNotes",
  Cond.methodLinkNest "FootNotes" 259 ⟨"FootNotes$Faith", "take", "(LFootNotes$Text;LFootNotes$Web;)V"⟩ "FootNotes",
  Cond.methodLinkNest "FootNotes" 263 ⟨"FootNotes$Faith", "canHold", "(I)Z"⟩ "FootNotes",
  Cond.methodLinkNest "FootNotes" 266 ⟨"FootNotes$Faith", "searchWays", "()V"⟩ "FootNotes",
  Cond.methodLinkNest "FootNotes" 285 ⟨"FootNotes$Faith", "searchLoosest", "(I)V"⟩ "FootNotes",
  Cond.methodLinkNest "FootNotes" 294 ⟨"FootNotes$Web", "isTorn", "(I)Z"⟩ "FootNotes",
  Cond.methodLinkNest "FootNotes" 301 ⟨"FootNotes$Turns", "measureFromDoors", "(LFootNotes$Text;LFootNotes$Shelf;LFootNotes$Web;)V"⟩ "FootNotes",
  Cond.methodLinkNest "FootNotes$Turns" 68 ⟨"FootNotes$Shelf", "onLeaf", "(II)I"⟩ "FootNotes",
  Cond.methodLinkNest "FootNotes" 307 ⟨"FootNotes$Turns", "measureFrom", "(ILFootNotes$Shelf;LFootNotes$Web;)V"⟩ "FootNotes",
  Cond.methodLinkNest "FootNotes$Turns" 51 ⟨"FootNotes$Web", "isTorn", "(I)Z"⟩ "FootNotes",
  Cond.methodLinkNest "FootNotes" 311 ⟨"FootNotes$Turns", "between", "(II)I"⟩ "FootNotes",
  Cond.methodLinkNest "FootNotes" 348 ⟨"FootNotes$Tour", "begin", "(I)V"⟩ "FootNotes",
  Cond.methodLinkNest "FootNotes" 351 ⟨"FootNotes$Tour", "addStop", "(I)V"⟩ "FootNotes",
  Cond.methodLinkNest "FootNotes" 354 ⟨"FootNotes$Tour", "plan", "()V"⟩ "FootNotes",
  Cond.methodLinkNest "FootNotes$Tour" 41 ⟨"FootNotes$Turns", "between", "(II)I"⟩ "FootNotes",
  Cond.methodLinkNest "FootNotes" 321 ⟨"FootNotes$Tour", "all", "()I"⟩ "FootNotes",
  Cond.methodLinkNest "FootNotes" 324 ⟨"FootNotes$Tour", "fewestFor", "(I)I"⟩ "FootNotes",
  Cond.methodLinkNest "FootNotes" 328 ⟨"FootNotes$Tour", "stopAt", "(I)I"⟩ "FootNotes",
  Cond.methodLinkNest "FootNotes" 331 ⟨"FootNotes$Tour", "fairestSet", "()I"⟩ "FootNotes",
  Cond.methodLinkNest "FootNotes" 334 ⟨"FootNotes$Tour", "longerOf", "(I)I"⟩ "FootNotes",
  Cond.methodLinkNest "FootNotes" 357 ⟨"FootNotes$Precedence", "search", "(LFootNotes$Text;LFootNotes$Web;)V"⟩ "FootNotes",
  Cond.methodLinkNest "FootNotes" 373 ⟨"FootNotes$Ledger", "runRounds", "(LFootNotes$Text;LFootNotes$Web;I)V"⟩ "FootNotes",
  Cond.methodLinkNest "FootNotes" 380 ⟨"FootNotes$Ledger", "open", "(LFootNotes$Text;LFootNotes$Web;)V"⟩ "FootNotes",
  Cond.methodLinkNest "FootNotes" 383 ⟨"FootNotes$Ledger", "roundChanges", "(LFootNotes$Text;LFootNotes$Web;)Z"⟩ "FootNotes",
  Cond.methodLinkNest "FootNotes" 401 ⟨"FootNotes$Web", "stepsBetween", "(II)I"⟩ "FootNotes",
  Cond.methodLinkNest "FootNotes" 413 ⟨"FootNotes$Text", "scholarOf", "(I)I"⟩ "FootNotes",
  Cond.methodLinkNest "FootNotes" 449 ⟨"FootNotes$Shelf", "copyFrom", "(LFootNotes$Shelf;)V"⟩ "FootNotes",
  Cond.methodLinkNest "FootNotes" 452 ⟨"FootNotes$Row", "begin", "(II)V"⟩ "FootNotes",
  Cond.methodLinkNest "FootNotes" 454 ⟨"FootNotes$Row", "cutToWidth", "(J)J"⟩ "FootNotes",
  Cond.methodLinkNest "FootNotes" 461 ⟨"FootNotes$Row", "spans", "(II)Z"⟩ "FootNotes"]
/-- the words that stay good over calls -/
def fn_big : List Cond := lw_tbl.filter goodWord
abbrev fn_ws (y : MethodName) (cc : ByteArray) (n : Nat) (ret : Option FieldType) : List Cond := Cond.code y cc n ret :: fn_big
theorem fn_tb {w : Cond} (h : w ∈ tables_1) (g : goodWord w = true) : w ∈ fn_big := List.mem_filter.mpr ⟨List.mem_append_right _ h, g⟩
theorem fn_one {w : Cond} (i : Nat) (h : tables_1[i]? = some w) (g : goodWord w = true) : w ∈ fn_big := fn_tb (List.mem_of_getElem? h) g
theorem fn_sel {q : MethodName × Nat} (i : Nat) (h : lw_privs[i]? = some q) (g : goodWord (Cond.selects q.1.cls q.1 q.1) = true) : Cond.selects q.1.cls q.1 q.1 ∈ fn_big := List.mem_filter.mpr ⟨List.mem_append_left _ (List.mem_map.mpr ⟨q, List.mem_of_getElem? h, rfl⟩), g⟩
theorem fn_sub {ws : List Cond} (ps : List Nat) (h : ws = ps.filterMap (fun i => tables_1[i]?)) (g : ws.all goodWord = true) : ∀ w ∈ ws, w ∈ fn_big := by
  intro w hw
  have h1 := List.all_eq_true.mp g w hw
  rw [h] at hw
  obtain ⟨i, -, hi⟩ := List.mem_filterMap.mp hw
  exact fn_tb (List.mem_of_getElem? hi) h1
theorem fn_gin {y : MethodName} {cc : ByteArray} {n : Nat} {ret : Option FieldType} (h : Cond.code y cc n ret ∈ fn_big) : GoodIn fn_big (fn_ws y cc n ret) := by
  intro w hw
  rcases List.mem_cons.mp hw with rfl | hw
  · exact ⟨h, good_of_word (List.mem_filter.mp h).2⟩
  · exact ⟨hw, good_of_word (List.mem_filter.mp hw).2⟩
theorem fn_big_in : ∀ w ∈ fn_big, w ∈ lw_tbl := fun w h => (List.mem_filter.mp h).1
theorem inb_X0 : ∀ w ∈ wsX00, w ∈ fn_big := fn_sub [281, 283, 285, 287, 289, 291, 293, 295, 297, 299, 301, 303] (by decide +kernel) (by decide +kernel)
theorem inb_X1 : ∀ w ∈ wsX10, w ∈ fn_big := fn_sub [390, 392, 394, 396] (by decide +kernel) (by decide +kernel)
theorem inb_X2 : ∀ w ∈ wsX20, w ∈ fn_big := fn_sub [366, 368, 370, 372, 374, 376] (by decide +kernel) (by decide +kernel)
theorem inb_X3 : ∀ w ∈ wsX30, w ∈ fn_big := fn_sub [167, 169, 171, 173] (by decide +kernel) (by decide +kernel)
theorem inb_X4 : ∀ w ∈ wsX40, w ∈ fn_big := fn_sub [412, 414, 416, 418] (by decide +kernel) (by decide +kernel)
theorem inb_X5 : ∀ w ∈ wsX50, w ∈ fn_big := fn_sub [198, 200, 202, 204, 206, 208, 210, 212] (by decide +kernel) (by decide +kernel)
theorem inb_X6 : ∀ w ∈ wsX60, w ∈ fn_big := fn_sub [50, 52, 54, 56, 58] (by decide +kernel) (by decide +kernel)
theorem inb_X7 : ∀ w ∈ wsX70, w ∈ fn_big := fn_sub [127, 129, 131, 133, 135, 137, 139, 141, 143, 145, 147, 149, 151, 153, 155] (by decide +kernel) (by decide +kernel)
theorem inb_X8 : ∀ w ∈ wsX80, w ∈ fn_big := fn_sub [342, 344, 346, 348] (by decide +kernel) (by decide +kernel)
theorem inb_X9 : ∀ w ∈ wsX90, w ∈ fn_big := fn_sub [324, 326, 328, 330, 332, 334] (by decide +kernel) (by decide +kernel)
theorem inb_X10 : ∀ w ∈ wsX100, w ∈ fn_big := fn_sub [241, 243, 245, 247, 249, 251, 253] (by decide +kernel) (by decide +kernel)
theorem inb_X11 : ∀ w ∈ wsX110, w ∈ fn_big := fn_sub [435, 437, 439, 441, 443, 445, 447, 449, 451, 453, 455, 457, 459] (by decide +kernel) (by decide +kernel)
theorem inb_X12 : ∀ w ∈ wsX120, w ∈ fn_big := fn_sub [1285, 1287, 1289, 1291, 1293, 1295, 1297, 1299, 1301, 1303, 1305, 1307, 1309, 1311, 1313, 1315, 1317, 1319, 1321, 1323, 1325, 1327, 1329, 1331, 1333, 1335, 1337, 1339, 1341, 1343, 1345, 1347, 1349, 1351, 1353, 1355, 1357, 1359, 1361, 1363, 1365, 1367, 1369, 1371, 1373, 1375, 1377, 1379, 1381, 1383, 1385] (by decide +kernel) (by decide +kernel)
end
section
theorem fn_nws_in : ∀ w ∈ fn_nws, w ∈ tables_1 := by
  have h : fn_nws = ([32, 38, 43, 45, 47, 64, 69, 70, 71, 73, 74, 76, 77, 78, 79, 81, 82, 83, 84, 85, 86, 88, 89, 90, 91, 93, 94, 95, 96, 97, 98, 100, 101, 102, 104, 105, 107, 108, 110, 112, 114, 115, 117, 118, 119, 120, 121, 123, 124, 126, 160, 162, 164, 166, 177, 180, 185, 187, 188, 189, 192, 193, 221, 226, 229, 230, 232, 233, 234, 235, 237, 239, 259, 270, 272, 274, 276, 278, 280, 308, 314, 338, 353, 361, 363, 365, 381, 386, 400, 405, 407, 409, 411, 466, 478, 482, 486, 510, 562, 572, 588, 599, 603, 616, 623, 627, 636, 647, 659, 663, 671, 675, 680, 685, 697, 715, 727, 736, 744, 760, 780, 790, 798, 807, 822, 834, 857, 872, 876, 888, 910, 922, 926, 939, 944, 948, 949, 968, 972, 976, 992, 993, 994, 1002, 1014, 1024, 1033, 1070, 1087, 1088, 1114, 1135, 1192, 1204, 1215, 1223] : List Nat).filterMap (fun i => tables_1[i]?) := by decide +kernel
  intro w hw
  rw [h] at hw
  obtain ⟨i, -, hi⟩ := List.mem_filterMap.mp hw
  exact List.mem_of_getElem? hi
/-! my own rows over the kit's: one bundle for what never changes in a method, one row a call -/
abbrev fn_tys (K : Nat → ClassId) : List (ClassId × FieldType) := [(K 0, .int), (K 1, .byte), (K 2, .boolean), (K 3, .long), (K 4, .object RX7), (K 5, .object RX5), (K 6, .object RX4)]
def fn_isN (w : Cond) : Bool := match w with
  | .fieldLinkNest _ _ _ _ _ _ => true
  | .methodLinkNest _ _ _ _ => true
  | _ => false
theorem fn_nws_ok : fn_nws.all fn_isN = true := by decide +kernel
def fn_NW (U : State) : Prop := ∀ w ∈ fn_nws, va_Nw w U
theorem fn_NW.warm {s U : State} (hW : s.WarmedH U.vm) (h : fn_NW s) : fn_NW U := by
  intro w hw
  have h1 := List.all_eq_true.mp fn_nws_ok w hw
  have h2 := h w hw
  cases w <;> first | (exact Bool.noConfusion h1) | exact va_Nw.warmF hW h2 | exact va_Nw.warmM hW h2
theorem fn_NW.same {u U : State} (hv : u.vm = U.vm) (h : fn_NW u) : fn_NW U := by
  intro w hw
  have h1 := List.all_eq_true.mp fn_nws_ok w hw
  have h2 := h w hw
  cases w <;> first | (exact Bool.noConfusion h1) | exact va_Nw.same rfl hv h2
def fn_KK (D : va_G) (K : Nat → ClassId) (U : State) : Prop := va_K D vwCl (fn_tys K) U ∧ fn_NW U
theorem fn_KK.warm {D : va_G} {K : Nat → ClassId} {s U : State} (hW : s.WarmedH U.vm) (h : fn_KK D K s) : fn_KK D K U := ⟨va_K.moved hW.alike h.1, h.2.warm hW⟩
theorem fn_KK.same {D : va_G} {K : Nat → ClassId} {u U : State} (hv : u.vm = U.vm) (h : fn_KK D K u) : fn_KK D K U := ⟨va_K.moved (by rw [hv]; exact Vm.Alike.refl _) h.1, h.2.same hv⟩
theorem fn_KK.nw {D : va_G} {K : Nat → ClassId} {s : State} (h : fn_KK D K s) (k : Nat) {w : Cond} (hk : fn_nws[k]? = some w) : va_Nw w s := h.2 w (List.mem_of_getElem? hk)
theorem fn_KK.nf {D : va_G} {K : Nat → ClassId} {s : State} {args : Array Value} (h : fn_KK D K s) (k : Nat) {a : String} {i : Nat} {b n d g : String} (hk : fn_nws[k]? = some (.fieldLinkNest a i b n d g)) : (Cond.fieldLinkNest a i b n d g).before args s = true := va_Nw.use rfl (h.nw k hk)
def fn_Pre (D : va_G) (K : Nat → ClassId) (wc : va_W) (sz : Nat) (U : State) : Prop := U.heap.size = sz ∧ va_P D vwCl wc U.heap ∧ fn_KK D K U ∧ va_D (fun _ => True) wc
theorem fn_blind {D : va_G} {K : Nat → ClassId} {wc : va_W} {sz : Nat} {av : List Value} : FrameBlind (va_Pc av (fn_Pre D K wc sz)) := fun a U g mk q => ⟨q.1, q.2.1, q.2.2.1, fn_KK.same (u := U) (U := U.calling g mk a) rfl q.2.2.2.1, q.2.2.2.2⟩
theorem fn_fm {ws wc : va_W} {is : List Nat} (h : is.map (fun i => ws[i]?) = wc.map some) : is.filterMap (fun i => ws[i]?) = wc := by
  have h1 := congrArg (List.filterMap id) h
  simpa [List.filterMap_map] using h1
theorem fn_pre {D : va_G} {K : Nat → ClassId} {s : State} {H : Heap} {A : Nat → Prop} {ws wc : va_W} {av : List Value} (hK : fn_KK D K s) (hP : va_P D vwCl ws H) (hD : va_D A ws) (isC : List Nat) (hn : va_nd isC = true) (hC : isC.map (fun i => ws[i]?) = wc.map some) :
    ∀ U : State, U.heap = H → s.WarmedH U.vm → va_Pc av (fn_Pre D K wc H.size) av.toArray U := fun U hU hW =>
  ⟨rfl, by rw [hU], by rw [hU]; exact hP.sub isC (fn_fm hC), hK.warm hW, (hD.sub isC hn hC).weaken (fun _ _ _ _ => trivial)⟩
theorem fn_nd : ∀ {a b : List Nat}, va_nd (a ++ b) = true → va_nd a = true ∧ va_nd b = true ∧ ∀ i ∈ a, i ∉ b
  | [], b, h => ⟨rfl, h, fun i hi => absurd hi List.not_mem_nil⟩
  | x :: a, b, h => by
    have h1 : (decide (x ∉ a ++ b) && va_nd (a ++ b)) = true := h
    rw [Bool.and_eq_true] at h1
    obtain ⟨h2, h3⟩ := h1
    have h2 : x ∉ a ++ b := of_decide_eq_true h2
    obtain ⟨k1, k2, k3⟩ := fn_nd h3
    refine ⟨?_, k2, ?_⟩
    · show (decide (x ∉ a) && va_nd a) = true
      rw [Bool.and_eq_true]
      exact ⟨decide_eq_true (fun hx => h2 (List.mem_append_left _ hx)), k1⟩
    · intro i hi
      rcases List.mem_cons.mp hi with rfl | hi
      · exact fun hx => h2 (List.mem_append_right _ hx)
      · exact k3 i hi
/-- a contract with an int answer: args av, cells wc; behind it the cells w1 u, and 'post answer u' -/
abbrev fn_CI {S : Type} (l : Launch) (D : va_G) (K : Nat → ClassId) (y : MethodName) (ws : List Cond) (rm : Room) (av : List Value) (wc : va_W) (post : Int32 → S → Prop) (w1 : S → va_W) (mc ms : Nat) : Prop :=
  ∀ sz : Nat, Met l y ws rm (va_Pc av (fn_Pre D K wc sz)) (va_Qi post (fun u t => va_P D vwCl (w1 u) t.heap ∧ va_D (va_A wc sz) (w1 u)) (va_A wc sz)) mc ms (va_A wc sz)
abbrev fn_CV {S : Type} (l : Launch) (D : va_G) (K : Nat → ClassId) (y : MethodName) (ws : List Cond) (rm : Room) (av : List Value) (wc : va_W) (post : S → Prop) (w1 : S → va_W) (mc ms : Nat) : Prop :=
  ∀ sz : Nat, Met l y ws rm (va_Pc av (fn_Pre D K wc sz)) (va_Qv post (fun u t => va_P D vwCl (w1 u) t.heap ∧ va_D (va_A wc sz) (w1 u)) (va_A wc sz)) mc ms (va_A wc sz)
section FnIn
variable {l : Launch} {D : va_G} {K : Nat → ClassId} {y : MethodName} {ws ws' : List Cond} {rm : Room} {av : List Value} {wc : va_W} {mc ms maxL : Nat} {cc : ByteArray} {ret : Option FieldType} {S : Type} {w1 : S → va_W}
/-- what holds in a body -/
abbrev fn_B (D : va_G) (K : Nat → ClassId) (y : MethodName) (ws : List Cond) (cc : ByteArray) (maxL : Nat) (ret : Option FieldType) (av : List Value) (p : Program) (s : State) (m : MethodId) (meth : Method) (c : Code) : Prop :=
  p.tables.exec = Jvm.exec ∧ c.code = cc ∧ meth.sig.returnType = ret ∧ c.maxLocals = maxL ∧ (∀ w ∈ ws, w.before av.toArray s = true) ∧ s.vm.findClass y.cls = some m.cls ∧ meth.locks = false ∧ meth.name = y.name ∧ fn_KK D K s
theorem fn_inI {post : Int32 → S → Prop} (hy : plainName y.cls = true) (hw : ws = Cond.code y cc maxL ret :: ws') (hav : (lg_sl av).length ≤ maxL)
    (body : ∀ (p : Program) (e : Env) (s : State) (m : MethodId) (below : List Frame) (meth : Method) (c : Code) (A : Nat → Prop) (ls : Array Slot), fn_B D K y ws cc maxL ret av p s m meth c → (∀ q, s.heap.size ≤ q → A q) → va_P D vwCl wc s.heap → va_D A wc → va_S A s.heap s.heap [] → lv_has ls maxL (lv_args 0 av) →
      W p l e (headSpec ws rm).room s m av.toArray below meth c s.heap [] 0 0 (MQ below (va_Qi post (fun u t => va_P D vwCl (w1 u) t.heap ∧ va_D A (w1 u)) A) av.toArray s mc ms A) (F0 m 0 ls [])) :
    fn_CI l D K y ws rm av wc post w1 mc ms := by
  intro sz
  refine Met.ofW (cc := cc) (maxL := maxL) (ret := ret) hy hw ?_
  intro p e s m args below meth c s₁ B hml hv
  obtain ⟨rfl, hsz, hP, hK, hD0⟩ := hv
  subst hsz
  rw [lg_entry_eq]
  exact body p e s m below meth c _ _ ⟨B.exec, B.bytes, B.returns, hml, atoms_spec (ws := ws) B.pre, findClass_of_methodNamed B.named, B.notSynchronized, (name_of_methodNamed B.named B.method).1, hK⟩ (fun q h => Or.inr h) hP (hD0.self (sz := s.heap.size)) va_S.rf (lv_entry av hav)
theorem fn_inV {post : S → Prop} (hy : plainName y.cls = true) (hw : ws = Cond.code y cc maxL ret :: ws') (hav : (lg_sl av).length ≤ maxL)
    (body : ∀ (p : Program) (e : Env) (s : State) (m : MethodId) (below : List Frame) (meth : Method) (c : Code) (A : Nat → Prop) (ls : Array Slot), fn_B D K y ws cc maxL ret av p s m meth c → (∀ q, s.heap.size ≤ q → A q) → va_P D vwCl wc s.heap → va_D A wc → va_S A s.heap s.heap [] → lv_has ls maxL (lv_args 0 av) →
      W p l e (headSpec ws rm).room s m av.toArray below meth c s.heap [] 0 0 (MQ below (va_Qv post (fun u t => va_P D vwCl (w1 u) t.heap ∧ va_D A (w1 u)) A) av.toArray s mc ms A) (F0 m 0 ls [])) :
    fn_CV l D K y ws rm av wc post w1 mc ms := by
  intro sz
  refine Met.ofW (cc := cc) (maxL := maxL) (ret := ret) hy hw ?_
  intro p e s m args below meth c s₁ B hml hv
  obtain ⟨rfl, hsz, hP, hK, hD0⟩ := hv
  subst hsz
  rw [lg_entry_eq]
  exact body p e s m below meth c _ _ ⟨B.exec, B.bytes, B.returns, hml, atoms_spec (ws := ws) B.pre, findClass_of_methodNamed B.named, B.notSynchronized, (name_of_methodNamed B.named B.method).1, hK⟩ (fun q h => Or.inr h) hP (hD0.self (sz := s.heap.size)) va_S.rf (lv_entry av hav)
end FnIn
section FnGo
variable {p : Program} {l : Launch} {e : Env} {R : Room} {s : State} {m : MethodId} {args : Array Value} {below : List Frame} {meth : Method} {c : Code} {H H0 : Heap} {locs : List Loc} {cells slots mc ms pc : Nat} {Q : State → Prop} {D : va_G} {K : Nat → ClassId} {A : Nat → Prop} {ws wc wr : va_W} {ls : Array Slot} {st0 rest : List Value} {S : Type} {w1 : S → va_W} {av : List Value} {a : Array Value} {cc : ByteArray}
theorem fn_goi {post : Int32 → S → Prop} (hK : fn_KK D K s) (hP : va_P D vwCl ws H) (hD : va_D A ws) (hS : va_S A H0 H locs) (hA : ∀ q, H0.size ≤ q → A q) (isC isR : List Nat) (hC : isC.map (fun i => ws[i]?) = wc.map some) (hR : isR.map (fun i => ws[i]?) = wr.map some) (hnd : va_nd (isR ++ isC) = true)
    (hr : (∀ U : State, U.heap = H → s.WarmedH U.vm → va_Pc av (fn_Pre D K wc H.size) av.toArray U) → va_Run p l e R s m args below meth c H locs cells slots mc ms (F0 m pc ls st0) rest (va_Qi post (fun u t => va_P D vwCl (w1 u) t.heap ∧ va_D (va_A wc H.size) (w1 u)) (va_A wc H.size) a) (va_A wc H.size))
    (kk : ∀ (r : Int32) (u : S) (H1 : Heap) (locs1 : List Loc), post r u → va_P D vwCl (wr ++ w1 u) H1 → va_D A (wr ++ w1 u) → va_S A H0 H1 locs1 → W p l e R s m args below meth c H1 locs1 (cells + mc) (slots + ms) Q (F0 m (pc + 3) ls (.int r :: rest))) :
    W p l e R s m args below meth c H locs cells slots Q (F0 m pc ls st0) := by
  obtain ⟨hnR, hnC, hdis⟩ := fn_nd hnd
  have hF := va_free hD hS hA isC hC
  refine va_calli (hr (fn_pre hK hP hD isC hnC hC)) hS (fun q _ h => hF q h) hF (fun r u t H1 locs1 ht hvm hw hB hz hk hS1 => ?_)
  obtain ⟨hP1, hD1⟩ := hB
  rw [ht] at hP1
  obtain ⟨h1, h2⟩ := va_join hP hD isC isR hC hR hnR hdis hk hF hP1 hD1
  exact kk r u H1 locs1 hw h1 h2 hS1
theorem fn_gov {post : S → Prop} (hK : fn_KK D K s) (hP : va_P D vwCl ws H) (hD : va_D A ws) (hS : va_S A H0 H locs) (hA : ∀ q, H0.size ≤ q → A q) (isC isR : List Nat) (hC : isC.map (fun i => ws[i]?) = wc.map some) (hR : isR.map (fun i => ws[i]?) = wr.map some) (hnd : va_nd (isR ++ isC) = true)
    (hr : (∀ U : State, U.heap = H → s.WarmedH U.vm → va_Pc av (fn_Pre D K wc H.size) av.toArray U) → va_Run p l e R s m args below meth c H locs cells slots mc ms (F0 m pc ls st0) rest (va_Qv post (fun u t => va_P D vwCl (w1 u) t.heap ∧ va_D (va_A wc H.size) (w1 u)) (va_A wc H.size) a) (va_A wc H.size))
    (kk : ∀ (u : S) (H1 : Heap) (locs1 : List Loc), post u → va_P D vwCl (wr ++ w1 u) H1 → va_D A (wr ++ w1 u) → va_S A H0 H1 locs1 → W p l e R s m args below meth c H1 locs1 (cells + mc) (slots + ms) Q (F0 m (pc + 3) ls rest)) :
    W p l e R s m args below meth c H locs cells slots Q (F0 m pc ls st0) := by
  obtain ⟨hnR, hnC, hdis⟩ := fn_nd hnd
  have hF := va_free hD hS hA isC hC
  refine va_callv (hr (fn_pre hK hP hD isC hnC hC)) hS (fun q _ h => hF q h) hF (fun u t H1 locs1 ht hvm hw hB hz hk hS1 => ?_)
  obtain ⟨hP1, hD1⟩ := hB
  rw [ht] at hP1
  obtain ⟨h1, h2⟩ := va_join hP hD isC isR hC hR hnR hdis hk hF hP1 hD1
  exact kk u H1 locs1 hw h1 h2 hS1
theorem fn_iret {post : Int32 → S → Prop} {v : Int32} {ty : FieldType} (hx : p.tables.exec = Jvm.exec) (hb : c.code = cc) (hr : meth.sig.returnType = some ty) (hlocks : meth.locks = false) (hn : narrow ty (.int v) = .int v) (hP : va_P D vwCl ws H) (hD : va_D A ws) (hS : va_S A s.heap H locs) (u : S) (hp : post v u) (is : List Nat) (hnd : va_nd is = true) (hs : is.map (fun i => ws[i]?) = (w1 u).map some) (hdg : decode cc pc = .ok (.ireturn, 1)) :
    W p l e R s m args below meth c H locs cells slots (MQ below (va_Qi post (fun u t => va_P D vwCl (w1 u) t.heap ∧ va_D A (w1 u)) A) args s cells slots A) (F0 m pc ls [.int v]) :=
  W.zret hx hb hr hn (fun t ht hW => ⟨⟨v, u, rfl, hp, by rw [ht]; exact hP.sub is (fn_fm hs), hD.sub is hnd hs⟩, hS.F ht⟩) hS.2.2 hdg hlocks
theorem fn_vret {post : S → Prop} (hx : p.tables.exec = Jvm.exec) (hb : c.code = cc) (hr : meth.sig.returnType = none) (hlocks : meth.locks = false) (hP : va_P D vwCl ws H) (hD : va_D A ws) (hS : va_S A s.heap H locs) (u : S) (hp : post u) (is : List Nat) (hnd : va_nd is = true) (hs : is.map (fun i => ws[i]?) = (w1 u).map some) (hdg : decode cc pc = .ok (.return_, 1)) :
    W p l e R s m args below meth c H locs cells slots (MQ below (va_Qv post (fun u t => va_P D vwCl (w1 u) t.heap ∧ va_D A (w1 u)) A) args s cells slots A) (F0 m pc ls []) :=
  W.vret hx hb hr (fun t ht hW => ⟨⟨u, rfl, hp, by rw [ht]; exact hP.sub is (fn_fm hs), hD.sub is hnd hs⟩, hS.F ht⟩) hS.2.2 hdg hlocks
theorem fn_top {x : Int32} (y : Int32) (h : x = y) (k : W p l e R s m args below meth c H locs cells slots Q (F0 m pc ls (.int y :: rest))) : W p l e R s m args below meth c H locs cells slots Q (F0 m pc ls (.int x :: rest)) := by rw [h]; exact k
theorem fn_topl {x : Int64} (y : Int64) (h : x = y) (k : W p l e R s m args below meth c H locs cells slots Q (F0 m pc ls (.long y :: rest))) : W p l e R s m args below meth c H locs cells slots Q (F0 m pc ls (.long x :: rest)) := by rw [h]; exact k
theorem fn_topv {x : Value} (y : Value) (h : x = y) (k : W p l e R s m args below meth c H locs cells slots Q (F0 m pc ls (y :: rest))) : W p l e R s m args below meth c H locs cells slots Q (F0 m pc ls (x :: rest)) := by rw [h]; exact k
end FnGo
theorem fn_gs {fs : List Value} {k j : Nat} {v w : Value} (hne : j ≠ k) (h : fs[k]? = some v) : (fs.set j w)[k]? = some v := by
  rw [List.getElem?_set_ne hne]; exact h
theorem fn_gss {fs : List Value} {k n : Nat} {w : Value} (hl : fs.length = n) (h : k < n) : (fs.set k w)[k]? = some w := by
  rw [List.getElem?_set_self (by rw [hl]; exact h)]
theorem fn_sl {fs : List Value} {k n : Nat} {w : Value} (hl : fs.length = n) : (fs.set k w).length = n := by rw [List.length_set]; exact hl
theorem fn_kl {fs : List Value} {k n : Nat} (hl : fs.length = n) (h : k < n) : k < fs.length := by rw [hl]; exact h
theorem fn_ginV {y : MethodName} {C : String} {own : String} {idx : Nat} {ws : List Cond} (h : GoodIn fn_big ws) (h1 : Cond.methodLink own idx y ∈ fn_big) (h2 : Cond.instanceMethod y ∈ fn_big) (h3 : Cond.selects C y y ∈ fn_big) (h4 : Cond.initialized C ∈ fn_big) : GoodIn fn_big (wsV own idx C y ws) := by
  intro w hw
  have hg : ∀ z ∈ fn_big, z ∈ fn_big ∧ ((z.onTables && z.keeps) = true ∨ ∃ ty, z = .arrayClass ty) := fun z hz => ⟨hz, good_of_word (List.mem_filter.mp hz).2⟩
  rcases List.mem_append.mp hw with hw | hw
  · rcases List.mem_cons.mp hw with rfl | hw
    · exact hg _ h1
    rcases List.mem_cons.mp hw with rfl | hw
    · exact hg _ h2
    rcases List.mem_cons.mp hw with rfl | hw
    · exact hg _ h3
    rcases List.mem_cons.mp hw with rfl | hw
    · exact hg _ h4
    exact absurd hw List.not_mem_nil
  · exact h w hw
theorem fn_ginS {y : MethodName} {own : String} {idx : Nat} {ws : List Cond} (h : GoodIn fn_big ws) (h1 : Cond.methodLink own idx y ∈ fn_big) (h2 : Cond.static y ∈ fn_big) (h4 : Cond.initialized y.cls ∈ fn_big) : GoodIn fn_big (va_wsS own idx y ws) := by
  intro w hw
  have hg : ∀ z ∈ fn_big, z ∈ fn_big ∧ ((z.onTables && z.keeps) = true ∨ ∃ ty, z = .arrayClass ty) := fun z hz => ⟨hz, good_of_word (List.mem_filter.mp hz).2⟩
  rcases List.mem_append.mp hw with hw | hw
  · rcases List.mem_cons.mp hw with rfl | hw
    · exact hg _ h1
    rcases List.mem_cons.mp hw with rfl | hw
    · exact hg _ h2
    rcases List.mem_cons.mp hw with rfl | hw
    · exact hg _ h4
    exact absurd hw List.not_mem_nil
  · exact h w hw
/-- two array classes of one component type are one -/
theorem fn_uniq {D : va_G} {cl : List vw_C} {tys : List (ClassId × FieldType)} {U : State} (h : va_K D cl tys U) (i j : Nat) {a b : ClassId} {ty : FieldType} (hi : tys[i]? = some (a, ty)) (hj : tys[j]? = some (b, ty)) (hp : refKind ty = false) : a = b := by
  have h1 := (h.2 i _ hi).2
  have h2 := (h.2 j _ hj).2
  cases ty <;> first | exact Bool.noConfusion hp | exact Option.some.inj (h1.symm.trans h2)
theorem fn_upd_all {f : Nat → Int32} {k : Nat} {v : Int32} (h : ∀ j, f j = v) : ∀ j, upd f k v j = v := by
  intro j
  unfold upd
  split
  · rfl
  · exact h j
theorem fn_updL_all {f : Nat → Int64} {k : Nat} {v : Int64} (h : ∀ j, f j = v) : ∀ j, vp_updL f k v j = v := by
  intro j
  unfold vp_updL
  split
  · rfl
  · exact h j
theorem fn_cpy_all {α : Type} {f g : Nat → α} {a b n : Nat} {v : α} (h : ∀ j, f j = v) (h2 : ∀ j, g j = v) : ∀ j, va_cpy f g a b n j = v := by
  intro j
  unfold va_cpy
  split
  · exact h _
  · exact h2 _
/-- low ≤ v ≤ high, as 1 or 0 -/
def fn_rng (v a b : Int64) : Int32 := if a ≤ v ∧ v ≤ b then 1 else 0
theorem fn_rng_1 {v a b : Int64} (h1 : ¬ lg_cmp v a < 0) (h2 : ¬ 0 < lg_cmp v b) : (1 : Int32) = fn_rng v a b := by
  rw [lg_cmp_lt] at h1
  rw [lg_cmp_gt] at h2
  unfold fn_rng
  rw [if_pos ⟨Int64.not_lt.mp h1, Int64.not_lt.mp h2⟩]
theorem fn_rng_0a {v a b : Int64} (h1 : lg_cmp v a < 0) : (0 : Int32) = fn_rng v a b := by
  rw [lg_cmp_lt] at h1
  unfold fn_rng
  rw [if_neg (fun h => absurd h1 (Int64.not_lt.mpr h.1))]
theorem fn_rng_0b {v a b : Int64} (h2 : 0 < lg_cmp v b) : (0 : Int32) = fn_rng v a b := by
  rw [lg_cmp_gt] at h2
  unfold fn_rng
  rw [if_neg (fun h => absurd h2 (Int64.not_lt.mpr h.2))]
theorem fn_cmp_no {v : Int64} (h1 : ¬ lg_cmp v 0 < 0) : 0 < lg_cmp v (-1) := by
  rw [lg_cmp_lt] at h1
  rw [lg_cmp_gt, Int64.lt_iff_toInt_lt]
  rw [Int64.lt_iff_toInt_lt] at h1
  have e0 : (0 : Int64).toInt = 0 := by decide
  have e1 : (-1 : Int64).toInt = -1 := by decide
  rw [e0] at h1
  rw [e1]
  omega
end
section
theorem wd_87 : Cond.fieldLink "FootNotes$Text" 43 "FootNotes$Text" "pages" "I" ∈ fn_big := fn_one 87 (by decide +kernel) (by decide +kernel)
theorem wd_80 : Cond.fieldLink "FootNotes$Text" 40 "FootNotes$Text" "books" "I" ∈ fn_big := fn_one 80 (by decide +kernel) (by decide +kernel)
theorem wd_92 : Cond.fieldLink "FootNotes$Text" 46 "FootNotes$Text" "notes" "I" ∈ fn_big := fn_one 92 (by decide +kernel) (by decide +kernel)
theorem wd_423 : Cond.fieldLink "FootNotes" 19 "FootNotes" "text" "LFootNotes$Text;" ∈ fn_big := fn_one 423 (by decide +kernel) (by decide +kernel)
theorem wd_662 : Cond.code ⟨"FootNotes$Text", "hasPage", "(I)Z"⟩ prog_9_method_6_code 2 (Option.some Jvm.ClassFile.FieldType.boolean) ∈ fn_big := fn_one 662 (by decide +kernel) (by decide +kernel)
theorem wd_4 : Cond.initialized "FootNotes$Text" ∈ fn_big := fn_one 4 (by decide +kernel) (by decide +kernel)
theorem wd_661 : Cond.instanceMethod ⟨"FootNotes$Text", "hasPage", "(I)Z"⟩ ∈ fn_big := fn_one 661 (by decide +kernel) (by decide +kernel)
theorem wp_25 : Cond.selects "FootNotes$Text" ⟨"FootNotes$Text", "hasPage", "(I)Z"⟩ ⟨"FootNotes$Text", "hasPage", "(I)Z"⟩ ∈ fn_big := fn_sel (q := (⟨"FootNotes$Text", "hasPage", "(I)Z"⟩, 15)) 25 (by decide +kernel) (by decide +kernel)
theorem wd_674 : Cond.code ⟨"FootNotes$Text", "hasBook", "(I)Z"⟩ prog_9_method_7_code 2 (Option.some Jvm.ClassFile.FieldType.boolean) ∈ fn_big := fn_one 674 (by decide +kernel) (by decide +kernel)
theorem wd_673 : Cond.instanceMethod ⟨"FootNotes$Text", "hasBook", "(I)Z"⟩ ∈ fn_big := fn_one 673 (by decide +kernel) (by decide +kernel)
theorem wp_27 : Cond.selects "FootNotes$Text" ⟨"FootNotes$Text", "hasBook", "(I)Z"⟩ ⟨"FootNotes$Text", "hasBook", "(I)Z"⟩ ∈ fn_big := fn_sel (q := (⟨"FootNotes$Text", "hasBook", "(I)Z"⟩, 15)) 27 (by decide +kernel) (by decide +kernel)
theorem wd_688 : Cond.code ⟨"FootNotes$Text", "hasNote", "(I)Z"⟩ prog_9_method_8_code 2 (Option.some Jvm.ClassFile.FieldType.boolean) ∈ fn_big := fn_one 688 (by decide +kernel) (by decide +kernel)
theorem wd_687 : Cond.instanceMethod ⟨"FootNotes$Text", "hasNote", "(I)Z"⟩ ∈ fn_big := fn_one 687 (by decide +kernel) (by decide +kernel)
theorem wp_28 : Cond.selects "FootNotes$Text" ⟨"FootNotes$Text", "hasNote", "(I)Z"⟩ ⟨"FootNotes$Text", "hasNote", "(I)Z"⟩ ∈ fn_big := fn_sel (q := (⟨"FootNotes$Text", "hasNote", "(I)Z"⟩, 15)) 28 (by decide +kernel) (by decide +kernel)
theorem wd_709 : Cond.code ⟨"FootNotes", "noTown", "()Z"⟩ prog_1_method_7_code 1 (Option.some Jvm.ClassFile.FieldType.boolean) ∈ fn_big := fn_one 709 (by decide +kernel) (by decide +kernel)
theorem wd_1 : Cond.initialized "FootNotes" ∈ fn_big := fn_one 1 (by decide +kernel) (by decide +kernel)
theorem wd_706 : Cond.methodLink "FootNotes" 188 ⟨"FootNotes", "noTown", "()Z"⟩ ∈ fn_big := fn_one 706 (by decide +kernel) (by decide +kernel)
theorem wd_708 : Cond.instanceMethod ⟨"FootNotes", "noTown", "()Z"⟩ ∈ fn_big := fn_one 708 (by decide +kernel) (by decide +kernel)
theorem wp_30 : Cond.selects "FootNotes" ⟨"FootNotes", "noTown", "()Z"⟩ ⟨"FootNotes", "noTown", "()Z"⟩ ∈ fn_big := fn_sel (q := (⟨"FootNotes", "noTown", "()Z"⟩, 13)) 30 (by decide +kernel) (by decide +kernel)
theorem wd_856 : Cond.code ⟨"FootNotes", "torn", "(I)I"⟩ prog_1_method_35_code 2 (Option.some Jvm.ClassFile.FieldType.int) ∈ fn_big := fn_one 856 (by decide +kernel) (by decide +kernel)
theorem wd_853 : Cond.methodLink "FootNotes" 245 ⟨"FootNotes", "torn", "(I)I"⟩ ∈ fn_big := fn_one 853 (by decide +kernel) (by decide +kernel)
theorem wd_854 : Cond.instanceMethod ⟨"FootNotes", "torn", "(I)I"⟩ ∈ fn_big := fn_one 854 (by decide +kernel) (by decide +kernel)
theorem wd_855 : Cond.selects "FootNotes" ⟨"FootNotes", "torn", "(I)I"⟩ ⟨"FootNotes", "torn", "(I)I"⟩ ∈ fn_big := fn_one 855 (by decide +kernel) (by decide +kernel)
theorem wd_900 : Cond.code ⟨"FootNotes", "mostly", "()I"⟩ prog_1_method_40_code 1 (Option.some Jvm.ClassFile.FieldType.int) ∈ fn_big := fn_one 900 (by decide +kernel) (by decide +kernel)
theorem wd_897 : Cond.methodLink "FootNotes" 272 ⟨"FootNotes", "mostly", "()I"⟩ ∈ fn_big := fn_one 897 (by decide +kernel) (by decide +kernel)
theorem wd_898 : Cond.instanceMethod ⟨"FootNotes", "mostly", "()I"⟩ ∈ fn_big := fn_one 898 (by decide +kernel) (by decide +kernel)
theorem wd_899 : Cond.selects "FootNotes" ⟨"FootNotes", "mostly", "()I"⟩ ⟨"FootNotes", "mostly", "()I"⟩ ∈ fn_big := fn_one 899 (by decide +kernel) (by decide +kernel)
theorem wd_871 : Cond.code ⟨"FootNotes", "noSet", "(I)Z"⟩ prog_1_method_36_code 2 (Option.some Jvm.ClassFile.FieldType.boolean) ∈ fn_big := fn_one 871 (by decide +kernel) (by decide +kernel)
theorem wd_868 : Cond.methodLink "FootNotes" 256 ⟨"FootNotes", "noSet", "(I)Z"⟩ ∈ fn_big := fn_one 868 (by decide +kernel) (by decide +kernel)
theorem wd_870 : Cond.instanceMethod ⟨"FootNotes", "noSet", "(I)Z"⟩ ∈ fn_big := fn_one 870 (by decide +kernel) (by decide +kernel)
theorem wp_45 : Cond.selects "FootNotes" ⟨"FootNotes", "noSet", "(I)Z"⟩ ⟨"FootNotes", "noSet", "(I)Z"⟩ ∈ fn_big := fn_sel (q := (⟨"FootNotes", "noSet", "(I)Z"⟩, 13)) 45 (by decide +kernel) (by decide +kernel)
theorem wd_1100 : Cond.code ⟨"FootNotes", "noPair", "(II)Z"⟩ prog_1_method_58_code 3 (Option.some Jvm.ClassFile.FieldType.boolean) ∈ fn_big := fn_one 1100 (by decide +kernel) (by decide +kernel)
theorem wd_1097 : Cond.methodLink "FootNotes" 387 ⟨"FootNotes", "noPair", "(II)Z"⟩ ∈ fn_big := fn_one 1097 (by decide +kernel) (by decide +kernel)
theorem wd_1099 : Cond.instanceMethod ⟨"FootNotes", "noPair", "(II)Z"⟩ ∈ fn_big := fn_one 1099 (by decide +kernel) (by decide +kernel)
theorem wp_79 : Cond.selects "FootNotes" ⟨"FootNotes", "noPair", "(II)Z"⟩ ⟨"FootNotes", "noPair", "(II)Z"⟩ ∈ fn_big := fn_sel (q := (⟨"FootNotes", "noPair", "(II)Z"⟩, 13)) 79 (by decide +kernel) (by decide +kernel)
theorem wd_1126 : Cond.code ⟨"FootNotes", "noScholar", "(I)Z"⟩ prog_1_method_63_code 2 (Option.some Jvm.ClassFile.FieldType.boolean) ∈ fn_big := fn_one 1126 (by decide +kernel) (by decide +kernel)
theorem wd_1123 : Cond.methodLink "FootNotes" 404 ⟨"FootNotes", "noScholar", "(I)Z"⟩ ∈ fn_big := fn_one 1123 (by decide +kernel) (by decide +kernel)
theorem wd_1125 : Cond.instanceMethod ⟨"FootNotes", "noScholar", "(I)Z"⟩ ∈ fn_big := fn_one 1125 (by decide +kernel) (by decide +kernel)
theorem wp_82 : Cond.selects "FootNotes" ⟨"FootNotes", "noScholar", "(I)Z"⟩ ⟨"FootNotes", "noScholar", "(I)Z"⟩ ∈ fn_big := fn_sel (q := (⟨"FootNotes", "noScholar", "(I)Z"⟩, 13)) 82 (by decide +kernel) (by decide +kernel)
theorem wd_1154 : Cond.code ⟨"FootNotes", "noSeed", "(I)Z"⟩ prog_1_method_69_code 2 (Option.some Jvm.ClassFile.FieldType.boolean) ∈ fn_big := fn_one 1154 (by decide +kernel) (by decide +kernel)
theorem wd_1151 : Cond.methodLink "FootNotes" 417 ⟨"FootNotes", "noSeed", "(I)Z"⟩ ∈ fn_big := fn_one 1151 (by decide +kernel) (by decide +kernel)
theorem wd_1153 : Cond.instanceMethod ⟨"FootNotes", "noSeed", "(I)Z"⟩ ∈ fn_big := fn_one 1153 (by decide +kernel) (by decide +kernel)
theorem wp_86 : Cond.selects "FootNotes" ⟨"FootNotes", "noSeed", "(I)Z"⟩ ⟨"FootNotes", "noSeed", "(I)Z"⟩ ∈ fn_big := fn_sel (q := (⟨"FootNotes", "noSeed", "(I)Z"⟩, 13)) 86 (by decide +kernel) (by decide +kernel)
theorem wd_1096 : Cond.code ⟨"FootNotes", "meets", "(II)I"⟩ prog_1_method_59_code 3 (Option.some Jvm.ClassFile.FieldType.int) ∈ fn_big := fn_one 1096 (by decide +kernel) (by decide +kernel)
theorem wd_1109 : Cond.methodLink "FootNotes" 398 ⟨"FootNotes", "meets", "(II)I"⟩ ∈ fn_big := fn_one 1109 (by decide +kernel) (by decide +kernel)
theorem wd_1094 : Cond.instanceMethod ⟨"FootNotes", "meets", "(II)I"⟩ ∈ fn_big := fn_one 1094 (by decide +kernel) (by decide +kernel)
theorem wd_1095 : Cond.selects "FootNotes" ⟨"FootNotes", "meets", "(II)I"⟩ ⟨"FootNotes", "meets", "(II)I"⟩ ∈ fn_big := fn_one 1095 (by decide +kernel) (by decide +kernel)
theorem wd_1251 : Cond.fieldLink "FootNotesModel" 34 "FootNotesModel" "has" "[I" ∈ fn_big := fn_one 1251 (by decide +kernel) (by decide +kernel)
theorem wd_1398 : Cond.code ⟨"FootNotesModel", "in", "(JJJ)Z"⟩ prog_14_method_3_code 6 (Option.some Jvm.ClassFile.FieldType.boolean) ∈ fn_big := fn_one 1398 (by decide +kernel) (by decide +kernel)
theorem wd_13 : Cond.initialized "FootNotesModel" ∈ fn_big := fn_one 13 (by decide +kernel) (by decide +kernel)
theorem wd_1396 : Cond.methodLink "FootNotesModel" 109 ⟨"FootNotesModel", "in", "(JJJ)Z"⟩ ∈ fn_big := fn_one 1396 (by decide +kernel) (by decide +kernel)
theorem wd_1397 : Cond.static ⟨"FootNotesModel", "in", "(JJJ)Z"⟩ ∈ fn_big := fn_one 1397 (by decide +kernel) (by decide +kernel)
theorem wd_1250 : Cond.fieldLink "FootNotesModel" 31 "FootNotesModel" "lines" "[I" ∈ fn_big := fn_one 1250 (by decide +kernel) (by decide +kernel)
theorem wd_1543 : Cond.code ⟨"FootNotesModel", "isPage", "(J)Z"⟩ prog_14_method_38_code 3 (Option.some Jvm.ClassFile.FieldType.boolean) ∈ fn_big := fn_one 1543 (by decide +kernel) (by decide +kernel)
theorem wd_1540 : Cond.methodLink "FootNotesModel" 262 ⟨"FootNotesModel", "isPage", "(J)Z"⟩ ∈ fn_big := fn_one 1540 (by decide +kernel) (by decide +kernel)
theorem wd_1542 : Cond.instanceMethod ⟨"FootNotesModel", "isPage", "(J)Z"⟩ ∈ fn_big := fn_one 1542 (by decide +kernel) (by decide +kernel)
theorem wp_116 : Cond.selects "FootNotesModel" ⟨"FootNotesModel", "isPage", "(J)Z"⟩ ⟨"FootNotesModel", "isPage", "(J)Z"⟩ ∈ fn_big := fn_sel (q := (⟨"FootNotesModel", "isPage", "(J)Z"⟩, 51)) 116 (by decide +kernel) (by decide +kernel)
theorem wd_1599 : Cond.code ⟨"FootNotesModel", "isTown", "()Z"⟩ prog_14_method_36_code 1 (Option.some Jvm.ClassFile.FieldType.boolean) ∈ fn_big := fn_one 1599 (by decide +kernel) (by decide +kernel)
theorem wd_1596 : Cond.methodLink "FootNotesModel" 267 ⟨"FootNotesModel", "isTown", "()Z"⟩ ∈ fn_big := fn_one 1596 (by decide +kernel) (by decide +kernel)
theorem wd_1598 : Cond.instanceMethod ⟨"FootNotesModel", "isTown", "()Z"⟩ ∈ fn_big := fn_one 1598 (by decide +kernel) (by decide +kernel)
theorem wp_124 : Cond.selects "FootNotesModel" ⟨"FootNotesModel", "isTown", "()Z"⟩ ⟨"FootNotesModel", "isTown", "()Z"⟩ ∈ fn_big := fn_sel (q := (⟨"FootNotesModel", "isTown", "()Z"⟩, 51)) 124 (by decide +kernel) (by decide +kernel)
theorem wd_1234 : Cond.fieldLink "FootNotesModel" 104 "FootNotesModel" "thrown" "I" ∈ fn_big := fn_one 1234 (by decide +kernel) (by decide +kernel)
theorem wd_1571 : Cond.code ⟨"FootNotesModel", "isBook", "(I)Z"⟩ prog_14_method_37_code 2 (Option.some Jvm.ClassFile.FieldType.boolean) ∈ fn_big := fn_one 1571 (by decide +kernel) (by decide +kernel)
theorem wd_1568 : Cond.methodLink "FootNotesModel" 289 ⟨"FootNotesModel", "isBook", "(I)Z"⟩ ∈ fn_big := fn_one 1568 (by decide +kernel) (by decide +kernel)
theorem wd_1570 : Cond.instanceMethod ⟨"FootNotesModel", "isBook", "(I)Z"⟩ ∈ fn_big := fn_one 1570 (by decide +kernel) (by decide +kernel)
theorem wp_122 : Cond.selects "FootNotesModel" ⟨"FootNotesModel", "isBook", "(I)Z"⟩ ⟨"FootNotesModel", "isBook", "(I)Z"⟩ ∈ fn_big := fn_sel (q := (⟨"FootNotesModel", "isBook", "(I)Z"⟩, 51)) 122 (by decide +kernel) (by decide +kernel)
theorem wd_1583 : Cond.code ⟨"FootNotesModel", "isNote", "(I)Z"⟩ prog_14_method_39_code 2 (Option.some Jvm.ClassFile.FieldType.boolean) ∈ fn_big := fn_one 1583 (by decide +kernel) (by decide +kernel)
theorem wd_1580 : Cond.methodLink "FootNotesModel" 292 ⟨"FootNotesModel", "isNote", "(I)Z"⟩ ∈ fn_big := fn_one 1580 (by decide +kernel) (by decide +kernel)
theorem wd_1582 : Cond.instanceMethod ⟨"FootNotesModel", "isNote", "(I)Z"⟩ ∈ fn_big := fn_one 1582 (by decide +kernel) (by decide +kernel)
theorem wp_123 : Cond.selects "FootNotesModel" ⟨"FootNotesModel", "isNote", "(I)Z"⟩ ⟨"FootNotesModel", "isNote", "(I)Z"⟩ ∈ fn_big := fn_sel (q := (⟨"FootNotesModel", "isNote", "(I)Z"⟩, 51)) 123 (by decide +kernel) (by decide +kernel)
theorem wd_1731 : Cond.code ⟨"FootNotesModel", "isSet", "(I)Z"⟩ prog_14_method_43_code 2 (Option.some Jvm.ClassFile.FieldType.boolean) ∈ fn_big := fn_one 1731 (by decide +kernel) (by decide +kernel)
theorem wd_1728 : Cond.methodLink "FootNotesModel" 327 ⟨"FootNotesModel", "isSet", "(I)Z"⟩ ∈ fn_big := fn_one 1728 (by decide +kernel) (by decide +kernel)
theorem wd_1730 : Cond.instanceMethod ⟨"FootNotesModel", "isSet", "(I)Z"⟩ ∈ fn_big := fn_one 1730 (by decide +kernel) (by decide +kernel)
theorem wp_135 : Cond.selects "FootNotesModel" ⟨"FootNotesModel", "isSet", "(I)Z"⟩ ⟨"FootNotesModel", "isSet", "(I)Z"⟩ ∈ fn_big := fn_sel (q := (⟨"FootNotesModel", "isSet", "(I)Z"⟩, 51)) 135 (by decide +kernel) (by decide +kernel)
theorem wd_1876 : Cond.code ⟨"FootNotesModel", "areTwo", "(II)Z"⟩ prog_14_method_40_code 3 (Option.some Jvm.ClassFile.FieldType.boolean) ∈ fn_big := fn_one 1876 (by decide +kernel) (by decide +kernel)
theorem wd_1873 : Cond.methodLink "FootNotesModel" 417 ⟨"FootNotesModel", "areTwo", "(II)Z"⟩ ∈ fn_big := fn_one 1873 (by decide +kernel) (by decide +kernel)
theorem wd_1875 : Cond.instanceMethod ⟨"FootNotesModel", "areTwo", "(II)Z"⟩ ∈ fn_big := fn_one 1875 (by decide +kernel) (by decide +kernel)
theorem wp_153 : Cond.selects "FootNotesModel" ⟨"FootNotesModel", "areTwo", "(II)Z"⟩ ⟨"FootNotesModel", "areTwo", "(II)Z"⟩ ∈ fn_big := fn_sel (q := (⟨"FootNotesModel", "areTwo", "(II)Z"⟩, 51)) 153 (by decide +kernel) (by decide +kernel)
theorem wd_1920 : Cond.code ⟨"FootNotesModel", "isSeed", "(I)Z"⟩ prog_14_method_132_code 2 (Option.some Jvm.ClassFile.FieldType.boolean) ∈ fn_big := fn_one 1920 (by decide +kernel) (by decide +kernel)
theorem wd_1917 : Cond.methodLink "FootNotesModel" 444 ⟨"FootNotesModel", "isSeed", "(I)Z"⟩ ∈ fn_big := fn_one 1917 (by decide +kernel) (by decide +kernel)
theorem wd_1919 : Cond.instanceMethod ⟨"FootNotesModel", "isSeed", "(I)Z"⟩ ∈ fn_big := fn_one 1919 (by decide +kernel) (by decide +kernel)
theorem wp_157 : Cond.selects "FootNotesModel" ⟨"FootNotesModel", "isSeed", "(I)Z"⟩ ⟨"FootNotesModel", "isSeed", "(I)Z"⟩ ∈ fn_big := fn_sel (q := (⟨"FootNotesModel", "isSeed", "(I)Z"⟩, 51)) 157 (by decide +kernel) (by decide +kernel)
end
section
theorem dX7_hasPage_0 : decode cX7_hasPage 0 = .ok (.iload_n 1, 1) := by decide +kernel
theorem dX7_hasPage_1 : decode cX7_hasPage 1 = .ok (.ifCond .lt 15, 3) := by decide +kernel
theorem dX7_hasPage_16 : decode cX7_hasPage 16 = .ok (.iconst 0, 1) := by decide +kernel
theorem dX7_hasPage_17 : decode cX7_hasPage 17 = .ok (.ireturn, 1) := by decide +kernel
theorem dX7_hasPage_4 : decode cX7_hasPage 4 = .ok (.iload_n 1, 1) := by decide +kernel
theorem dX7_hasPage_5 : decode cX7_hasPage 5 = .ok (.aload_n 0, 1) := by decide +kernel
theorem dX7_hasPage_6 : decode cX7_hasPage 6 = .ok (.getfield 43, 3) := by decide +kernel
theorem dX7_hasPage_9 : decode cX7_hasPage 9 = .ok (.if_icmp .ge 7, 3) := by decide +kernel
set_option maxHeartbeats 4000000 in
set_option maxRecDepth 100000 in
theorem c_X7_hasPage (l : Launch) (D : va_G) (K : Nat → ClassId) (t0 : Nat) (ft : List Value) (ht0 : ft[0]? = some (.int 0)) (ht3 : ft[3]? = some (.int 0)) (ht4 : ft[4]? = some (.int 0)) (ht5 : ft[5]? = some (.int 0)) (p0 : Int32) : fn_CI (S := Unit) l D K yX7_hasPage (fn_ws yX7_hasPage cX7_hasPage 2 (some .boolean)) ({ frames := 4, cells := 0, slots := 0, locals := 100 }) [.ref t0, .int p0] [(t0, .inr (7, ft))] (fun r _ => r = 0) (fun _ => []) 0 0 := by
  refine fn_inI (cc := cX7_hasPage) (maxL := 2) (ret := (some .boolean)) (by decide) rfl (Nat.le_of_ble_eq_true rfl) ?_
  intro p e s m below meth c A ls B hA hP hD hS hl
  obtain ⟨hx, hb, hr, hml, hts, hown, hlocks, hin, hK⟩ := B
  have hown : s.vm.findClass RX7 = some m.cls := hown
  have hts := fun w h => hts w (List.mem_cons_of_mem _ h)
  have hl : lv_has ls 2 [(0, .ref t0), (1, .int p0)] := hl
  refine lv_iload_n hx hb dX7_hasPage_0 rfl (lv_at hl 1 rfl) ?_
  refine lv_if_lt (tgt := 16) hx hb dX7_hasPage_1 (by decide) (fun c1 => ?_) (fun c1 => ?_)
  · refine lv_iconst (v := 0) hx hb dX7_hasPage_16 (by decide) ?_
    exact fn_iret hx hb hr hlocks rfl hP hD hS () (by first | rfl | decide) [] (by decide) rfl dX7_hasPage_17
  · refine lv_iload_n hx hb dX7_hasPage_4 rfl (lv_at hl 1 rfl) ?_
    refine lv_aload_n hx hb dX7_hasPage_5 rfl (lv_at hl 0 rfl) ?_
    refine va_get (D := D) (own := RX7) (ci := 7) (v := .int 0) (C := RX7) (T := TX7) (N := 15) hx hb hts inb_X7 hown hK.1 hP 0 rfl rfl 4 (by decide) (hts _ wd_87) (fun _ h9 => h9) ht4 dX7_hasPage_6 ?_
    refine lv_icmp_ge (tgt := 16) hx hb dX7_hasPage_9 (by decide) (fun c9 => ?_) (fun h9 => absurd (Int32.not_lt.mp c1) h9)
    refine lv_iconst (v := 0) hx hb dX7_hasPage_16 (by decide) ?_
    exact fn_iret hx hb hr hlocks rfl hP hD hS () (by first | rfl | decide) [] (by decide) rfl dX7_hasPage_17
theorem dX7_hasBook_0 : decode cX7_hasBook 0 = .ok (.iload_n 1, 1) := by decide +kernel
theorem dX7_hasBook_1 : decode cX7_hasBook 1 = .ok (.ifCond .lt 15, 3) := by decide +kernel
theorem dX7_hasBook_16 : decode cX7_hasBook 16 = .ok (.iconst 0, 1) := by decide +kernel
theorem dX7_hasBook_17 : decode cX7_hasBook 17 = .ok (.ireturn, 1) := by decide +kernel
theorem dX7_hasBook_4 : decode cX7_hasBook 4 = .ok (.iload_n 1, 1) := by decide +kernel
theorem dX7_hasBook_5 : decode cX7_hasBook 5 = .ok (.aload_n 0, 1) := by decide +kernel
theorem dX7_hasBook_6 : decode cX7_hasBook 6 = .ok (.getfield 40, 3) := by decide +kernel
theorem dX7_hasBook_9 : decode cX7_hasBook 9 = .ok (.if_icmp .ge 7, 3) := by decide +kernel
set_option maxHeartbeats 4000000 in
set_option maxRecDepth 100000 in
theorem c_X7_hasBook (l : Launch) (D : va_G) (K : Nat → ClassId) (t0 : Nat) (ft : List Value) (ht0 : ft[0]? = some (.int 0)) (ht3 : ft[3]? = some (.int 0)) (ht4 : ft[4]? = some (.int 0)) (ht5 : ft[5]? = some (.int 0)) (p0 : Int32) : fn_CI (S := Unit) l D K yX7_hasBook (fn_ws yX7_hasBook cX7_hasBook 2 (some .boolean)) ({ frames := 4, cells := 0, slots := 0, locals := 100 }) [.ref t0, .int p0] [(t0, .inr (7, ft))] (fun r _ => r = 0) (fun _ => []) 0 0 := by
  refine fn_inI (cc := cX7_hasBook) (maxL := 2) (ret := (some .boolean)) (by decide) rfl (Nat.le_of_ble_eq_true rfl) ?_
  intro p e s m below meth c A ls B hA hP hD hS hl
  obtain ⟨hx, hb, hr, hml, hts, hown, hlocks, hin, hK⟩ := B
  have hown : s.vm.findClass RX7 = some m.cls := hown
  have hts := fun w h => hts w (List.mem_cons_of_mem _ h)
  have hl : lv_has ls 2 [(0, .ref t0), (1, .int p0)] := hl
  refine lv_iload_n hx hb dX7_hasBook_0 rfl (lv_at hl 1 rfl) ?_
  refine lv_if_lt (tgt := 16) hx hb dX7_hasBook_1 (by decide) (fun c1 => ?_) (fun c1 => ?_)
  · refine lv_iconst (v := 0) hx hb dX7_hasBook_16 (by decide) ?_
    exact fn_iret hx hb hr hlocks rfl hP hD hS () (by first | rfl | decide) [] (by decide) rfl dX7_hasBook_17
  · refine lv_iload_n hx hb dX7_hasBook_4 rfl (lv_at hl 1 rfl) ?_
    refine lv_aload_n hx hb dX7_hasBook_5 rfl (lv_at hl 0 rfl) ?_
    refine va_get (D := D) (own := RX7) (ci := 7) (v := .int 0) (C := RX7) (T := TX7) (N := 15) hx hb hts inb_X7 hown hK.1 hP 0 rfl rfl 3 (by decide) (hts _ wd_80) (fun _ h9 => h9) ht3 dX7_hasBook_6 ?_
    refine lv_icmp_ge (tgt := 16) hx hb dX7_hasBook_9 (by decide) (fun c9 => ?_) (fun h9 => absurd (Int32.not_lt.mp c1) h9)
    refine lv_iconst (v := 0) hx hb dX7_hasBook_16 (by decide) ?_
    exact fn_iret hx hb hr hlocks rfl hP hD hS () (by first | rfl | decide) [] (by decide) rfl dX7_hasBook_17
theorem dX7_hasNote_0 : decode cX7_hasNote 0 = .ok (.iload_n 1, 1) := by decide +kernel
theorem dX7_hasNote_1 : decode cX7_hasNote 1 = .ok (.ifCond .lt 15, 3) := by decide +kernel
theorem dX7_hasNote_16 : decode cX7_hasNote 16 = .ok (.iconst 0, 1) := by decide +kernel
theorem dX7_hasNote_17 : decode cX7_hasNote 17 = .ok (.ireturn, 1) := by decide +kernel
theorem dX7_hasNote_4 : decode cX7_hasNote 4 = .ok (.iload_n 1, 1) := by decide +kernel
theorem dX7_hasNote_5 : decode cX7_hasNote 5 = .ok (.aload_n 0, 1) := by decide +kernel
theorem dX7_hasNote_6 : decode cX7_hasNote 6 = .ok (.getfield 46, 3) := by decide +kernel
theorem dX7_hasNote_9 : decode cX7_hasNote 9 = .ok (.if_icmp .ge 7, 3) := by decide +kernel
set_option maxHeartbeats 4000000 in
set_option maxRecDepth 100000 in
theorem c_X7_hasNote (l : Launch) (D : va_G) (K : Nat → ClassId) (t0 : Nat) (ft : List Value) (ht0 : ft[0]? = some (.int 0)) (ht3 : ft[3]? = some (.int 0)) (ht4 : ft[4]? = some (.int 0)) (ht5 : ft[5]? = some (.int 0)) (p0 : Int32) : fn_CI (S := Unit) l D K yX7_hasNote (fn_ws yX7_hasNote cX7_hasNote 2 (some .boolean)) ({ frames := 4, cells := 0, slots := 0, locals := 100 }) [.ref t0, .int p0] [(t0, .inr (7, ft))] (fun r _ => r = 0) (fun _ => []) 0 0 := by
  refine fn_inI (cc := cX7_hasNote) (maxL := 2) (ret := (some .boolean)) (by decide) rfl (Nat.le_of_ble_eq_true rfl) ?_
  intro p e s m below meth c A ls B hA hP hD hS hl
  obtain ⟨hx, hb, hr, hml, hts, hown, hlocks, hin, hK⟩ := B
  have hown : s.vm.findClass RX7 = some m.cls := hown
  have hts := fun w h => hts w (List.mem_cons_of_mem _ h)
  have hl : lv_has ls 2 [(0, .ref t0), (1, .int p0)] := hl
  refine lv_iload_n hx hb dX7_hasNote_0 rfl (lv_at hl 1 rfl) ?_
  refine lv_if_lt (tgt := 16) hx hb dX7_hasNote_1 (by decide) (fun c1 => ?_) (fun c1 => ?_)
  · refine lv_iconst (v := 0) hx hb dX7_hasNote_16 (by decide) ?_
    exact fn_iret hx hb hr hlocks rfl hP hD hS () (by first | rfl | decide) [] (by decide) rfl dX7_hasNote_17
  · refine lv_iload_n hx hb dX7_hasNote_4 rfl (lv_at hl 1 rfl) ?_
    refine lv_aload_n hx hb dX7_hasNote_5 rfl (lv_at hl 0 rfl) ?_
    refine va_get (D := D) (own := RX7) (ci := 7) (v := .int 0) (C := RX7) (T := TX7) (N := 15) hx hb hts inb_X7 hown hK.1 hP 0 rfl rfl 5 (by decide) (hts _ wd_92) (fun _ h9 => h9) ht5 dX7_hasNote_6 ?_
    refine lv_icmp_ge (tgt := 16) hx hb dX7_hasNote_9 (by decide) (fun c9 => ?_) (fun h9 => absurd (Int32.not_lt.mp c1) h9)
    refine lv_iconst (v := 0) hx hb dX7_hasNote_16 (by decide) ?_
    exact fn_iret hx hb hr hlocks rfl hP hD hS () (by first | rfl | decide) [] (by decide) rfl dX7_hasNote_17
theorem dX11_noTown_0 : decode cX11_noTown 0 = .ok (.aload_n 0, 1) := by decide +kernel
theorem dX11_noTown_1 : decode cX11_noTown 1 = .ok (.getfield 19, 3) := by decide +kernel
theorem dX11_noTown_4 : decode cX11_noTown 4 = .ok (.getfield 120, 3) := by decide +kernel
theorem dX11_noTown_7 : decode cX11_noTown 7 = .ok (.ifCond .ne 7, 3) := by decide +kernel
theorem dX11_noTown_10 : decode cX11_noTown 10 = .ok (.iconst 1, 1) := by decide +kernel
theorem dX11_noTown_11 : decode cX11_noTown 11 = .ok (.goto 4, 3) := by decide +kernel
theorem dX11_noTown_15 : decode cX11_noTown 15 = .ok (.ireturn, 1) := by decide +kernel
set_option maxHeartbeats 4000000 in
set_option maxRecDepth 100000 in
theorem c_X11_noTown (l : Launch) (D : va_G) (K : Nat → ClassId) (t0 : Nat) (ft : List Value) (ht0 : ft[0]? = some (.int 0)) (ht3 : ft[3]? = some (.int 0)) (ht4 : ft[4]? = some (.int 0)) (ht5 : ft[5]? = some (.int 0)) (x0 : Nat) (fx : List Value) (hx1 : fx[1]? = some (.ref t0)) : fn_CI (S := Unit) l D K yX11_noTown (fn_ws yX11_noTown cX11_noTown 1 (some .boolean)) ({ frames := 4, cells := 0, slots := 0, locals := 100 }) [.ref x0] [(x0, .inr (11, fx)), (t0, .inr (7, ft))] (fun r _ => r = 1) (fun _ => []) 0 0 := by
  refine fn_inI (cc := cX11_noTown) (maxL := 1) (ret := (some .boolean)) (by decide) rfl (Nat.le_of_ble_eq_true rfl) ?_
  intro p e s m below meth c A ls B hA hP hD hS hl
  obtain ⟨hx, hb, hr, hml, hts, hown, hlocks, hin, hK⟩ := B
  have hown : s.vm.findClass RX11 = some m.cls := hown
  have hts := fun w h => hts w (List.mem_cons_of_mem _ h)
  have hl : lv_has ls 1 [(0, .ref x0)] := hl
  refine lv_aload_n hx hb dX11_noTown_0 rfl (lv_at hl 0 rfl) ?_
  refine va_get (D := D) (own := RX11) (ci := 11) (v := .ref t0) (C := RX11) (T := TX11) (N := 13) hx hb hts inb_X11 hown hK.1 hP 0 rfl rfl 1 (by decide) (hts _ wd_423) (fun _ h9 => h9) hx1 dX11_noTown_1 ?_
  refine va_getN (D := D) (own := RX11) (ci := 7) (v := .int 0) (C := RX7) (T := TX7) (N := 15) hx hb hts inb_X7 hown hK.1 hP 1 rfl rfl 0 (by decide) (hK.nf 7 rfl) (fun _ h9 => h9) ht0 dX11_noTown_4 ?_
  refine lv_if_ne (tgt := 14) hx hb dX11_noTown_7 (by decide) (fun h9 => absurd rfl h9) (fun _ => ?_)
  refine lv_iconst (v := 1) hx hb dX11_noTown_10 (by decide) ?_
  refine lv_goto (tgt := 15) hx hb dX11_noTown_11 (by decide) ?_
  exact fn_iret hx hb hr hlocks rfl hP hD hS () (by first | rfl | decide) [] (by decide) rfl dX11_noTown_15
theorem dX11_page_0 : decode cX11_page 0 = .ok (.aload_n 0, 1) := by decide +kernel
theorem dX11_page_1 : decode cX11_page 1 = .ok (.getfield 19, 3) := by decide +kernel
theorem dX11_page_4 : decode cX11_page 4 = .ok (.iload_n 1, 1) := by decide +kernel
theorem dX11_page_5 : decode cX11_page 5 = .ok (.invokevirtual 130, 3) := by decide +kernel
theorem dX11_page_8 : decode cX11_page 8 = .ok (.ifCond .ne 6, 3) := by decide +kernel
theorem dX11_page_11 : decode cX11_page 11 = .ok (.bipush (-2), 2) := by decide +kernel
theorem dX11_page_13 : decode cX11_page 13 = .ok (.ireturn, 1) := by decide +kernel
set_option maxHeartbeats 4000000 in
set_option maxRecDepth 100000 in
theorem c_X11_page (l : Launch) (D : va_G) (K : Nat → ClassId) (t0 : Nat) (ft : List Value) (ht0 : ft[0]? = some (.int 0)) (ht3 : ft[3]? = some (.int 0)) (ht4 : ft[4]? = some (.int 0)) (ht5 : ft[5]? = some (.int 0)) (x0 : Nat) (fx : List Value) (hx1 : fx[1]? = some (.ref t0)) (p0 p1 : Int32) : fn_CI (S := Unit) l D K yX11_page (fn_ws yX11_page cX11_page 3 (some .int)) ({ frames := 8, cells := 0, slots := 0, locals := 200 }) [.ref x0, .int p0, .int p1] [(x0, .inr (11, fx)), (t0, .inr (7, ft))] (fun r _ => r = (-2)) (fun _ => []) 0 0 := by
  refine fn_inI (cc := cX11_page) (maxL := 3) (ret := (some .int)) (by decide) rfl (Nat.le_of_ble_eq_true rfl) ?_
  intro p e s m below meth c A ls B hA hP hD hS hl
  obtain ⟨hx, hb, hr, hml, hts, hown, hlocks, hin, hK⟩ := B
  have hown : s.vm.findClass RX11 = some m.cls := hown
  have hts := fun w h => hts w (List.mem_cons_of_mem _ h)
  have hl : lv_has ls 3 [(0, .ref x0), (1, .int p0), (2, .int p1)] := hl
  refine lv_aload_n hx hb dX11_page_0 rfl (lv_at hl 0 rfl) ?_
  refine va_get (D := D) (own := RX11) (ci := 11) (v := .ref t0) (C := RX11) (T := TX11) (N := 13) hx hb hts inb_X11 hown hK.1 hP 0 rfl rfl 1 (by decide) (hts _ wd_423) (fun _ h9 => h9) hx1 dX11_page_1 ?_
  refine lv_iload_n hx hb dX11_page_4 rfl (lv_at hl 1 rfl) ?_
  refine fn_goi (wc := [(t0, .inr (7, ft))]) (wr := [(x0, .inr (11, fx))]) hK hP hD hS hA [1] [0] rfl rfl (by decide) (fun hp => va_runVN (C := RX7) (As := [.int p0]) (rest := []) ⟨hx, hb, hml, hown, hts⟩ (c_X7_hasPage (l := l) (D := D) (K := K) (t0 := (t0)) (p0 := (p0)) (ft := (ft)) (ht0 := ht0) (ht3 := ht3) (ht4 := ht4) (ht5 := ht5) _) ⟨va_cnB (own := RX11) 1 hts (fn_gin wd_662) rfl rfl rfl (hK.nw 108 rfl) (hts _ wd_4) (by decide +kernel) ⟨Nat.le_of_ble_eq_true rfl, Nat.le_of_ble_eq_true rfl⟩, hts _ wd_661, hts _ wp_25⟩ ⟨fn_blind, va_recv hK.1 hP (ci := 7) (q0 := 1) rfl rfl, hp⟩ rfl rfl hl.1 rfl (lv_room (Nat.le_of_ble_eq_true rfl)) dX11_page_5 ⟨Nat.le_of_ble_eq_true rfl, Nat.le_of_ble_eq_true rfl⟩) (fun r2 u1 H locs hwu1 hP hD hS => ?_)
  have r2_e : r2 = 0 := hwu1
  subst r2_e
  have hP : va_P D vwCl [(x0, .inr (11, fx))] H := hP
  have hD : va_D A [(x0, .inr (11, fx))] := hD
  refine lv_if_ne (tgt := 14) hx hb dX11_page_8 (by decide) (fun h9 => absurd rfl h9) (fun _ => ?_)
  refine lv_bipush (v := (-2)) hx hb dX11_page_11 (by decide) ?_
  exact fn_iret hx hb hr hlocks rfl hP hD hS () (by first | rfl | decide) [] (by decide) rfl dX11_page_13
theorem dX11_book_0 : decode cX11_book 0 = .ok (.aload_n 0, 1) := by decide +kernel
theorem dX11_book_1 : decode cX11_book 1 = .ok (.getfield 19, 3) := by decide +kernel
theorem dX11_book_4 : decode cX11_book 4 = .ok (.iload_n 1, 1) := by decide +kernel
theorem dX11_book_5 : decode cX11_book 5 = .ok (.invokevirtual 148, 3) := by decide +kernel
theorem dX11_book_8 : decode cX11_book 8 = .ok (.ifCond .ne 6, 3) := by decide +kernel
theorem dX11_book_11 : decode cX11_book 11 = .ok (.bipush (-2), 2) := by decide +kernel
theorem dX11_book_13 : decode cX11_book 13 = .ok (.ireturn, 1) := by decide +kernel
set_option maxHeartbeats 4000000 in
set_option maxRecDepth 100000 in
theorem c_X11_book (l : Launch) (D : va_G) (K : Nat → ClassId) (t0 : Nat) (ft : List Value) (ht0 : ft[0]? = some (.int 0)) (ht3 : ft[3]? = some (.int 0)) (ht4 : ft[4]? = some (.int 0)) (ht5 : ft[5]? = some (.int 0)) (x0 : Nat) (fx : List Value) (hx1 : fx[1]? = some (.ref t0)) (p0 p1 : Int32) : fn_CI (S := Unit) l D K yX11_book (fn_ws yX11_book cX11_book 3 (some .int)) ({ frames := 8, cells := 0, slots := 0, locals := 200 }) [.ref x0, .int p0, .int p1] [(x0, .inr (11, fx)), (t0, .inr (7, ft))] (fun r _ => r = (-2)) (fun _ => []) 0 0 := by
  refine fn_inI (cc := cX11_book) (maxL := 3) (ret := (some .int)) (by decide) rfl (Nat.le_of_ble_eq_true rfl) ?_
  intro p e s m below meth c A ls B hA hP hD hS hl
  obtain ⟨hx, hb, hr, hml, hts, hown, hlocks, hin, hK⟩ := B
  have hown : s.vm.findClass RX11 = some m.cls := hown
  have hts := fun w h => hts w (List.mem_cons_of_mem _ h)
  have hl : lv_has ls 3 [(0, .ref x0), (1, .int p0), (2, .int p1)] := hl
  refine lv_aload_n hx hb dX11_book_0 rfl (lv_at hl 0 rfl) ?_
  refine va_get (D := D) (own := RX11) (ci := 11) (v := .ref t0) (C := RX11) (T := TX11) (N := 13) hx hb hts inb_X11 hown hK.1 hP 0 rfl rfl 1 (by decide) (hts _ wd_423) (fun _ h9 => h9) hx1 dX11_book_1 ?_
  refine lv_iload_n hx hb dX11_book_4 rfl (lv_at hl 1 rfl) ?_
  refine fn_goi (wc := [(t0, .inr (7, ft))]) (wr := [(x0, .inr (11, fx))]) hK hP hD hS hA [1] [0] rfl rfl (by decide) (fun hp => va_runVN (C := RX7) (As := [.int p0]) (rest := []) ⟨hx, hb, hml, hown, hts⟩ (c_X7_hasBook (l := l) (D := D) (K := K) (t0 := (t0)) (p0 := (p0)) (ft := (ft)) (ht0 := ht0) (ht3 := ht3) (ht4 := ht4) (ht5 := ht5) _) ⟨va_cnB (own := RX11) 1 hts (fn_gin wd_674) rfl rfl rfl (hK.nw 110 rfl) (hts _ wd_4) (by decide +kernel) ⟨Nat.le_of_ble_eq_true rfl, Nat.le_of_ble_eq_true rfl⟩, hts _ wd_673, hts _ wp_27⟩ ⟨fn_blind, va_recv hK.1 hP (ci := 7) (q0 := 1) rfl rfl, hp⟩ rfl rfl hl.1 rfl (lv_room (Nat.le_of_ble_eq_true rfl)) dX11_book_5 ⟨Nat.le_of_ble_eq_true rfl, Nat.le_of_ble_eq_true rfl⟩) (fun r2 u1 H locs hwu1 hP hD hS => ?_)
  have r2_e : r2 = 0 := hwu1
  subst r2_e
  have hP : va_P D vwCl [(x0, .inr (11, fx))] H := hP
  have hD : va_D A [(x0, .inr (11, fx))] := hD
  refine lv_if_ne (tgt := 14) hx hb dX11_book_8 (by decide) (fun h9 => absurd rfl h9) (fun _ => ?_)
  refine lv_bipush (v := (-2)) hx hb dX11_book_11 (by decide) ?_
  exact fn_iret hx hb hr hlocks rfl hP hD hS () (by first | rfl | decide) [] (by decide) rfl dX11_book_13
theorem dX11_leaf_0 : decode cX11_leaf 0 = .ok (.aload_n 0, 1) := by decide +kernel
theorem dX11_leaf_1 : decode cX11_leaf 1 = .ok (.getfield 19, 3) := by decide +kernel
theorem dX11_leaf_4 : decode cX11_leaf 4 = .ok (.iload_n 1, 1) := by decide +kernel
theorem dX11_leaf_5 : decode cX11_leaf 5 = .ok (.invokevirtual 148, 3) := by decide +kernel
theorem dX11_leaf_8 : decode cX11_leaf 8 = .ok (.ifCond .eq 15, 3) := by decide +kernel
theorem dX11_leaf_23 : decode cX11_leaf 23 = .ok (.bipush (-2), 2) := by decide +kernel
theorem dX11_leaf_25 : decode cX11_leaf 25 = .ok (.ireturn, 1) := by decide +kernel
set_option maxHeartbeats 4000000 in
set_option maxRecDepth 100000 in
theorem c_X11_leaf (l : Launch) (D : va_G) (K : Nat → ClassId) (t0 : Nat) (ft : List Value) (ht0 : ft[0]? = some (.int 0)) (ht3 : ft[3]? = some (.int 0)) (ht4 : ft[4]? = some (.int 0)) (ht5 : ft[5]? = some (.int 0)) (x0 : Nat) (fx : List Value) (hx1 : fx[1]? = some (.ref t0)) (p0 p1 : Int32) : fn_CI (S := Unit) l D K yX11_leaf (fn_ws yX11_leaf cX11_leaf 3 (some .int)) ({ frames := 8, cells := 0, slots := 0, locals := 200 }) [.ref x0, .int p0, .int p1] [(x0, .inr (11, fx)), (t0, .inr (7, ft))] (fun r _ => r = (-2)) (fun _ => []) 0 0 := by
  refine fn_inI (cc := cX11_leaf) (maxL := 3) (ret := (some .int)) (by decide) rfl (Nat.le_of_ble_eq_true rfl) ?_
  intro p e s m below meth c A ls B hA hP hD hS hl
  obtain ⟨hx, hb, hr, hml, hts, hown, hlocks, hin, hK⟩ := B
  have hown : s.vm.findClass RX11 = some m.cls := hown
  have hts := fun w h => hts w (List.mem_cons_of_mem _ h)
  have hl : lv_has ls 3 [(0, .ref x0), (1, .int p0), (2, .int p1)] := hl
  refine lv_aload_n hx hb dX11_leaf_0 rfl (lv_at hl 0 rfl) ?_
  refine va_get (D := D) (own := RX11) (ci := 11) (v := .ref t0) (C := RX11) (T := TX11) (N := 13) hx hb hts inb_X11 hown hK.1 hP 0 rfl rfl 1 (by decide) (hts _ wd_423) (fun _ h9 => h9) hx1 dX11_leaf_1 ?_
  refine lv_iload_n hx hb dX11_leaf_4 rfl (lv_at hl 1 rfl) ?_
  refine fn_goi (wc := [(t0, .inr (7, ft))]) (wr := [(x0, .inr (11, fx))]) hK hP hD hS hA [1] [0] rfl rfl (by decide) (fun hp => va_runVN (C := RX7) (As := [.int p0]) (rest := []) ⟨hx, hb, hml, hown, hts⟩ (c_X7_hasBook (l := l) (D := D) (K := K) (t0 := (t0)) (p0 := (p0)) (ft := (ft)) (ht0 := ht0) (ht3 := ht3) (ht4 := ht4) (ht5 := ht5) _) ⟨va_cnB (own := RX11) 1 hts (fn_gin wd_674) rfl rfl rfl (hK.nw 110 rfl) (hts _ wd_4) (by decide +kernel) ⟨Nat.le_of_ble_eq_true rfl, Nat.le_of_ble_eq_true rfl⟩, hts _ wd_673, hts _ wp_27⟩ ⟨fn_blind, va_recv hK.1 hP (ci := 7) (q0 := 1) rfl rfl, hp⟩ rfl rfl hl.1 rfl (lv_room (Nat.le_of_ble_eq_true rfl)) dX11_leaf_5 ⟨Nat.le_of_ble_eq_true rfl, Nat.le_of_ble_eq_true rfl⟩) (fun r2 u1 H locs hwu1 hP hD hS => ?_)
  have r2_e : r2 = 0 := hwu1
  subst r2_e
  have hP : va_P D vwCl [(x0, .inr (11, fx))] H := hP
  have hD : va_D A [(x0, .inr (11, fx))] := hD
  refine lv_if_eq (tgt := 23) hx hb dX11_leaf_8 (by decide) (fun _ => ?_) (fun h9 => absurd (by decide) h9)
  refine lv_bipush (v := (-2)) hx hb dX11_leaf_23 (by decide) ?_
  exact fn_iret hx hb hr hlocks rfl hP hD hS () (by first | rfl | decide) [] (by decide) rfl dX11_leaf_25
theorem dX11_note_0 : decode cX11_note 0 = .ok (.aload_n 0, 1) := by decide +kernel
theorem dX11_note_1 : decode cX11_note 1 = .ok (.getfield 19, 3) := by decide +kernel
theorem dX11_note_4 : decode cX11_note 4 = .ok (.iload_n 1, 1) := by decide +kernel
theorem dX11_note_5 : decode cX11_note 5 = .ok (.invokevirtual 167, 3) := by decide +kernel
theorem dX11_note_8 : decode cX11_note 8 = .ok (.ifCond .ne 6, 3) := by decide +kernel
theorem dX11_note_11 : decode cX11_note 11 = .ok (.bipush (-2), 2) := by decide +kernel
theorem dX11_note_13 : decode cX11_note 13 = .ok (.ireturn, 1) := by decide +kernel
set_option maxHeartbeats 4000000 in
set_option maxRecDepth 100000 in
theorem c_X11_note (l : Launch) (D : va_G) (K : Nat → ClassId) (t0 : Nat) (ft : List Value) (ht0 : ft[0]? = some (.int 0)) (ht3 : ft[3]? = some (.int 0)) (ht4 : ft[4]? = some (.int 0)) (ht5 : ft[5]? = some (.int 0)) (x0 : Nat) (fx : List Value) (hx1 : fx[1]? = some (.ref t0)) (p0 p1 : Int32) : fn_CI (S := Unit) l D K yX11_note (fn_ws yX11_note cX11_note 3 (some .int)) ({ frames := 8, cells := 0, slots := 0, locals := 200 }) [.ref x0, .int p0, .int p1] [(x0, .inr (11, fx)), (t0, .inr (7, ft))] (fun r _ => r = (-2)) (fun _ => []) 0 0 := by
  refine fn_inI (cc := cX11_note) (maxL := 3) (ret := (some .int)) (by decide) rfl (Nat.le_of_ble_eq_true rfl) ?_
  intro p e s m below meth c A ls B hA hP hD hS hl
  obtain ⟨hx, hb, hr, hml, hts, hown, hlocks, hin, hK⟩ := B
  have hown : s.vm.findClass RX11 = some m.cls := hown
  have hts := fun w h => hts w (List.mem_cons_of_mem _ h)
  have hl : lv_has ls 3 [(0, .ref x0), (1, .int p0), (2, .int p1)] := hl
  refine lv_aload_n hx hb dX11_note_0 rfl (lv_at hl 0 rfl) ?_
  refine va_get (D := D) (own := RX11) (ci := 11) (v := .ref t0) (C := RX11) (T := TX11) (N := 13) hx hb hts inb_X11 hown hK.1 hP 0 rfl rfl 1 (by decide) (hts _ wd_423) (fun _ h9 => h9) hx1 dX11_note_1 ?_
  refine lv_iload_n hx hb dX11_note_4 rfl (lv_at hl 1 rfl) ?_
  refine fn_goi (wc := [(t0, .inr (7, ft))]) (wr := [(x0, .inr (11, fx))]) hK hP hD hS hA [1] [0] rfl rfl (by decide) (fun hp => va_runVN (C := RX7) (As := [.int p0]) (rest := []) ⟨hx, hb, hml, hown, hts⟩ (c_X7_hasNote (l := l) (D := D) (K := K) (t0 := (t0)) (p0 := (p0)) (ft := (ft)) (ht0 := ht0) (ht3 := ht3) (ht4 := ht4) (ht5 := ht5) _) ⟨va_cnB (own := RX11) 1 hts (fn_gin wd_688) rfl rfl rfl (hK.nw 113 rfl) (hts _ wd_4) (by decide +kernel) ⟨Nat.le_of_ble_eq_true rfl, Nat.le_of_ble_eq_true rfl⟩, hts _ wd_687, hts _ wp_28⟩ ⟨fn_blind, va_recv hK.1 hP (ci := 7) (q0 := 1) rfl rfl, hp⟩ rfl rfl hl.1 rfl (lv_room (Nat.le_of_ble_eq_true rfl)) dX11_note_5 ⟨Nat.le_of_ble_eq_true rfl, Nat.le_of_ble_eq_true rfl⟩) (fun r2 u1 H locs hwu1 hP hD hS => ?_)
  have r2_e : r2 = 0 := hwu1
  subst r2_e
  have hP : va_P D vwCl [(x0, .inr (11, fx))] H := hP
  have hD : va_D A [(x0, .inr (11, fx))] := hD
  refine lv_if_ne (tgt := 14) hx hb dX11_note_8 (by decide) (fun h9 => absurd rfl h9) (fun _ => ?_)
  refine lv_bipush (v := (-2)) hx hb dX11_note_11 (by decide) ?_
  exact fn_iret hx hb hr hlocks rfl hP hD hS () (by first | rfl | decide) [] (by decide) rfl dX11_note_13
theorem dX11_leads_0 : decode cX11_leads 0 = .ok (.aload_n 0, 1) := by decide +kernel
theorem dX11_leads_1 : decode cX11_leads 1 = .ok (.getfield 19, 3) := by decide +kernel
theorem dX11_leads_4 : decode cX11_leads 4 = .ok (.iload_n 1, 1) := by decide +kernel
theorem dX11_leads_5 : decode cX11_leads 5 = .ok (.invokevirtual 167, 3) := by decide +kernel
theorem dX11_leads_8 : decode cX11_leads 8 = .ok (.ifCond .eq 15, 3) := by decide +kernel
theorem dX11_leads_23 : decode cX11_leads 23 = .ok (.bipush (-2), 2) := by decide +kernel
theorem dX11_leads_25 : decode cX11_leads 25 = .ok (.ireturn, 1) := by decide +kernel
set_option maxHeartbeats 4000000 in
set_option maxRecDepth 100000 in
theorem c_X11_leads (l : Launch) (D : va_G) (K : Nat → ClassId) (t0 : Nat) (ft : List Value) (ht0 : ft[0]? = some (.int 0)) (ht3 : ft[3]? = some (.int 0)) (ht4 : ft[4]? = some (.int 0)) (ht5 : ft[5]? = some (.int 0)) (x0 : Nat) (fx : List Value) (hx1 : fx[1]? = some (.ref t0)) (p0 : Int32) : fn_CI (S := Unit) l D K yX11_leads (fn_ws yX11_leads cX11_leads 2 (some .int)) ({ frames := 8, cells := 0, slots := 0, locals := 200 }) [.ref x0, .int p0] [(x0, .inr (11, fx)), (t0, .inr (7, ft))] (fun r _ => r = (-2)) (fun _ => []) 0 0 := by
  refine fn_inI (cc := cX11_leads) (maxL := 2) (ret := (some .int)) (by decide) rfl (Nat.le_of_ble_eq_true rfl) ?_
  intro p e s m below meth c A ls B hA hP hD hS hl
  obtain ⟨hx, hb, hr, hml, hts, hown, hlocks, hin, hK⟩ := B
  have hown : s.vm.findClass RX11 = some m.cls := hown
  have hts := fun w h => hts w (List.mem_cons_of_mem _ h)
  have hl : lv_has ls 2 [(0, .ref x0), (1, .int p0)] := hl
  refine lv_aload_n hx hb dX11_leads_0 rfl (lv_at hl 0 rfl) ?_
  refine va_get (D := D) (own := RX11) (ci := 11) (v := .ref t0) (C := RX11) (T := TX11) (N := 13) hx hb hts inb_X11 hown hK.1 hP 0 rfl rfl 1 (by decide) (hts _ wd_423) (fun _ h9 => h9) hx1 dX11_leads_1 ?_
  refine lv_iload_n hx hb dX11_leads_4 rfl (lv_at hl 1 rfl) ?_
  refine fn_goi (wc := [(t0, .inr (7, ft))]) (wr := [(x0, .inr (11, fx))]) hK hP hD hS hA [1] [0] rfl rfl (by decide) (fun hp => va_runVN (C := RX7) (As := [.int p0]) (rest := []) ⟨hx, hb, hml, hown, hts⟩ (c_X7_hasNote (l := l) (D := D) (K := K) (t0 := (t0)) (p0 := (p0)) (ft := (ft)) (ht0 := ht0) (ht3 := ht3) (ht4 := ht4) (ht5 := ht5) _) ⟨va_cnB (own := RX11) 1 hts (fn_gin wd_688) rfl rfl rfl (hK.nw 113 rfl) (hts _ wd_4) (by decide +kernel) ⟨Nat.le_of_ble_eq_true rfl, Nat.le_of_ble_eq_true rfl⟩, hts _ wd_687, hts _ wp_28⟩ ⟨fn_blind, va_recv hK.1 hP (ci := 7) (q0 := 1) rfl rfl, hp⟩ rfl rfl hl.1 rfl (lv_room (Nat.le_of_ble_eq_true rfl)) dX11_leads_5 ⟨Nat.le_of_ble_eq_true rfl, Nat.le_of_ble_eq_true rfl⟩) (fun r2 u1 H locs hwu1 hP hD hS => ?_)
  have r2_e : r2 = 0 := hwu1
  subst r2_e
  have hP : va_P D vwCl [(x0, .inr (11, fx))] H := hP
  have hD : va_D A [(x0, .inr (11, fx))] := hD
  refine lv_if_eq (tgt := 23) hx hb dX11_leads_8 (by decide) (fun _ => ?_) (fun h9 => absurd (by decide) h9)
  refine lv_bipush (v := (-2)) hx hb dX11_leads_23 (by decide) ?_
  exact fn_iret hx hb hr hlocks rfl hP hD hS () (by first | rfl | decide) [] (by decide) rfl dX11_leads_25
theorem dX11_meant_0 : decode cX11_meant 0 = .ok (.aload_n 0, 1) := by decide +kernel
theorem dX11_meant_1 : decode cX11_meant 1 = .ok (.getfield 19, 3) := by decide +kernel
theorem dX11_meant_4 : decode cX11_meant 4 = .ok (.iload_n 1, 1) := by decide +kernel
theorem dX11_meant_5 : decode cX11_meant 5 = .ok (.invokevirtual 167, 3) := by decide +kernel
theorem dX11_meant_8 : decode cX11_meant 8 = .ok (.ifCond .eq 14, 3) := by decide +kernel
theorem dX11_meant_22 : decode cX11_meant 22 = .ok (.bipush (-2), 2) := by decide +kernel
theorem dX11_meant_24 : decode cX11_meant 24 = .ok (.ireturn, 1) := by decide +kernel
set_option maxHeartbeats 4000000 in
set_option maxRecDepth 100000 in
theorem c_X11_meant (l : Launch) (D : va_G) (K : Nat → ClassId) (t0 : Nat) (ft : List Value) (ht0 : ft[0]? = some (.int 0)) (ht3 : ft[3]? = some (.int 0)) (ht4 : ft[4]? = some (.int 0)) (ht5 : ft[5]? = some (.int 0)) (x0 : Nat) (fx : List Value) (hx1 : fx[1]? = some (.ref t0)) (p0 : Int32) : fn_CI (S := Unit) l D K yX11_meant (fn_ws yX11_meant cX11_meant 2 (some .int)) ({ frames := 8, cells := 0, slots := 0, locals := 200 }) [.ref x0, .int p0] [(x0, .inr (11, fx)), (t0, .inr (7, ft))] (fun r _ => r = (-2)) (fun _ => []) 0 0 := by
  refine fn_inI (cc := cX11_meant) (maxL := 2) (ret := (some .int)) (by decide) rfl (Nat.le_of_ble_eq_true rfl) ?_
  intro p e s m below meth c A ls B hA hP hD hS hl
  obtain ⟨hx, hb, hr, hml, hts, hown, hlocks, hin, hK⟩ := B
  have hown : s.vm.findClass RX11 = some m.cls := hown
  have hts := fun w h => hts w (List.mem_cons_of_mem _ h)
  have hl : lv_has ls 2 [(0, .ref x0), (1, .int p0)] := hl
  refine lv_aload_n hx hb dX11_meant_0 rfl (lv_at hl 0 rfl) ?_
  refine va_get (D := D) (own := RX11) (ci := 11) (v := .ref t0) (C := RX11) (T := TX11) (N := 13) hx hb hts inb_X11 hown hK.1 hP 0 rfl rfl 1 (by decide) (hts _ wd_423) (fun _ h9 => h9) hx1 dX11_meant_1 ?_
  refine lv_iload_n hx hb dX11_meant_4 rfl (lv_at hl 1 rfl) ?_
  refine fn_goi (wc := [(t0, .inr (7, ft))]) (wr := [(x0, .inr (11, fx))]) hK hP hD hS hA [1] [0] rfl rfl (by decide) (fun hp => va_runVN (C := RX7) (As := [.int p0]) (rest := []) ⟨hx, hb, hml, hown, hts⟩ (c_X7_hasNote (l := l) (D := D) (K := K) (t0 := (t0)) (p0 := (p0)) (ft := (ft)) (ht0 := ht0) (ht3 := ht3) (ht4 := ht4) (ht5 := ht5) _) ⟨va_cnB (own := RX11) 1 hts (fn_gin wd_688) rfl rfl rfl (hK.nw 113 rfl) (hts _ wd_4) (by decide +kernel) ⟨Nat.le_of_ble_eq_true rfl, Nat.le_of_ble_eq_true rfl⟩, hts _ wd_687, hts _ wp_28⟩ ⟨fn_blind, va_recv hK.1 hP (ci := 7) (q0 := 1) rfl rfl, hp⟩ rfl rfl hl.1 rfl (lv_room (Nat.le_of_ble_eq_true rfl)) dX11_meant_5 ⟨Nat.le_of_ble_eq_true rfl, Nat.le_of_ble_eq_true rfl⟩) (fun r2 u1 H locs hwu1 hP hD hS => ?_)
  have r2_e : r2 = 0 := hwu1
  subst r2_e
  have hP : va_P D vwCl [(x0, .inr (11, fx))] H := hP
  have hD : va_D A [(x0, .inr (11, fx))] := hD
  refine lv_if_eq (tgt := 22) hx hb dX11_meant_8 (by decide) (fun _ => ?_) (fun h9 => absurd (by decide) h9)
  refine lv_bipush (v := (-2)) hx hb dX11_meant_22 (by decide) ?_
  exact fn_iret hx hb hr hlocks rfl hP hD hS () (by first | rfl | decide) [] (by decide) rfl dX11_meant_24
theorem dX11_edition_0 : decode cX11_edition 0 = .ok (.aload_n 0, 1) := by decide +kernel
theorem dX11_edition_1 : decode cX11_edition 1 = .ok (.getfield 19, 3) := by decide +kernel
theorem dX11_edition_4 : decode cX11_edition 4 = .ok (.iload_n 1, 1) := by decide +kernel
theorem dX11_edition_5 : decode cX11_edition 5 = .ok (.invokevirtual 148, 3) := by decide +kernel
theorem dX11_edition_8 : decode cX11_edition 8 = .ok (.ifCond .eq 20, 3) := by decide +kernel
theorem dX11_edition_28 : decode cX11_edition 28 = .ok (.bipush (-2), 2) := by decide +kernel
theorem dX11_edition_30 : decode cX11_edition 30 = .ok (.ireturn, 1) := by decide +kernel
set_option maxHeartbeats 4000000 in
set_option maxRecDepth 100000 in
theorem c_X11_edition (l : Launch) (D : va_G) (K : Nat → ClassId) (t0 : Nat) (ft : List Value) (ht0 : ft[0]? = some (.int 0)) (ht3 : ft[3]? = some (.int 0)) (ht4 : ft[4]? = some (.int 0)) (ht5 : ft[5]? = some (.int 0)) (x0 : Nat) (fx : List Value) (hx1 : fx[1]? = some (.ref t0)) (p0 p1 : Int32) : fn_CI (S := Unit) l D K yX11_edition (fn_ws yX11_edition cX11_edition 3 (some .int)) ({ frames := 8, cells := 0, slots := 0, locals := 200 }) [.ref x0, .int p0, .int p1] [(x0, .inr (11, fx)), (t0, .inr (7, ft))] (fun r _ => r = (-2)) (fun _ => []) 0 0 := by
  refine fn_inI (cc := cX11_edition) (maxL := 3) (ret := (some .int)) (by decide) rfl (Nat.le_of_ble_eq_true rfl) ?_
  intro p e s m below meth c A ls B hA hP hD hS hl
  obtain ⟨hx, hb, hr, hml, hts, hown, hlocks, hin, hK⟩ := B
  have hown : s.vm.findClass RX11 = some m.cls := hown
  have hts := fun w h => hts w (List.mem_cons_of_mem _ h)
  have hl : lv_has ls 3 [(0, .ref x0), (1, .int p0), (2, .int p1)] := hl
  refine lv_aload_n hx hb dX11_edition_0 rfl (lv_at hl 0 rfl) ?_
  refine va_get (D := D) (own := RX11) (ci := 11) (v := .ref t0) (C := RX11) (T := TX11) (N := 13) hx hb hts inb_X11 hown hK.1 hP 0 rfl rfl 1 (by decide) (hts _ wd_423) (fun _ h9 => h9) hx1 dX11_edition_1 ?_
  refine lv_iload_n hx hb dX11_edition_4 rfl (lv_at hl 1 rfl) ?_
  refine fn_goi (wc := [(t0, .inr (7, ft))]) (wr := [(x0, .inr (11, fx))]) hK hP hD hS hA [1] [0] rfl rfl (by decide) (fun hp => va_runVN (C := RX7) (As := [.int p0]) (rest := []) ⟨hx, hb, hml, hown, hts⟩ (c_X7_hasBook (l := l) (D := D) (K := K) (t0 := (t0)) (p0 := (p0)) (ft := (ft)) (ht0 := ht0) (ht3 := ht3) (ht4 := ht4) (ht5 := ht5) _) ⟨va_cnB (own := RX11) 1 hts (fn_gin wd_674) rfl rfl rfl (hK.nw 110 rfl) (hts _ wd_4) (by decide +kernel) ⟨Nat.le_of_ble_eq_true rfl, Nat.le_of_ble_eq_true rfl⟩, hts _ wd_673, hts _ wp_27⟩ ⟨fn_blind, va_recv hK.1 hP (ci := 7) (q0 := 1) rfl rfl, hp⟩ rfl rfl hl.1 rfl (lv_room (Nat.le_of_ble_eq_true rfl)) dX11_edition_5 ⟨Nat.le_of_ble_eq_true rfl, Nat.le_of_ble_eq_true rfl⟩) (fun r2 u1 H locs hwu1 hP hD hS => ?_)
  have r2_e : r2 = 0 := hwu1
  subst r2_e
  have hP : va_P D vwCl [(x0, .inr (11, fx))] H := hP
  have hD : va_D A [(x0, .inr (11, fx))] := hD
  refine lv_if_eq (tgt := 28) hx hb dX11_edition_8 (by decide) (fun _ => ?_) (fun h9 => absurd (by decide) h9)
  refine lv_bipush (v := (-2)) hx hb dX11_edition_28 (by decide) ?_
  exact fn_iret hx hb hr hlocks rfl hP hD hS () (by first | rfl | decide) [] (by decide) rfl dX11_edition_30
theorem dX11_tear_0 : decode cX11_tear 0 = .ok (.aload_n 0, 1) := by decide +kernel
theorem dX11_tear_1 : decode cX11_tear 1 = .ok (.getfield 19, 3) := by decide +kernel
theorem dX11_tear_4 : decode cX11_tear 4 = .ok (.iload_n 1, 1) := by decide +kernel
theorem dX11_tear_5 : decode cX11_tear 5 = .ok (.invokevirtual 148, 3) := by decide +kernel
theorem dX11_tear_8 : decode cX11_tear 8 = .ok (.ifCond .eq 20, 3) := by decide +kernel
theorem dX11_tear_28 : decode cX11_tear 28 = .ok (.bipush (-2), 2) := by decide +kernel
theorem dX11_tear_30 : decode cX11_tear 30 = .ok (.ireturn, 1) := by decide +kernel
set_option maxHeartbeats 4000000 in
set_option maxRecDepth 100000 in
theorem c_X11_tear (l : Launch) (D : va_G) (K : Nat → ClassId) (t0 : Nat) (ft : List Value) (ht0 : ft[0]? = some (.int 0)) (ht3 : ft[3]? = some (.int 0)) (ht4 : ft[4]? = some (.int 0)) (ht5 : ft[5]? = some (.int 0)) (x0 : Nat) (fx : List Value) (hx1 : fx[1]? = some (.ref t0)) (p0 p1 : Int32) : fn_CI (S := Unit) l D K yX11_tear (fn_ws yX11_tear cX11_tear 4 (some .int)) ({ frames := 8, cells := 0, slots := 0, locals := 200 }) [.ref x0, .int p0, .int p1] [(x0, .inr (11, fx)), (t0, .inr (7, ft))] (fun r _ => r = (-2)) (fun _ => []) 0 0 := by
  refine fn_inI (cc := cX11_tear) (maxL := 4) (ret := (some .int)) (by decide) rfl (Nat.le_of_ble_eq_true rfl) ?_
  intro p e s m below meth c A ls B hA hP hD hS hl
  obtain ⟨hx, hb, hr, hml, hts, hown, hlocks, hin, hK⟩ := B
  have hown : s.vm.findClass RX11 = some m.cls := hown
  have hts := fun w h => hts w (List.mem_cons_of_mem _ h)
  have hl : lv_has ls 4 [(0, .ref x0), (1, .int p0), (2, .int p1)] := hl
  refine lv_aload_n hx hb dX11_tear_0 rfl (lv_at hl 0 rfl) ?_
  refine va_get (D := D) (own := RX11) (ci := 11) (v := .ref t0) (C := RX11) (T := TX11) (N := 13) hx hb hts inb_X11 hown hK.1 hP 0 rfl rfl 1 (by decide) (hts _ wd_423) (fun _ h9 => h9) hx1 dX11_tear_1 ?_
  refine lv_iload_n hx hb dX11_tear_4 rfl (lv_at hl 1 rfl) ?_
  refine fn_goi (wc := [(t0, .inr (7, ft))]) (wr := [(x0, .inr (11, fx))]) hK hP hD hS hA [1] [0] rfl rfl (by decide) (fun hp => va_runVN (C := RX7) (As := [.int p0]) (rest := []) ⟨hx, hb, hml, hown, hts⟩ (c_X7_hasBook (l := l) (D := D) (K := K) (t0 := (t0)) (p0 := (p0)) (ft := (ft)) (ht0 := ht0) (ht3 := ht3) (ht4 := ht4) (ht5 := ht5) _) ⟨va_cnB (own := RX11) 1 hts (fn_gin wd_674) rfl rfl rfl (hK.nw 110 rfl) (hts _ wd_4) (by decide +kernel) ⟨Nat.le_of_ble_eq_true rfl, Nat.le_of_ble_eq_true rfl⟩, hts _ wd_673, hts _ wp_27⟩ ⟨fn_blind, va_recv hK.1 hP (ci := 7) (q0 := 1) rfl rfl, hp⟩ rfl rfl hl.1 rfl (lv_room (Nat.le_of_ble_eq_true rfl)) dX11_tear_5 ⟨Nat.le_of_ble_eq_true rfl, Nat.le_of_ble_eq_true rfl⟩) (fun r2 u1 H locs hwu1 hP hD hS => ?_)
  have r2_e : r2 = 0 := hwu1
  subst r2_e
  have hP : va_P D vwCl [(x0, .inr (11, fx))] H := hP
  have hD : va_D A [(x0, .inr (11, fx))] := hD
  refine lv_if_eq (tgt := 28) hx hb dX11_tear_8 (by decide) (fun _ => ?_) (fun h9 => absurd (by decide) h9)
  refine lv_bipush (v := (-2)) hx hb dX11_tear_28 (by decide) ?_
  exact fn_iret hx hb hr hlocks rfl hP hD hS () (by first | rfl | decide) [] (by decide) rfl dX11_tear_30
theorem dX11_misprint_0 : decode cX11_misprint 0 = .ok (.aload_n 0, 1) := by decide +kernel
theorem dX11_misprint_1 : decode cX11_misprint 1 = .ok (.getfield 19, 3) := by decide +kernel
theorem dX11_misprint_4 : decode cX11_misprint 4 = .ok (.iload_n 1, 1) := by decide +kernel
theorem dX11_misprint_5 : decode cX11_misprint 5 = .ok (.invokevirtual 167, 3) := by decide +kernel
theorem dX11_misprint_8 : decode cX11_misprint 8 = .ok (.ifCond .eq 13, 3) := by decide +kernel
theorem dX11_misprint_21 : decode cX11_misprint 21 = .ok (.bipush (-2), 2) := by decide +kernel
theorem dX11_misprint_23 : decode cX11_misprint 23 = .ok (.ireturn, 1) := by decide +kernel
set_option maxHeartbeats 4000000 in
set_option maxRecDepth 100000 in
theorem c_X11_misprint (l : Launch) (D : va_G) (K : Nat → ClassId) (t0 : Nat) (ft : List Value) (ht0 : ft[0]? = some (.int 0)) (ht3 : ft[3]? = some (.int 0)) (ht4 : ft[4]? = some (.int 0)) (ht5 : ft[5]? = some (.int 0)) (x0 : Nat) (fx : List Value) (hx1 : fx[1]? = some (.ref t0)) (p0 p1 : Int32) : fn_CI (S := Unit) l D K yX11_misprint (fn_ws yX11_misprint cX11_misprint 4 (some .int)) ({ frames := 8, cells := 0, slots := 0, locals := 200 }) [.ref x0, .int p0, .int p1] [(x0, .inr (11, fx)), (t0, .inr (7, ft))] (fun r _ => r = (-2)) (fun _ => []) 0 0 := by
  refine fn_inI (cc := cX11_misprint) (maxL := 4) (ret := (some .int)) (by decide) rfl (Nat.le_of_ble_eq_true rfl) ?_
  intro p e s m below meth c A ls B hA hP hD hS hl
  obtain ⟨hx, hb, hr, hml, hts, hown, hlocks, hin, hK⟩ := B
  have hown : s.vm.findClass RX11 = some m.cls := hown
  have hts := fun w h => hts w (List.mem_cons_of_mem _ h)
  have hl : lv_has ls 4 [(0, .ref x0), (1, .int p0), (2, .int p1)] := hl
  refine lv_aload_n hx hb dX11_misprint_0 rfl (lv_at hl 0 rfl) ?_
  refine va_get (D := D) (own := RX11) (ci := 11) (v := .ref t0) (C := RX11) (T := TX11) (N := 13) hx hb hts inb_X11 hown hK.1 hP 0 rfl rfl 1 (by decide) (hts _ wd_423) (fun _ h9 => h9) hx1 dX11_misprint_1 ?_
  refine lv_iload_n hx hb dX11_misprint_4 rfl (lv_at hl 1 rfl) ?_
  refine fn_goi (wc := [(t0, .inr (7, ft))]) (wr := [(x0, .inr (11, fx))]) hK hP hD hS hA [1] [0] rfl rfl (by decide) (fun hp => va_runVN (C := RX7) (As := [.int p0]) (rest := []) ⟨hx, hb, hml, hown, hts⟩ (c_X7_hasNote (l := l) (D := D) (K := K) (t0 := (t0)) (p0 := (p0)) (ft := (ft)) (ht0 := ht0) (ht3 := ht3) (ht4 := ht4) (ht5 := ht5) _) ⟨va_cnB (own := RX11) 1 hts (fn_gin wd_688) rfl rfl rfl (hK.nw 113 rfl) (hts _ wd_4) (by decide +kernel) ⟨Nat.le_of_ble_eq_true rfl, Nat.le_of_ble_eq_true rfl⟩, hts _ wd_687, hts _ wp_28⟩ ⟨fn_blind, va_recv hK.1 hP (ci := 7) (q0 := 1) rfl rfl, hp⟩ rfl rfl hl.1 rfl (lv_room (Nat.le_of_ble_eq_true rfl)) dX11_misprint_5 ⟨Nat.le_of_ble_eq_true rfl, Nat.le_of_ble_eq_true rfl⟩) (fun r2 u1 H locs hwu1 hP hD hS => ?_)
  have r2_e : r2 = 0 := hwu1
  subst r2_e
  have hP : va_P D vwCl [(x0, .inr (11, fx))] H := hP
  have hD : va_D A [(x0, .inr (11, fx))] := hD
  refine lv_if_eq (tgt := 21) hx hb dX11_misprint_8 (by decide) (fun _ => ?_) (fun h9 => absurd (by decide) h9)
  refine lv_bipush (v := (-2)) hx hb dX11_misprint_21 (by decide) ?_
  exact fn_iret hx hb hr hlocks rfl hP hD hS () (by first | rfl | decide) [] (by decide) rfl dX11_misprint_23
theorem dX11_reach_0 : decode cX11_reach 0 = .ok (.aload_n 0, 1) := by decide +kernel
theorem dX11_reach_1 : decode cX11_reach 1 = .ok (.getfield 19, 3) := by decide +kernel
theorem dX11_reach_4 : decode cX11_reach 4 = .ok (.iload_n 1, 1) := by decide +kernel
theorem dX11_reach_5 : decode cX11_reach 5 = .ok (.invokevirtual 130, 3) := by decide +kernel
theorem dX11_reach_8 : decode cX11_reach 8 = .ok (.ifCond .eq 14, 3) := by decide +kernel
theorem dX11_reach_22 : decode cX11_reach 22 = .ok (.bipush (-2), 2) := by decide +kernel
theorem dX11_reach_24 : decode cX11_reach 24 = .ok (.ireturn, 1) := by decide +kernel
set_option maxHeartbeats 4000000 in
set_option maxRecDepth 100000 in
theorem c_X11_reach (l : Launch) (D : va_G) (K : Nat → ClassId) (t0 : Nat) (ft : List Value) (ht0 : ft[0]? = some (.int 0)) (ht3 : ft[3]? = some (.int 0)) (ht4 : ft[4]? = some (.int 0)) (ht5 : ft[5]? = some (.int 0)) (x0 : Nat) (fx : List Value) (hx1 : fx[1]? = some (.ref t0)) (p0 : Int32) : fn_CI (S := Unit) l D K yX11_reach (fn_ws yX11_reach cX11_reach 2 (some .int)) ({ frames := 8, cells := 0, slots := 0, locals := 200 }) [.ref x0, .int p0] [(x0, .inr (11, fx)), (t0, .inr (7, ft))] (fun r _ => r = (-2)) (fun _ => []) 0 0 := by
  refine fn_inI (cc := cX11_reach) (maxL := 2) (ret := (some .int)) (by decide) rfl (Nat.le_of_ble_eq_true rfl) ?_
  intro p e s m below meth c A ls B hA hP hD hS hl
  obtain ⟨hx, hb, hr, hml, hts, hown, hlocks, hin, hK⟩ := B
  have hown : s.vm.findClass RX11 = some m.cls := hown
  have hts := fun w h => hts w (List.mem_cons_of_mem _ h)
  have hl : lv_has ls 2 [(0, .ref x0), (1, .int p0)] := hl
  refine lv_aload_n hx hb dX11_reach_0 rfl (lv_at hl 0 rfl) ?_
  refine va_get (D := D) (own := RX11) (ci := 11) (v := .ref t0) (C := RX11) (T := TX11) (N := 13) hx hb hts inb_X11 hown hK.1 hP 0 rfl rfl 1 (by decide) (hts _ wd_423) (fun _ h9 => h9) hx1 dX11_reach_1 ?_
  refine lv_iload_n hx hb dX11_reach_4 rfl (lv_at hl 1 rfl) ?_
  refine fn_goi (wc := [(t0, .inr (7, ft))]) (wr := [(x0, .inr (11, fx))]) hK hP hD hS hA [1] [0] rfl rfl (by decide) (fun hp => va_runVN (C := RX7) (As := [.int p0]) (rest := []) ⟨hx, hb, hml, hown, hts⟩ (c_X7_hasPage (l := l) (D := D) (K := K) (t0 := (t0)) (p0 := (p0)) (ft := (ft)) (ht0 := ht0) (ht3 := ht3) (ht4 := ht4) (ht5 := ht5) _) ⟨va_cnB (own := RX11) 1 hts (fn_gin wd_662) rfl rfl rfl (hK.nw 108 rfl) (hts _ wd_4) (by decide +kernel) ⟨Nat.le_of_ble_eq_true rfl, Nat.le_of_ble_eq_true rfl⟩, hts _ wd_661, hts _ wp_25⟩ ⟨fn_blind, va_recv hK.1 hP (ci := 7) (q0 := 1) rfl rfl, hp⟩ rfl rfl hl.1 rfl (lv_room (Nat.le_of_ble_eq_true rfl)) dX11_reach_5 ⟨Nat.le_of_ble_eq_true rfl, Nat.le_of_ble_eq_true rfl⟩) (fun r2 u1 H locs hwu1 hP hD hS => ?_)
  have r2_e : r2 = 0 := hwu1
  subst r2_e
  have hP : va_P D vwCl [(x0, .inr (11, fx))] H := hP
  have hD : va_D A [(x0, .inr (11, fx))] := hD
  refine lv_if_eq (tgt := 22) hx hb dX11_reach_8 (by decide) (fun _ => ?_) (fun h9 => absurd (by decide) h9)
  refine lv_bipush (v := (-2)) hx hb dX11_reach_22 (by decide) ?_
  exact fn_iret hx hb hr hlocks rfl hP hD hS () (by first | rfl | decide) [] (by decide) rfl dX11_reach_24
theorem dX11_upon_0 : decode cX11_upon 0 = .ok (.aload_n 0, 1) := by decide +kernel
theorem dX11_upon_1 : decode cX11_upon 1 = .ok (.getfield 19, 3) := by decide +kernel
theorem dX11_upon_4 : decode cX11_upon 4 = .ok (.iload_n 1, 1) := by decide +kernel
theorem dX11_upon_5 : decode cX11_upon 5 = .ok (.invokevirtual 130, 3) := by decide +kernel
theorem dX11_upon_8 : decode cX11_upon 8 = .ok (.ifCond .ne 6, 3) := by decide +kernel
theorem dX11_upon_11 : decode cX11_upon 11 = .ok (.bipush (-2), 2) := by decide +kernel
theorem dX11_upon_13 : decode cX11_upon 13 = .ok (.ireturn, 1) := by decide +kernel
set_option maxHeartbeats 4000000 in
set_option maxRecDepth 100000 in
theorem c_X11_upon (l : Launch) (D : va_G) (K : Nat → ClassId) (t0 : Nat) (ft : List Value) (ht0 : ft[0]? = some (.int 0)) (ht3 : ft[3]? = some (.int 0)) (ht4 : ft[4]? = some (.int 0)) (ht5 : ft[5]? = some (.int 0)) (x0 : Nat) (fx : List Value) (hx1 : fx[1]? = some (.ref t0)) (p0 : Int32) : fn_CI (S := Unit) l D K yX11_upon (fn_ws yX11_upon cX11_upon 4 (some .int)) ({ frames := 8, cells := 0, slots := 0, locals := 200 }) [.ref x0, .int p0] [(x0, .inr (11, fx)), (t0, .inr (7, ft))] (fun r _ => r = (-2)) (fun _ => []) 0 0 := by
  refine fn_inI (cc := cX11_upon) (maxL := 4) (ret := (some .int)) (by decide) rfl (Nat.le_of_ble_eq_true rfl) ?_
  intro p e s m below meth c A ls B hA hP hD hS hl
  obtain ⟨hx, hb, hr, hml, hts, hown, hlocks, hin, hK⟩ := B
  have hown : s.vm.findClass RX11 = some m.cls := hown
  have hts := fun w h => hts w (List.mem_cons_of_mem _ h)
  have hl : lv_has ls 4 [(0, .ref x0), (1, .int p0)] := hl
  refine lv_aload_n hx hb dX11_upon_0 rfl (lv_at hl 0 rfl) ?_
  refine va_get (D := D) (own := RX11) (ci := 11) (v := .ref t0) (C := RX11) (T := TX11) (N := 13) hx hb hts inb_X11 hown hK.1 hP 0 rfl rfl 1 (by decide) (hts _ wd_423) (fun _ h9 => h9) hx1 dX11_upon_1 ?_
  refine lv_iload_n hx hb dX11_upon_4 rfl (lv_at hl 1 rfl) ?_
  refine fn_goi (wc := [(t0, .inr (7, ft))]) (wr := [(x0, .inr (11, fx))]) hK hP hD hS hA [1] [0] rfl rfl (by decide) (fun hp => va_runVN (C := RX7) (As := [.int p0]) (rest := []) ⟨hx, hb, hml, hown, hts⟩ (c_X7_hasPage (l := l) (D := D) (K := K) (t0 := (t0)) (p0 := (p0)) (ft := (ft)) (ht0 := ht0) (ht3 := ht3) (ht4 := ht4) (ht5 := ht5) _) ⟨va_cnB (own := RX11) 1 hts (fn_gin wd_662) rfl rfl rfl (hK.nw 108 rfl) (hts _ wd_4) (by decide +kernel) ⟨Nat.le_of_ble_eq_true rfl, Nat.le_of_ble_eq_true rfl⟩, hts _ wd_661, hts _ wp_25⟩ ⟨fn_blind, va_recv hK.1 hP (ci := 7) (q0 := 1) rfl rfl, hp⟩ rfl rfl hl.1 rfl (lv_room (Nat.le_of_ble_eq_true rfl)) dX11_upon_5 ⟨Nat.le_of_ble_eq_true rfl, Nat.le_of_ble_eq_true rfl⟩) (fun r2 u1 H locs hwu1 hP hD hS => ?_)
  have r2_e : r2 = 0 := hwu1
  subst r2_e
  have hP : va_P D vwCl [(x0, .inr (11, fx))] H := hP
  have hD : va_D A [(x0, .inr (11, fx))] := hD
  refine lv_if_ne (tgt := 14) hx hb dX11_upon_8 (by decide) (fun h9 => absurd rfl h9) (fun _ => ?_)
  refine lv_bipush (v := (-2)) hx hb dX11_upon_11 (by decide) ?_
  exact fn_iret hx hb hr hlocks rfl hP hD hS () (by first | rfl | decide) [] (by decide) rfl dX11_upon_13
theorem dX11_round_0 : decode cX11_round 0 = .ok (.aload_n 0, 1) := by decide +kernel
theorem dX11_round_1 : decode cX11_round 1 = .ok (.getfield 19, 3) := by decide +kernel
theorem dX11_round_4 : decode cX11_round 4 = .ok (.iload_n 1, 1) := by decide +kernel
theorem dX11_round_5 : decode cX11_round 5 = .ok (.invokevirtual 130, 3) := by decide +kernel
theorem dX11_round_8 : decode cX11_round 8 = .ok (.ifCond .ne 6, 3) := by decide +kernel
theorem dX11_round_11 : decode cX11_round 11 = .ok (.bipush (-2), 2) := by decide +kernel
theorem dX11_round_13 : decode cX11_round 13 = .ok (.ireturn, 1) := by decide +kernel
set_option maxHeartbeats 4000000 in
set_option maxRecDepth 100000 in
theorem c_X11_round (l : Launch) (D : va_G) (K : Nat → ClassId) (t0 : Nat) (ft : List Value) (ht0 : ft[0]? = some (.int 0)) (ht3 : ft[3]? = some (.int 0)) (ht4 : ft[4]? = some (.int 0)) (ht5 : ft[5]? = some (.int 0)) (x0 : Nat) (fx : List Value) (hx1 : fx[1]? = some (.ref t0)) (p0 : Int32) : fn_CI (S := Unit) l D K yX11_round (fn_ws yX11_round cX11_round 2 (some .int)) ({ frames := 8, cells := 0, slots := 0, locals := 200 }) [.ref x0, .int p0] [(x0, .inr (11, fx)), (t0, .inr (7, ft))] (fun r _ => r = (-2)) (fun _ => []) 0 0 := by
  refine fn_inI (cc := cX11_round) (maxL := 2) (ret := (some .int)) (by decide) rfl (Nat.le_of_ble_eq_true rfl) ?_
  intro p e s m below meth c A ls B hA hP hD hS hl
  obtain ⟨hx, hb, hr, hml, hts, hown, hlocks, hin, hK⟩ := B
  have hown : s.vm.findClass RX11 = some m.cls := hown
  have hts := fun w h => hts w (List.mem_cons_of_mem _ h)
  have hl : lv_has ls 2 [(0, .ref x0), (1, .int p0)] := hl
  refine lv_aload_n hx hb dX11_round_0 rfl (lv_at hl 0 rfl) ?_
  refine va_get (D := D) (own := RX11) (ci := 11) (v := .ref t0) (C := RX11) (T := TX11) (N := 13) hx hb hts inb_X11 hown hK.1 hP 0 rfl rfl 1 (by decide) (hts _ wd_423) (fun _ h9 => h9) hx1 dX11_round_1 ?_
  refine lv_iload_n hx hb dX11_round_4 rfl (lv_at hl 1 rfl) ?_
  refine fn_goi (wc := [(t0, .inr (7, ft))]) (wr := [(x0, .inr (11, fx))]) hK hP hD hS hA [1] [0] rfl rfl (by decide) (fun hp => va_runVN (C := RX7) (As := [.int p0]) (rest := []) ⟨hx, hb, hml, hown, hts⟩ (c_X7_hasPage (l := l) (D := D) (K := K) (t0 := (t0)) (p0 := (p0)) (ft := (ft)) (ht0 := ht0) (ht3 := ht3) (ht4 := ht4) (ht5 := ht5) _) ⟨va_cnB (own := RX11) 1 hts (fn_gin wd_662) rfl rfl rfl (hK.nw 108 rfl) (hts _ wd_4) (by decide +kernel) ⟨Nat.le_of_ble_eq_true rfl, Nat.le_of_ble_eq_true rfl⟩, hts _ wd_661, hts _ wp_25⟩ ⟨fn_blind, va_recv hK.1 hP (ci := 7) (q0 := 1) rfl rfl, hp⟩ rfl rfl hl.1 rfl (lv_room (Nat.le_of_ble_eq_true rfl)) dX11_round_5 ⟨Nat.le_of_ble_eq_true rfl, Nat.le_of_ble_eq_true rfl⟩) (fun r2 u1 H locs hwu1 hP hD hS => ?_)
  have r2_e : r2 = 0 := hwu1
  subst r2_e
  have hP : va_P D vwCl [(x0, .inr (11, fx))] H := hP
  have hD : va_D A [(x0, .inr (11, fx))] := hD
  refine lv_if_ne (tgt := 14) hx hb dX11_round_8 (by decide) (fun h9 => absurd rfl h9) (fun _ => ?_)
  refine lv_bipush (v := (-2)) hx hb dX11_round_11 (by decide) ?_
  exact fn_iret hx hb hr hlocks rfl hP hD hS () (by first | rfl | decide) [] (by decide) rfl dX11_round_13
theorem dX11_ring_0 : decode cX11_ring 0 = .ok (.aload_n 0, 1) := by decide +kernel
theorem dX11_ring_1 : decode cX11_ring 1 = .ok (.getfield 19, 3) := by decide +kernel
theorem dX11_ring_4 : decode cX11_ring 4 = .ok (.iload_n 1, 1) := by decide +kernel
theorem dX11_ring_5 : decode cX11_ring 5 = .ok (.invokevirtual 130, 3) := by decide +kernel
theorem dX11_ring_8 : decode cX11_ring 8 = .ok (.ifCond .ne 6, 3) := by decide +kernel
theorem dX11_ring_11 : decode cX11_ring 11 = .ok (.bipush (-2), 2) := by decide +kernel
theorem dX11_ring_13 : decode cX11_ring 13 = .ok (.ireturn, 1) := by decide +kernel
set_option maxHeartbeats 4000000 in
set_option maxRecDepth 100000 in
theorem c_X11_ring (l : Launch) (D : va_G) (K : Nat → ClassId) (t0 : Nat) (ft : List Value) (ht0 : ft[0]? = some (.int 0)) (ht3 : ft[3]? = some (.int 0)) (ht4 : ft[4]? = some (.int 0)) (ht5 : ft[5]? = some (.int 0)) (x0 : Nat) (fx : List Value) (hx1 : fx[1]? = some (.ref t0)) (p0 : Int32) : fn_CI (S := Unit) l D K yX11_ring (fn_ws yX11_ring cX11_ring 2 (some .int)) ({ frames := 8, cells := 0, slots := 0, locals := 200 }) [.ref x0, .int p0] [(x0, .inr (11, fx)), (t0, .inr (7, ft))] (fun r _ => r = (-2)) (fun _ => []) 0 0 := by
  refine fn_inI (cc := cX11_ring) (maxL := 2) (ret := (some .int)) (by decide) rfl (Nat.le_of_ble_eq_true rfl) ?_
  intro p e s m below meth c A ls B hA hP hD hS hl
  obtain ⟨hx, hb, hr, hml, hts, hown, hlocks, hin, hK⟩ := B
  have hown : s.vm.findClass RX11 = some m.cls := hown
  have hts := fun w h => hts w (List.mem_cons_of_mem _ h)
  have hl : lv_has ls 2 [(0, .ref x0), (1, .int p0)] := hl
  refine lv_aload_n hx hb dX11_ring_0 rfl (lv_at hl 0 rfl) ?_
  refine va_get (D := D) (own := RX11) (ci := 11) (v := .ref t0) (C := RX11) (T := TX11) (N := 13) hx hb hts inb_X11 hown hK.1 hP 0 rfl rfl 1 (by decide) (hts _ wd_423) (fun _ h9 => h9) hx1 dX11_ring_1 ?_
  refine lv_iload_n hx hb dX11_ring_4 rfl (lv_at hl 1 rfl) ?_
  refine fn_goi (wc := [(t0, .inr (7, ft))]) (wr := [(x0, .inr (11, fx))]) hK hP hD hS hA [1] [0] rfl rfl (by decide) (fun hp => va_runVN (C := RX7) (As := [.int p0]) (rest := []) ⟨hx, hb, hml, hown, hts⟩ (c_X7_hasPage (l := l) (D := D) (K := K) (t0 := (t0)) (p0 := (p0)) (ft := (ft)) (ht0 := ht0) (ht3 := ht3) (ht4 := ht4) (ht5 := ht5) _) ⟨va_cnB (own := RX11) 1 hts (fn_gin wd_662) rfl rfl rfl (hK.nw 108 rfl) (hts _ wd_4) (by decide +kernel) ⟨Nat.le_of_ble_eq_true rfl, Nat.le_of_ble_eq_true rfl⟩, hts _ wd_661, hts _ wp_25⟩ ⟨fn_blind, va_recv hK.1 hP (ci := 7) (q0 := 1) rfl rfl, hp⟩ rfl rfl hl.1 rfl (lv_room (Nat.le_of_ble_eq_true rfl)) dX11_ring_5 ⟨Nat.le_of_ble_eq_true rfl, Nat.le_of_ble_eq_true rfl⟩) (fun r2 u1 H locs hwu1 hP hD hS => ?_)
  have r2_e : r2 = 0 := hwu1
  subst r2_e
  have hP : va_P D vwCl [(x0, .inr (11, fx))] H := hP
  have hD : va_D A [(x0, .inr (11, fx))] := hD
  refine lv_if_ne (tgt := 14) hx hb dX11_ring_8 (by decide) (fun h9 => absurd rfl h9) (fun _ => ?_)
  refine lv_bipush (v := (-2)) hx hb dX11_ring_11 (by decide) ?_
  exact fn_iret hx hb hr hlocks rfl hP hD hS () (by first | rfl | decide) [] (by decide) rfl dX11_ring_13
theorem dX11_way_0 : decode cX11_way 0 = .ok (.aload_n 0, 1) := by decide +kernel
theorem dX11_way_1 : decode cX11_way 1 = .ok (.getfield 19, 3) := by decide +kernel
theorem dX11_way_4 : decode cX11_way 4 = .ok (.iload_n 1, 1) := by decide +kernel
theorem dX11_way_5 : decode cX11_way 5 = .ok (.invokevirtual 130, 3) := by decide +kernel
theorem dX11_way_8 : decode cX11_way 8 = .ok (.ifCond .eq 14, 3) := by decide +kernel
theorem dX11_way_22 : decode cX11_way 22 = .ok (.bipush (-2), 2) := by decide +kernel
theorem dX11_way_24 : decode cX11_way 24 = .ok (.ireturn, 1) := by decide +kernel
set_option maxHeartbeats 4000000 in
set_option maxRecDepth 100000 in
theorem c_X11_way (l : Launch) (D : va_G) (K : Nat → ClassId) (t0 : Nat) (ft : List Value) (ht0 : ft[0]? = some (.int 0)) (ht3 : ft[3]? = some (.int 0)) (ht4 : ft[4]? = some (.int 0)) (ht5 : ft[5]? = some (.int 0)) (x0 : Nat) (fx : List Value) (hx1 : fx[1]? = some (.ref t0)) (p0 : Int32) : fn_CI (S := Unit) l D K yX11_way (fn_ws yX11_way cX11_way 2 (some .int)) ({ frames := 8, cells := 0, slots := 0, locals := 200 }) [.ref x0, .int p0] [(x0, .inr (11, fx)), (t0, .inr (7, ft))] (fun r _ => r = (-2)) (fun _ => []) 0 0 := by
  refine fn_inI (cc := cX11_way) (maxL := 2) (ret := (some .int)) (by decide) rfl (Nat.le_of_ble_eq_true rfl) ?_
  intro p e s m below meth c A ls B hA hP hD hS hl
  obtain ⟨hx, hb, hr, hml, hts, hown, hlocks, hin, hK⟩ := B
  have hown : s.vm.findClass RX11 = some m.cls := hown
  have hts := fun w h => hts w (List.mem_cons_of_mem _ h)
  have hl : lv_has ls 2 [(0, .ref x0), (1, .int p0)] := hl
  refine lv_aload_n hx hb dX11_way_0 rfl (lv_at hl 0 rfl) ?_
  refine va_get (D := D) (own := RX11) (ci := 11) (v := .ref t0) (C := RX11) (T := TX11) (N := 13) hx hb hts inb_X11 hown hK.1 hP 0 rfl rfl 1 (by decide) (hts _ wd_423) (fun _ h9 => h9) hx1 dX11_way_1 ?_
  refine lv_iload_n hx hb dX11_way_4 rfl (lv_at hl 1 rfl) ?_
  refine fn_goi (wc := [(t0, .inr (7, ft))]) (wr := [(x0, .inr (11, fx))]) hK hP hD hS hA [1] [0] rfl rfl (by decide) (fun hp => va_runVN (C := RX7) (As := [.int p0]) (rest := []) ⟨hx, hb, hml, hown, hts⟩ (c_X7_hasPage (l := l) (D := D) (K := K) (t0 := (t0)) (p0 := (p0)) (ft := (ft)) (ht0 := ht0) (ht3 := ht3) (ht4 := ht4) (ht5 := ht5) _) ⟨va_cnB (own := RX11) 1 hts (fn_gin wd_662) rfl rfl rfl (hK.nw 108 rfl) (hts _ wd_4) (by decide +kernel) ⟨Nat.le_of_ble_eq_true rfl, Nat.le_of_ble_eq_true rfl⟩, hts _ wd_661, hts _ wp_25⟩ ⟨fn_blind, va_recv hK.1 hP (ci := 7) (q0 := 1) rfl rfl, hp⟩ rfl rfl hl.1 rfl (lv_room (Nat.le_of_ble_eq_true rfl)) dX11_way_5 ⟨Nat.le_of_ble_eq_true rfl, Nat.le_of_ble_eq_true rfl⟩) (fun r2 u1 H locs hwu1 hP hD hS => ?_)
  have r2_e : r2 = 0 := hwu1
  subst r2_e
  have hP : va_P D vwCl [(x0, .inr (11, fx))] H := hP
  have hD : va_D A [(x0, .inr (11, fx))] := hD
  refine lv_if_eq (tgt := 22) hx hb dX11_way_8 (by decide) (fun _ => ?_) (fun h9 => absurd (by decide) h9)
  refine lv_bipush (v := (-2)) hx hb dX11_way_22 (by decide) ?_
  exact fn_iret hx hb hr hlocks rfl hP hD hS () (by first | rfl | decide) [] (by decide) rfl dX11_way_24
theorem dX11_step_0 : decode cX11_step 0 = .ok (.aload_n 0, 1) := by decide +kernel
theorem dX11_step_1 : decode cX11_step 1 = .ok (.getfield 19, 3) := by decide +kernel
theorem dX11_step_4 : decode cX11_step 4 = .ok (.iload_n 1, 1) := by decide +kernel
theorem dX11_step_5 : decode cX11_step 5 = .ok (.invokevirtual 130, 3) := by decide +kernel
theorem dX11_step_8 : decode cX11_step 8 = .ok (.ifCond .ne 6, 3) := by decide +kernel
theorem dX11_step_11 : decode cX11_step 11 = .ok (.bipush (-2), 2) := by decide +kernel
theorem dX11_step_13 : decode cX11_step 13 = .ok (.ireturn, 1) := by decide +kernel
set_option maxHeartbeats 4000000 in
set_option maxRecDepth 100000 in
theorem c_X11_step (l : Launch) (D : va_G) (K : Nat → ClassId) (t0 : Nat) (ft : List Value) (ht0 : ft[0]? = some (.int 0)) (ht3 : ft[3]? = some (.int 0)) (ht4 : ft[4]? = some (.int 0)) (ht5 : ft[5]? = some (.int 0)) (x0 : Nat) (fx : List Value) (hx1 : fx[1]? = some (.ref t0)) (p0 p1 : Int32) : fn_CI (S := Unit) l D K yX11_step (fn_ws yX11_step cX11_step 6 (some .int)) ({ frames := 8, cells := 0, slots := 0, locals := 200 }) [.ref x0, .int p0, .int p1] [(x0, .inr (11, fx)), (t0, .inr (7, ft))] (fun r _ => r = (-2)) (fun _ => []) 0 0 := by
  refine fn_inI (cc := cX11_step) (maxL := 6) (ret := (some .int)) (by decide) rfl (Nat.le_of_ble_eq_true rfl) ?_
  intro p e s m below meth c A ls B hA hP hD hS hl
  obtain ⟨hx, hb, hr, hml, hts, hown, hlocks, hin, hK⟩ := B
  have hown : s.vm.findClass RX11 = some m.cls := hown
  have hts := fun w h => hts w (List.mem_cons_of_mem _ h)
  have hl : lv_has ls 6 [(0, .ref x0), (1, .int p0), (2, .int p1)] := hl
  refine lv_aload_n hx hb dX11_step_0 rfl (lv_at hl 0 rfl) ?_
  refine va_get (D := D) (own := RX11) (ci := 11) (v := .ref t0) (C := RX11) (T := TX11) (N := 13) hx hb hts inb_X11 hown hK.1 hP 0 rfl rfl 1 (by decide) (hts _ wd_423) (fun _ h9 => h9) hx1 dX11_step_1 ?_
  refine lv_iload_n hx hb dX11_step_4 rfl (lv_at hl 1 rfl) ?_
  refine fn_goi (wc := [(t0, .inr (7, ft))]) (wr := [(x0, .inr (11, fx))]) hK hP hD hS hA [1] [0] rfl rfl (by decide) (fun hp => va_runVN (C := RX7) (As := [.int p0]) (rest := []) ⟨hx, hb, hml, hown, hts⟩ (c_X7_hasPage (l := l) (D := D) (K := K) (t0 := (t0)) (p0 := (p0)) (ft := (ft)) (ht0 := ht0) (ht3 := ht3) (ht4 := ht4) (ht5 := ht5) _) ⟨va_cnB (own := RX11) 1 hts (fn_gin wd_662) rfl rfl rfl (hK.nw 108 rfl) (hts _ wd_4) (by decide +kernel) ⟨Nat.le_of_ble_eq_true rfl, Nat.le_of_ble_eq_true rfl⟩, hts _ wd_661, hts _ wp_25⟩ ⟨fn_blind, va_recv hK.1 hP (ci := 7) (q0 := 1) rfl rfl, hp⟩ rfl rfl hl.1 rfl (lv_room (Nat.le_of_ble_eq_true rfl)) dX11_step_5 ⟨Nat.le_of_ble_eq_true rfl, Nat.le_of_ble_eq_true rfl⟩) (fun r2 u1 H locs hwu1 hP hD hS => ?_)
  have r2_e : r2 = 0 := hwu1
  subst r2_e
  have hP : va_P D vwCl [(x0, .inr (11, fx))] H := hP
  have hD : va_D A [(x0, .inr (11, fx))] := hD
  refine lv_if_ne (tgt := 14) hx hb dX11_step_8 (by decide) (fun h9 => absurd rfl h9) (fun _ => ?_)
  refine lv_bipush (v := (-2)) hx hb dX11_step_11 (by decide) ?_
  exact fn_iret hx hb hr hlocks rfl hP hD hS () (by first | rfl | decide) [] (by decide) rfl dX11_step_13
theorem dX11_depth_0 : decode cX11_depth 0 = .ok (.aload_n 0, 1) := by decide +kernel
theorem dX11_depth_1 : decode cX11_depth 1 = .ok (.getfield 19, 3) := by decide +kernel
theorem dX11_depth_4 : decode cX11_depth 4 = .ok (.iload_n 1, 1) := by decide +kernel
theorem dX11_depth_5 : decode cX11_depth 5 = .ok (.invokevirtual 130, 3) := by decide +kernel
theorem dX11_depth_8 : decode cX11_depth 8 = .ok (.ifCond .eq 14, 3) := by decide +kernel
theorem dX11_depth_22 : decode cX11_depth 22 = .ok (.bipush (-2), 2) := by decide +kernel
theorem dX11_depth_24 : decode cX11_depth 24 = .ok (.ireturn, 1) := by decide +kernel
set_option maxHeartbeats 4000000 in
set_option maxRecDepth 100000 in
theorem c_X11_depth (l : Launch) (D : va_G) (K : Nat → ClassId) (t0 : Nat) (ft : List Value) (ht0 : ft[0]? = some (.int 0)) (ht3 : ft[3]? = some (.int 0)) (ht4 : ft[4]? = some (.int 0)) (ht5 : ft[5]? = some (.int 0)) (x0 : Nat) (fx : List Value) (hx1 : fx[1]? = some (.ref t0)) (p0 : Int32) : fn_CI (S := Unit) l D K yX11_depth (fn_ws yX11_depth cX11_depth 2 (some .int)) ({ frames := 8, cells := 0, slots := 0, locals := 200 }) [.ref x0, .int p0] [(x0, .inr (11, fx)), (t0, .inr (7, ft))] (fun r _ => r = (-2)) (fun _ => []) 0 0 := by
  refine fn_inI (cc := cX11_depth) (maxL := 2) (ret := (some .int)) (by decide) rfl (Nat.le_of_ble_eq_true rfl) ?_
  intro p e s m below meth c A ls B hA hP hD hS hl
  obtain ⟨hx, hb, hr, hml, hts, hown, hlocks, hin, hK⟩ := B
  have hown : s.vm.findClass RX11 = some m.cls := hown
  have hts := fun w h => hts w (List.mem_cons_of_mem _ h)
  have hl : lv_has ls 2 [(0, .ref x0), (1, .int p0)] := hl
  refine lv_aload_n hx hb dX11_depth_0 rfl (lv_at hl 0 rfl) ?_
  refine va_get (D := D) (own := RX11) (ci := 11) (v := .ref t0) (C := RX11) (T := TX11) (N := 13) hx hb hts inb_X11 hown hK.1 hP 0 rfl rfl 1 (by decide) (hts _ wd_423) (fun _ h9 => h9) hx1 dX11_depth_1 ?_
  refine lv_iload_n hx hb dX11_depth_4 rfl (lv_at hl 1 rfl) ?_
  refine fn_goi (wc := [(t0, .inr (7, ft))]) (wr := [(x0, .inr (11, fx))]) hK hP hD hS hA [1] [0] rfl rfl (by decide) (fun hp => va_runVN (C := RX7) (As := [.int p0]) (rest := []) ⟨hx, hb, hml, hown, hts⟩ (c_X7_hasPage (l := l) (D := D) (K := K) (t0 := (t0)) (p0 := (p0)) (ft := (ft)) (ht0 := ht0) (ht3 := ht3) (ht4 := ht4) (ht5 := ht5) _) ⟨va_cnB (own := RX11) 1 hts (fn_gin wd_662) rfl rfl rfl (hK.nw 108 rfl) (hts _ wd_4) (by decide +kernel) ⟨Nat.le_of_ble_eq_true rfl, Nat.le_of_ble_eq_true rfl⟩, hts _ wd_661, hts _ wp_25⟩ ⟨fn_blind, va_recv hK.1 hP (ci := 7) (q0 := 1) rfl rfl, hp⟩ rfl rfl hl.1 rfl (lv_room (Nat.le_of_ble_eq_true rfl)) dX11_depth_5 ⟨Nat.le_of_ble_eq_true rfl, Nat.le_of_ble_eq_true rfl⟩) (fun r2 u1 H locs hwu1 hP hD hS => ?_)
  have r2_e : r2 = 0 := hwu1
  subst r2_e
  have hP : va_P D vwCl [(x0, .inr (11, fx))] H := hP
  have hD : va_D A [(x0, .inr (11, fx))] := hD
  refine lv_if_eq (tgt := 22) hx hb dX11_depth_8 (by decide) (fun _ => ?_) (fun h9 => absurd (by decide) h9)
  refine lv_bipush (v := (-2)) hx hb dX11_depth_22 (by decide) ?_
  exact fn_iret hx hb hr hlocks rfl hP hD hS () (by first | rfl | decide) [] (by decide) rfl dX11_depth_24
theorem dX11_needs_0 : decode cX11_needs 0 = .ok (.aload_n 0, 1) := by decide +kernel
theorem dX11_needs_1 : decode cX11_needs 1 = .ok (.getfield 19, 3) := by decide +kernel
theorem dX11_needs_4 : decode cX11_needs 4 = .ok (.iload_n 1, 1) := by decide +kernel
theorem dX11_needs_5 : decode cX11_needs 5 = .ok (.invokevirtual 130, 3) := by decide +kernel
theorem dX11_needs_8 : decode cX11_needs 8 = .ok (.ifCond .ne 6, 3) := by decide +kernel
theorem dX11_needs_11 : decode cX11_needs 11 = .ok (.bipush (-2), 2) := by decide +kernel
theorem dX11_needs_13 : decode cX11_needs 13 = .ok (.ireturn, 1) := by decide +kernel
set_option maxHeartbeats 4000000 in
set_option maxRecDepth 100000 in
theorem c_X11_needs (l : Launch) (D : va_G) (K : Nat → ClassId) (t0 : Nat) (ft : List Value) (ht0 : ft[0]? = some (.int 0)) (ht3 : ft[3]? = some (.int 0)) (ht4 : ft[4]? = some (.int 0)) (ht5 : ft[5]? = some (.int 0)) (x0 : Nat) (fx : List Value) (hx1 : fx[1]? = some (.ref t0)) (p0 : Int32) : fn_CI (S := Unit) l D K yX11_needs (fn_ws yX11_needs cX11_needs 5 (some .int)) ({ frames := 8, cells := 0, slots := 0, locals := 200 }) [.ref x0, .int p0] [(x0, .inr (11, fx)), (t0, .inr (7, ft))] (fun r _ => r = (-2)) (fun _ => []) 0 0 := by
  refine fn_inI (cc := cX11_needs) (maxL := 5) (ret := (some .int)) (by decide) rfl (Nat.le_of_ble_eq_true rfl) ?_
  intro p e s m below meth c A ls B hA hP hD hS hl
  obtain ⟨hx, hb, hr, hml, hts, hown, hlocks, hin, hK⟩ := B
  have hown : s.vm.findClass RX11 = some m.cls := hown
  have hts := fun w h => hts w (List.mem_cons_of_mem _ h)
  have hl : lv_has ls 5 [(0, .ref x0), (1, .int p0)] := hl
  refine lv_aload_n hx hb dX11_needs_0 rfl (lv_at hl 0 rfl) ?_
  refine va_get (D := D) (own := RX11) (ci := 11) (v := .ref t0) (C := RX11) (T := TX11) (N := 13) hx hb hts inb_X11 hown hK.1 hP 0 rfl rfl 1 (by decide) (hts _ wd_423) (fun _ h9 => h9) hx1 dX11_needs_1 ?_
  refine lv_iload_n hx hb dX11_needs_4 rfl (lv_at hl 1 rfl) ?_
  refine fn_goi (wc := [(t0, .inr (7, ft))]) (wr := [(x0, .inr (11, fx))]) hK hP hD hS hA [1] [0] rfl rfl (by decide) (fun hp => va_runVN (C := RX7) (As := [.int p0]) (rest := []) ⟨hx, hb, hml, hown, hts⟩ (c_X7_hasPage (l := l) (D := D) (K := K) (t0 := (t0)) (p0 := (p0)) (ft := (ft)) (ht0 := ht0) (ht3 := ht3) (ht4 := ht4) (ht5 := ht5) _) ⟨va_cnB (own := RX11) 1 hts (fn_gin wd_662) rfl rfl rfl (hK.nw 108 rfl) (hts _ wd_4) (by decide +kernel) ⟨Nat.le_of_ble_eq_true rfl, Nat.le_of_ble_eq_true rfl⟩, hts _ wd_661, hts _ wp_25⟩ ⟨fn_blind, va_recv hK.1 hP (ci := 7) (q0 := 1) rfl rfl, hp⟩ rfl rfl hl.1 rfl (lv_room (Nat.le_of_ble_eq_true rfl)) dX11_needs_5 ⟨Nat.le_of_ble_eq_true rfl, Nat.le_of_ble_eq_true rfl⟩) (fun r2 u1 H locs hwu1 hP hD hS => ?_)
  have r2_e : r2 = 0 := hwu1
  subst r2_e
  have hP : va_P D vwCl [(x0, .inr (11, fx))] H := hP
  have hD : va_D A [(x0, .inr (11, fx))] := hD
  refine lv_if_ne (tgt := 14) hx hb dX11_needs_8 (by decide) (fun h9 => absurd rfl h9) (fun _ => ?_)
  refine lv_bipush (v := (-2)) hx hb dX11_needs_11 (by decide) ?_
  exact fn_iret hx hb hr hlocks rfl hP hD hS () (by first | rfl | decide) [] (by decide) rfl dX11_needs_13
theorem dX11_loss_0 : decode cX11_loss 0 = .ok (.aload_n 0, 1) := by decide +kernel
theorem dX11_loss_1 : decode cX11_loss 1 = .ok (.getfield 19, 3) := by decide +kernel
theorem dX11_loss_4 : decode cX11_loss 4 = .ok (.iload_n 1, 1) := by decide +kernel
theorem dX11_loss_5 : decode cX11_loss 5 = .ok (.invokevirtual 130, 3) := by decide +kernel
theorem dX11_loss_8 : decode cX11_loss 8 = .ok (.ifCond .eq 14, 3) := by decide +kernel
theorem dX11_loss_22 : decode cX11_loss 22 = .ok (.bipush (-2), 2) := by decide +kernel
theorem dX11_loss_24 : decode cX11_loss 24 = .ok (.ireturn, 1) := by decide +kernel
set_option maxHeartbeats 4000000 in
set_option maxRecDepth 100000 in
theorem c_X11_loss (l : Launch) (D : va_G) (K : Nat → ClassId) (t0 : Nat) (ft : List Value) (ht0 : ft[0]? = some (.int 0)) (ht3 : ft[3]? = some (.int 0)) (ht4 : ft[4]? = some (.int 0)) (ht5 : ft[5]? = some (.int 0)) (x0 : Nat) (fx : List Value) (hx1 : fx[1]? = some (.ref t0)) (p0 : Int32) : fn_CI (S := Unit) l D K yX11_loss (fn_ws yX11_loss cX11_loss 2 (some .int)) ({ frames := 8, cells := 0, slots := 0, locals := 200 }) [.ref x0, .int p0] [(x0, .inr (11, fx)), (t0, .inr (7, ft))] (fun r _ => r = (-2)) (fun _ => []) 0 0 := by
  refine fn_inI (cc := cX11_loss) (maxL := 2) (ret := (some .int)) (by decide) rfl (Nat.le_of_ble_eq_true rfl) ?_
  intro p e s m below meth c A ls B hA hP hD hS hl
  obtain ⟨hx, hb, hr, hml, hts, hown, hlocks, hin, hK⟩ := B
  have hown : s.vm.findClass RX11 = some m.cls := hown
  have hts := fun w h => hts w (List.mem_cons_of_mem _ h)
  have hl : lv_has ls 2 [(0, .ref x0), (1, .int p0)] := hl
  refine lv_aload_n hx hb dX11_loss_0 rfl (lv_at hl 0 rfl) ?_
  refine va_get (D := D) (own := RX11) (ci := 11) (v := .ref t0) (C := RX11) (T := TX11) (N := 13) hx hb hts inb_X11 hown hK.1 hP 0 rfl rfl 1 (by decide) (hts _ wd_423) (fun _ h9 => h9) hx1 dX11_loss_1 ?_
  refine lv_iload_n hx hb dX11_loss_4 rfl (lv_at hl 1 rfl) ?_
  refine fn_goi (wc := [(t0, .inr (7, ft))]) (wr := [(x0, .inr (11, fx))]) hK hP hD hS hA [1] [0] rfl rfl (by decide) (fun hp => va_runVN (C := RX7) (As := [.int p0]) (rest := []) ⟨hx, hb, hml, hown, hts⟩ (c_X7_hasPage (l := l) (D := D) (K := K) (t0 := (t0)) (p0 := (p0)) (ft := (ft)) (ht0 := ht0) (ht3 := ht3) (ht4 := ht4) (ht5 := ht5) _) ⟨va_cnB (own := RX11) 1 hts (fn_gin wd_662) rfl rfl rfl (hK.nw 108 rfl) (hts _ wd_4) (by decide +kernel) ⟨Nat.le_of_ble_eq_true rfl, Nat.le_of_ble_eq_true rfl⟩, hts _ wd_661, hts _ wp_25⟩ ⟨fn_blind, va_recv hK.1 hP (ci := 7) (q0 := 1) rfl rfl, hp⟩ rfl rfl hl.1 rfl (lv_room (Nat.le_of_ble_eq_true rfl)) dX11_loss_5 ⟨Nat.le_of_ble_eq_true rfl, Nat.le_of_ble_eq_true rfl⟩) (fun r2 u1 H locs hwu1 hP hD hS => ?_)
  have r2_e : r2 = 0 := hwu1
  subst r2_e
  have hP : va_P D vwCl [(x0, .inr (11, fx))] H := hP
  have hD : va_D A [(x0, .inr (11, fx))] := hD
  refine lv_if_eq (tgt := 22) hx hb dX11_loss_8 (by decide) (fun _ => ?_) (fun h9 => absurd (by decide) h9)
  refine lv_bipush (v := (-2)) hx hb dX11_loss_22 (by decide) ?_
  exact fn_iret hx hb hr hlocks rfl hP hD hS () (by first | rfl | decide) [] (by decide) rfl dX11_loss_24
theorem dX11_torn_0 : decode cX11_torn 0 = .ok (.aload_n 0, 1) := by decide +kernel
theorem dX11_torn_1 : decode cX11_torn 1 = .ok (.getfield 19, 3) := by decide +kernel
theorem dX11_torn_4 : decode cX11_torn 4 = .ok (.iload_n 1, 1) := by decide +kernel
theorem dX11_torn_5 : decode cX11_torn 5 = .ok (.invokevirtual 130, 3) := by decide +kernel
theorem dX11_torn_8 : decode cX11_torn 8 = .ok (.ifCond .ne 6, 3) := by decide +kernel
theorem dX11_torn_11 : decode cX11_torn 11 = .ok (.bipush (-2), 2) := by decide +kernel
theorem dX11_torn_13 : decode cX11_torn 13 = .ok (.ireturn, 1) := by decide +kernel
set_option maxHeartbeats 4000000 in
set_option maxRecDepth 100000 in
theorem c_X11_torn (l : Launch) (D : va_G) (K : Nat → ClassId) (t0 : Nat) (ft : List Value) (ht0 : ft[0]? = some (.int 0)) (ht3 : ft[3]? = some (.int 0)) (ht4 : ft[4]? = some (.int 0)) (ht5 : ft[5]? = some (.int 0)) (x0 : Nat) (fx : List Value) (hx1 : fx[1]? = some (.ref t0)) (p0 : Int32) : fn_CI (S := Unit) l D K yX11_torn (fn_ws yX11_torn cX11_torn 2 (some .int)) ({ frames := 8, cells := 0, slots := 0, locals := 200 }) [.ref x0, .int p0] [(x0, .inr (11, fx)), (t0, .inr (7, ft))] (fun r _ => r = (-2)) (fun _ => []) 0 0 := by
  refine fn_inI (cc := cX11_torn) (maxL := 2) (ret := (some .int)) (by decide) rfl (Nat.le_of_ble_eq_true rfl) ?_
  intro p e s m below meth c A ls B hA hP hD hS hl
  obtain ⟨hx, hb, hr, hml, hts, hown, hlocks, hin, hK⟩ := B
  have hown : s.vm.findClass RX11 = some m.cls := hown
  have hts := fun w h => hts w (List.mem_cons_of_mem _ h)
  have hl : lv_has ls 2 [(0, .ref x0), (1, .int p0)] := hl
  refine lv_aload_n hx hb dX11_torn_0 rfl (lv_at hl 0 rfl) ?_
  refine va_get (D := D) (own := RX11) (ci := 11) (v := .ref t0) (C := RX11) (T := TX11) (N := 13) hx hb hts inb_X11 hown hK.1 hP 0 rfl rfl 1 (by decide) (hts _ wd_423) (fun _ h9 => h9) hx1 dX11_torn_1 ?_
  refine lv_iload_n hx hb dX11_torn_4 rfl (lv_at hl 1 rfl) ?_
  refine fn_goi (wc := [(t0, .inr (7, ft))]) (wr := [(x0, .inr (11, fx))]) hK hP hD hS hA [1] [0] rfl rfl (by decide) (fun hp => va_runVN (C := RX7) (As := [.int p0]) (rest := []) ⟨hx, hb, hml, hown, hts⟩ (c_X7_hasPage (l := l) (D := D) (K := K) (t0 := (t0)) (p0 := (p0)) (ft := (ft)) (ht0 := ht0) (ht3 := ht3) (ht4 := ht4) (ht5 := ht5) _) ⟨va_cnB (own := RX11) 1 hts (fn_gin wd_662) rfl rfl rfl (hK.nw 108 rfl) (hts _ wd_4) (by decide +kernel) ⟨Nat.le_of_ble_eq_true rfl, Nat.le_of_ble_eq_true rfl⟩, hts _ wd_661, hts _ wp_25⟩ ⟨fn_blind, va_recv hK.1 hP (ci := 7) (q0 := 1) rfl rfl, hp⟩ rfl rfl hl.1 rfl (lv_room (Nat.le_of_ble_eq_true rfl)) dX11_torn_5 ⟨Nat.le_of_ble_eq_true rfl, Nat.le_of_ble_eq_true rfl⟩) (fun r2 u1 H locs hwu1 hP hD hS => ?_)
  have r2_e : r2 = 0 := hwu1
  subst r2_e
  have hP : va_P D vwCl [(x0, .inr (11, fx))] H := hP
  have hD : va_D A [(x0, .inr (11, fx))] := hD
  refine lv_if_ne (tgt := 14) hx hb dX11_torn_8 (by decide) (fun h9 => absurd rfl h9) (fun _ => ?_)
  refine lv_bipush (v := (-2)) hx hb dX11_torn_11 (by decide) ?_
  exact fn_iret hx hb hr hlocks rfl hP hD hS () (by first | rfl | decide) [] (by decide) rfl dX11_torn_13
theorem dX11_leaves_0 : decode cX11_leaves 0 = .ok (.aload_n 0, 1) := by decide +kernel
theorem dX11_leaves_1 : decode cX11_leaves 1 = .ok (.getfield 19, 3) := by decide +kernel
theorem dX11_leaves_4 : decode cX11_leaves 4 = .ok (.iload_n 1, 1) := by decide +kernel
theorem dX11_leaves_5 : decode cX11_leaves 5 = .ok (.invokevirtual 130, 3) := by decide +kernel
theorem dX11_leaves_8 : decode cX11_leaves 8 = .ok (.ifCond .eq 14, 3) := by decide +kernel
theorem dX11_leaves_22 : decode cX11_leaves 22 = .ok (.bipush (-2), 2) := by decide +kernel
theorem dX11_leaves_24 : decode cX11_leaves 24 = .ok (.ireturn, 1) := by decide +kernel
set_option maxHeartbeats 4000000 in
set_option maxRecDepth 100000 in
theorem c_X11_leaves (l : Launch) (D : va_G) (K : Nat → ClassId) (t0 : Nat) (ft : List Value) (ht0 : ft[0]? = some (.int 0)) (ht3 : ft[3]? = some (.int 0)) (ht4 : ft[4]? = some (.int 0)) (ht5 : ft[5]? = some (.int 0)) (x0 : Nat) (fx : List Value) (hx1 : fx[1]? = some (.ref t0)) (p0 p1 : Int32) : fn_CI (S := Unit) l D K yX11_leaves (fn_ws yX11_leaves cX11_leaves 4 (some .int)) ({ frames := 8, cells := 0, slots := 0, locals := 200 }) [.ref x0, .int p0, .int p1] [(x0, .inr (11, fx)), (t0, .inr (7, ft))] (fun r _ => r = (-2)) (fun _ => []) 0 0 := by
  refine fn_inI (cc := cX11_leaves) (maxL := 4) (ret := (some .int)) (by decide) rfl (Nat.le_of_ble_eq_true rfl) ?_
  intro p e s m below meth c A ls B hA hP hD hS hl
  obtain ⟨hx, hb, hr, hml, hts, hown, hlocks, hin, hK⟩ := B
  have hown : s.vm.findClass RX11 = some m.cls := hown
  have hts := fun w h => hts w (List.mem_cons_of_mem _ h)
  have hl : lv_has ls 4 [(0, .ref x0), (1, .int p0), (2, .int p1)] := hl
  refine lv_aload_n hx hb dX11_leaves_0 rfl (lv_at hl 0 rfl) ?_
  refine va_get (D := D) (own := RX11) (ci := 11) (v := .ref t0) (C := RX11) (T := TX11) (N := 13) hx hb hts inb_X11 hown hK.1 hP 0 rfl rfl 1 (by decide) (hts _ wd_423) (fun _ h9 => h9) hx1 dX11_leaves_1 ?_
  refine lv_iload_n hx hb dX11_leaves_4 rfl (lv_at hl 1 rfl) ?_
  refine fn_goi (wc := [(t0, .inr (7, ft))]) (wr := [(x0, .inr (11, fx))]) hK hP hD hS hA [1] [0] rfl rfl (by decide) (fun hp => va_runVN (C := RX7) (As := [.int p0]) (rest := []) ⟨hx, hb, hml, hown, hts⟩ (c_X7_hasPage (l := l) (D := D) (K := K) (t0 := (t0)) (p0 := (p0)) (ft := (ft)) (ht0 := ht0) (ht3 := ht3) (ht4 := ht4) (ht5 := ht5) _) ⟨va_cnB (own := RX11) 1 hts (fn_gin wd_662) rfl rfl rfl (hK.nw 108 rfl) (hts _ wd_4) (by decide +kernel) ⟨Nat.le_of_ble_eq_true rfl, Nat.le_of_ble_eq_true rfl⟩, hts _ wd_661, hts _ wp_25⟩ ⟨fn_blind, va_recv hK.1 hP (ci := 7) (q0 := 1) rfl rfl, hp⟩ rfl rfl hl.1 rfl (lv_room (Nat.le_of_ble_eq_true rfl)) dX11_leaves_5 ⟨Nat.le_of_ble_eq_true rfl, Nat.le_of_ble_eq_true rfl⟩) (fun r2 u1 H locs hwu1 hP hD hS => ?_)
  have r2_e : r2 = 0 := hwu1
  subst r2_e
  have hP : va_P D vwCl [(x0, .inr (11, fx))] H := hP
  have hD : va_D A [(x0, .inr (11, fx))] := hD
  refine lv_if_eq (tgt := 22) hx hb dX11_leaves_8 (by decide) (fun _ => ?_) (fun h9 => absurd (by decide) h9)
  refine lv_bipush (v := (-2)) hx hb dX11_leaves_22 (by decide) ?_
  exact fn_iret hx hb hr hlocks rfl hP hD hS () (by first | rfl | decide) [] (by decide) rfl dX11_leaves_24
theorem dX11_worth_0 : decode cX11_worth 0 = .ok (.aload_n 0, 1) := by decide +kernel
theorem dX11_worth_1 : decode cX11_worth 1 = .ok (.getfield 19, 3) := by decide +kernel
theorem dX11_worth_4 : decode cX11_worth 4 = .ok (.iload_n 1, 1) := by decide +kernel
theorem dX11_worth_5 : decode cX11_worth 5 = .ok (.invokevirtual 130, 3) := by decide +kernel
theorem dX11_worth_8 : decode cX11_worth 8 = .ok (.ifCond .eq 10, 3) := by decide +kernel
theorem dX11_worth_18 : decode cX11_worth 18 = .ok (.bipush (-2), 2) := by decide +kernel
theorem dX11_worth_20 : decode cX11_worth 20 = .ok (.ireturn, 1) := by decide +kernel
set_option maxHeartbeats 4000000 in
set_option maxRecDepth 100000 in
theorem c_X11_worth (l : Launch) (D : va_G) (K : Nat → ClassId) (t0 : Nat) (ft : List Value) (ht0 : ft[0]? = some (.int 0)) (ht3 : ft[3]? = some (.int 0)) (ht4 : ft[4]? = some (.int 0)) (ht5 : ft[5]? = some (.int 0)) (x0 : Nat) (fx : List Value) (hx1 : fx[1]? = some (.ref t0)) (p0 p1 : Int32) : fn_CI (S := Unit) l D K yX11_worth (fn_ws yX11_worth cX11_worth 3 (some .int)) ({ frames := 8, cells := 0, slots := 0, locals := 200 }) [.ref x0, .int p0, .int p1] [(x0, .inr (11, fx)), (t0, .inr (7, ft))] (fun r _ => r = (-2)) (fun _ => []) 0 0 := by
  refine fn_inI (cc := cX11_worth) (maxL := 3) (ret := (some .int)) (by decide) rfl (Nat.le_of_ble_eq_true rfl) ?_
  intro p e s m below meth c A ls B hA hP hD hS hl
  obtain ⟨hx, hb, hr, hml, hts, hown, hlocks, hin, hK⟩ := B
  have hown : s.vm.findClass RX11 = some m.cls := hown
  have hts := fun w h => hts w (List.mem_cons_of_mem _ h)
  have hl : lv_has ls 3 [(0, .ref x0), (1, .int p0), (2, .int p1)] := hl
  refine lv_aload_n hx hb dX11_worth_0 rfl (lv_at hl 0 rfl) ?_
  refine va_get (D := D) (own := RX11) (ci := 11) (v := .ref t0) (C := RX11) (T := TX11) (N := 13) hx hb hts inb_X11 hown hK.1 hP 0 rfl rfl 1 (by decide) (hts _ wd_423) (fun _ h9 => h9) hx1 dX11_worth_1 ?_
  refine lv_iload_n hx hb dX11_worth_4 rfl (lv_at hl 1 rfl) ?_
  refine fn_goi (wc := [(t0, .inr (7, ft))]) (wr := [(x0, .inr (11, fx))]) hK hP hD hS hA [1] [0] rfl rfl (by decide) (fun hp => va_runVN (C := RX7) (As := [.int p0]) (rest := []) ⟨hx, hb, hml, hown, hts⟩ (c_X7_hasPage (l := l) (D := D) (K := K) (t0 := (t0)) (p0 := (p0)) (ft := (ft)) (ht0 := ht0) (ht3 := ht3) (ht4 := ht4) (ht5 := ht5) _) ⟨va_cnB (own := RX11) 1 hts (fn_gin wd_662) rfl rfl rfl (hK.nw 108 rfl) (hts _ wd_4) (by decide +kernel) ⟨Nat.le_of_ble_eq_true rfl, Nat.le_of_ble_eq_true rfl⟩, hts _ wd_661, hts _ wp_25⟩ ⟨fn_blind, va_recv hK.1 hP (ci := 7) (q0 := 1) rfl rfl, hp⟩ rfl rfl hl.1 rfl (lv_room (Nat.le_of_ble_eq_true rfl)) dX11_worth_5 ⟨Nat.le_of_ble_eq_true rfl, Nat.le_of_ble_eq_true rfl⟩) (fun r2 u1 H locs hwu1 hP hD hS => ?_)
  have r2_e : r2 = 0 := hwu1
  subst r2_e
  have hP : va_P D vwCl [(x0, .inr (11, fx))] H := hP
  have hD : va_D A [(x0, .inr (11, fx))] := hD
  refine lv_if_eq (tgt := 18) hx hb dX11_worth_8 (by decide) (fun _ => ?_) (fun h9 => absurd (by decide) h9)
  refine lv_bipush (v := (-2)) hx hb dX11_worth_18 (by decide) ?_
  exact fn_iret hx hb hr hlocks rfl hP hD hS () (by first | rfl | decide) [] (by decide) rfl dX11_worth_20
theorem dX11_astray_0 : decode cX11_astray 0 = .ok (.aload_n 0, 1) := by decide +kernel
theorem dX11_astray_1 : decode cX11_astray 1 = .ok (.invokevirtual 188, 3) := by decide +kernel
theorem dX11_astray_4 : decode cX11_astray 4 = .ok (.ifCond .eq 6, 3) := by decide +kernel
theorem dX11_astray_7 : decode cX11_astray 7 = .ok (.bipush (-2), 2) := by decide +kernel
theorem dX11_astray_9 : decode cX11_astray 9 = .ok (.ireturn, 1) := by decide +kernel
set_option maxHeartbeats 4000000 in
set_option maxRecDepth 100000 in
theorem c_X11_astray (l : Launch) (D : va_G) (K : Nat → ClassId) (t0 : Nat) (ft : List Value) (ht0 : ft[0]? = some (.int 0)) (ht3 : ft[3]? = some (.int 0)) (ht4 : ft[4]? = some (.int 0)) (ht5 : ft[5]? = some (.int 0)) (x0 : Nat) (fx : List Value) (hx1 : fx[1]? = some (.ref t0)) : fn_CI (S := Unit) l D K yX11_astray (fn_ws yX11_astray cX11_astray 3 (some .int)) ({ frames := 8, cells := 0, slots := 0, locals := 200 }) [.ref x0] [(x0, .inr (11, fx)), (t0, .inr (7, ft))] (fun r _ => r = (-2)) (fun _ => []) 0 0 := by
  refine fn_inI (cc := cX11_astray) (maxL := 3) (ret := (some .int)) (by decide) rfl (Nat.le_of_ble_eq_true rfl) ?_
  intro p e s m below meth c A ls B hA hP hD hS hl
  obtain ⟨hx, hb, hr, hml, hts, hown, hlocks, hin, hK⟩ := B
  have hown : s.vm.findClass RX11 = some m.cls := hown
  have hts := fun w h => hts w (List.mem_cons_of_mem _ h)
  have hl : lv_has ls 3 [(0, .ref x0)] := hl
  refine lv_aload_n hx hb dX11_astray_0 rfl (lv_at hl 0 rfl) ?_
  refine fn_goi (wc := [(x0, .inr (11, fx)), (t0, .inr (7, ft))]) (wr := []) hK hP hD hS hA [0, 1] [] rfl rfl (by decide) (fun hp => va_runV (C := RX11) (As := []) (rest := []) ⟨hx, hb, hml, hown, hts⟩ (c_X11_noTown (l := l) (D := D) (K := K) (x0 := (x0)) (fx := (fx)) (t0 := (t0)) (hx1 := hx1) (ft := (ft)) (ht0 := ht0) (ht3 := ht3) (ht4 := ht4) (ht5 := ht5) _) (cwV 0 hts (fn_ginV (fn_gin wd_709) wd_706 wd_708 wp_30 wd_1) rfl rfl rfl (by decide +kernel) ⟨Nat.le_of_ble_eq_true rfl, Nat.le_of_ble_eq_true rfl⟩) ⟨fn_blind, va_recv hK.1 hP (ci := 11) (q0 := 0) rfl rfl, hp⟩ rfl rfl hl.1 rfl (lv_room (Nat.le_of_ble_eq_true rfl)) dX11_astray_1 ⟨Nat.le_of_ble_eq_true rfl, Nat.le_of_ble_eq_true rfl⟩) (fun r2 u1 H locs hwu1 hP hD hS => ?_)
  have r2_e : r2 = 1 := hwu1
  subst r2_e
  have hP : va_P D vwCl [] H := hP
  have hD : va_D A [] := hD
  refine lv_if_eq (tgt := 10) hx hb dX11_astray_4 (by decide) (fun h9 => absurd h9 (by decide)) (fun _ => ?_)
  refine lv_bipush (v := (-2)) hx hb dX11_astray_7 (by decide) ?_
  exact fn_iret hx hb hr hlocks rfl hP hD hS () (by first | rfl | decide) [] (by decide) rfl dX11_astray_9
theorem dX11_undo_0 : decode cX11_undo 0 = .ok (.aload_n 0, 1) := by decide +kernel
theorem dX11_undo_1 : decode cX11_undo 1 = .ok (.invokevirtual 188, 3) := by decide +kernel
theorem dX11_undo_4 : decode cX11_undo 4 = .ok (.ifCond .eq 6, 3) := by decide +kernel
theorem dX11_undo_7 : decode cX11_undo 7 = .ok (.bipush (-2), 2) := by decide +kernel
theorem dX11_undo_9 : decode cX11_undo 9 = .ok (.ireturn, 1) := by decide +kernel
set_option maxHeartbeats 4000000 in
set_option maxRecDepth 100000 in
theorem c_X11_undo (l : Launch) (D : va_G) (K : Nat → ClassId) (t0 : Nat) (ft : List Value) (ht0 : ft[0]? = some (.int 0)) (ht3 : ft[3]? = some (.int 0)) (ht4 : ft[4]? = some (.int 0)) (ht5 : ft[5]? = some (.int 0)) (x0 : Nat) (fx : List Value) (hx1 : fx[1]? = some (.ref t0)) : fn_CI (S := Unit) l D K yX11_undo (fn_ws yX11_undo cX11_undo 1 (some .int)) ({ frames := 8, cells := 0, slots := 0, locals := 200 }) [.ref x0] [(x0, .inr (11, fx)), (t0, .inr (7, ft))] (fun r _ => r = (-2)) (fun _ => []) 0 0 := by
  refine fn_inI (cc := cX11_undo) (maxL := 1) (ret := (some .int)) (by decide) rfl (Nat.le_of_ble_eq_true rfl) ?_
  intro p e s m below meth c A ls B hA hP hD hS hl
  obtain ⟨hx, hb, hr, hml, hts, hown, hlocks, hin, hK⟩ := B
  have hown : s.vm.findClass RX11 = some m.cls := hown
  have hts := fun w h => hts w (List.mem_cons_of_mem _ h)
  have hl : lv_has ls 1 [(0, .ref x0)] := hl
  refine lv_aload_n hx hb dX11_undo_0 rfl (lv_at hl 0 rfl) ?_
  refine fn_goi (wc := [(x0, .inr (11, fx)), (t0, .inr (7, ft))]) (wr := []) hK hP hD hS hA [0, 1] [] rfl rfl (by decide) (fun hp => va_runV (C := RX11) (As := []) (rest := []) ⟨hx, hb, hml, hown, hts⟩ (c_X11_noTown (l := l) (D := D) (K := K) (x0 := (x0)) (fx := (fx)) (t0 := (t0)) (hx1 := hx1) (ft := (ft)) (ht0 := ht0) (ht3 := ht3) (ht4 := ht4) (ht5 := ht5) _) (cwV 0 hts (fn_ginV (fn_gin wd_709) wd_706 wd_708 wp_30 wd_1) rfl rfl rfl (by decide +kernel) ⟨Nat.le_of_ble_eq_true rfl, Nat.le_of_ble_eq_true rfl⟩) ⟨fn_blind, va_recv hK.1 hP (ci := 11) (q0 := 0) rfl rfl, hp⟩ rfl rfl hl.1 rfl (lv_room (Nat.le_of_ble_eq_true rfl)) dX11_undo_1 ⟨Nat.le_of_ble_eq_true rfl, Nat.le_of_ble_eq_true rfl⟩) (fun r2 u1 H locs hwu1 hP hD hS => ?_)
  have r2_e : r2 = 1 := hwu1
  subst r2_e
  have hP : va_P D vwCl [] H := hP
  have hD : va_D A [] := hD
  refine lv_if_eq (tgt := 10) hx hb dX11_undo_4 (by decide) (fun h9 => absurd h9 (by decide)) (fun _ => ?_)
  refine lv_bipush (v := (-2)) hx hb dX11_undo_7 (by decide) ?_
  exact fn_iret hx hb hr hlocks rfl hP hD hS () (by first | rfl | decide) [] (by decide) rfl dX11_undo_9
theorem dX11_anew_0 : decode cX11_anew 0 = .ok (.aload_n 0, 1) := by decide +kernel
theorem dX11_anew_1 : decode cX11_anew 1 = .ok (.invokevirtual 188, 3) := by decide +kernel
theorem dX11_anew_4 : decode cX11_anew 4 = .ok (.ifCond .eq 6, 3) := by decide +kernel
theorem dX11_anew_7 : decode cX11_anew 7 = .ok (.bipush (-2), 2) := by decide +kernel
theorem dX11_anew_9 : decode cX11_anew 9 = .ok (.ireturn, 1) := by decide +kernel
set_option maxHeartbeats 4000000 in
set_option maxRecDepth 100000 in
theorem c_X11_anew (l : Launch) (D : va_G) (K : Nat → ClassId) (t0 : Nat) (ft : List Value) (ht0 : ft[0]? = some (.int 0)) (ht3 : ft[3]? = some (.int 0)) (ht4 : ft[4]? = some (.int 0)) (ht5 : ft[5]? = some (.int 0)) (x0 : Nat) (fx : List Value) (hx1 : fx[1]? = some (.ref t0)) : fn_CI (S := Unit) l D K yX11_anew (fn_ws yX11_anew cX11_anew 2 (some .int)) ({ frames := 8, cells := 0, slots := 0, locals := 200 }) [.ref x0] [(x0, .inr (11, fx)), (t0, .inr (7, ft))] (fun r _ => r = (-2)) (fun _ => []) 0 0 := by
  refine fn_inI (cc := cX11_anew) (maxL := 2) (ret := (some .int)) (by decide) rfl (Nat.le_of_ble_eq_true rfl) ?_
  intro p e s m below meth c A ls B hA hP hD hS hl
  obtain ⟨hx, hb, hr, hml, hts, hown, hlocks, hin, hK⟩ := B
  have hown : s.vm.findClass RX11 = some m.cls := hown
  have hts := fun w h => hts w (List.mem_cons_of_mem _ h)
  have hl : lv_has ls 2 [(0, .ref x0)] := hl
  refine lv_aload_n hx hb dX11_anew_0 rfl (lv_at hl 0 rfl) ?_
  refine fn_goi (wc := [(x0, .inr (11, fx)), (t0, .inr (7, ft))]) (wr := []) hK hP hD hS hA [0, 1] [] rfl rfl (by decide) (fun hp => va_runV (C := RX11) (As := []) (rest := []) ⟨hx, hb, hml, hown, hts⟩ (c_X11_noTown (l := l) (D := D) (K := K) (x0 := (x0)) (fx := (fx)) (t0 := (t0)) (hx1 := hx1) (ft := (ft)) (ht0 := ht0) (ht3 := ht3) (ht4 := ht4) (ht5 := ht5) _) (cwV 0 hts (fn_ginV (fn_gin wd_709) wd_706 wd_708 wp_30 wd_1) rfl rfl rfl (by decide +kernel) ⟨Nat.le_of_ble_eq_true rfl, Nat.le_of_ble_eq_true rfl⟩) ⟨fn_blind, va_recv hK.1 hP (ci := 11) (q0 := 0) rfl rfl, hp⟩ rfl rfl hl.1 rfl (lv_room (Nat.le_of_ble_eq_true rfl)) dX11_anew_1 ⟨Nat.le_of_ble_eq_true rfl, Nat.le_of_ble_eq_true rfl⟩) (fun r2 u1 H locs hwu1 hP hD hS => ?_)
  have r2_e : r2 = 1 := hwu1
  subst r2_e
  have hP : va_P D vwCl [] H := hP
  have hD : va_D A [] := hD
  refine lv_if_eq (tgt := 10) hx hb dX11_anew_4 (by decide) (fun h9 => absurd h9 (by decide)) (fun _ => ?_)
  refine lv_bipush (v := (-2)) hx hb dX11_anew_7 (by decide) ?_
  exact fn_iret hx hb hr hlocks rfl hP hD hS () (by first | rfl | decide) [] (by decide) rfl dX11_anew_9
theorem dX11_rings_0 : decode cX11_rings 0 = .ok (.aload_n 0, 1) := by decide +kernel
theorem dX11_rings_1 : decode cX11_rings 1 = .ok (.invokevirtual 188, 3) := by decide +kernel
theorem dX11_rings_4 : decode cX11_rings 4 = .ok (.ifCond .eq 6, 3) := by decide +kernel
theorem dX11_rings_7 : decode cX11_rings 7 = .ok (.bipush (-2), 2) := by decide +kernel
theorem dX11_rings_9 : decode cX11_rings 9 = .ok (.ireturn, 1) := by decide +kernel
set_option maxHeartbeats 4000000 in
set_option maxRecDepth 100000 in
theorem c_X11_rings (l : Launch) (D : va_G) (K : Nat → ClassId) (t0 : Nat) (ft : List Value) (ht0 : ft[0]? = some (.int 0)) (ht3 : ft[3]? = some (.int 0)) (ht4 : ft[4]? = some (.int 0)) (ht5 : ft[5]? = some (.int 0)) (x0 : Nat) (fx : List Value) (hx1 : fx[1]? = some (.ref t0)) : fn_CI (S := Unit) l D K yX11_rings (fn_ws yX11_rings cX11_rings 3 (some .int)) ({ frames := 8, cells := 0, slots := 0, locals := 200 }) [.ref x0] [(x0, .inr (11, fx)), (t0, .inr (7, ft))] (fun r _ => r = (-2)) (fun _ => []) 0 0 := by
  refine fn_inI (cc := cX11_rings) (maxL := 3) (ret := (some .int)) (by decide) rfl (Nat.le_of_ble_eq_true rfl) ?_
  intro p e s m below meth c A ls B hA hP hD hS hl
  obtain ⟨hx, hb, hr, hml, hts, hown, hlocks, hin, hK⟩ := B
  have hown : s.vm.findClass RX11 = some m.cls := hown
  have hts := fun w h => hts w (List.mem_cons_of_mem _ h)
  have hl : lv_has ls 3 [(0, .ref x0)] := hl
  refine lv_aload_n hx hb dX11_rings_0 rfl (lv_at hl 0 rfl) ?_
  refine fn_goi (wc := [(x0, .inr (11, fx)), (t0, .inr (7, ft))]) (wr := []) hK hP hD hS hA [0, 1] [] rfl rfl (by decide) (fun hp => va_runV (C := RX11) (As := []) (rest := []) ⟨hx, hb, hml, hown, hts⟩ (c_X11_noTown (l := l) (D := D) (K := K) (x0 := (x0)) (fx := (fx)) (t0 := (t0)) (hx1 := hx1) (ft := (ft)) (ht0 := ht0) (ht3 := ht3) (ht4 := ht4) (ht5 := ht5) _) (cwV 0 hts (fn_ginV (fn_gin wd_709) wd_706 wd_708 wp_30 wd_1) rfl rfl rfl (by decide +kernel) ⟨Nat.le_of_ble_eq_true rfl, Nat.le_of_ble_eq_true rfl⟩) ⟨fn_blind, va_recv hK.1 hP (ci := 11) (q0 := 0) rfl rfl, hp⟩ rfl rfl hl.1 rfl (lv_room (Nat.le_of_ble_eq_true rfl)) dX11_rings_1 ⟨Nat.le_of_ble_eq_true rfl, Nat.le_of_ble_eq_true rfl⟩) (fun r2 u1 H locs hwu1 hP hD hS => ?_)
  have r2_e : r2 = 1 := hwu1
  subst r2_e
  have hP : va_P D vwCl [] H := hP
  have hD : va_D A [] := hD
  refine lv_if_eq (tgt := 10) hx hb dX11_rings_4 (by decide) (fun h9 => absurd h9 (by decide)) (fun _ => ?_)
  refine lv_bipush (v := (-2)) hx hb dX11_rings_7 (by decide) ?_
  exact fn_iret hx hb hr hlocks rfl hP hD hS () (by first | rfl | decide) [] (by decide) rfl dX11_rings_9
theorem dX11_deepest_0 : decode cX11_deepest 0 = .ok (.aload_n 0, 1) := by decide +kernel
theorem dX11_deepest_1 : decode cX11_deepest 1 = .ok (.invokevirtual 188, 3) := by decide +kernel
theorem dX11_deepest_4 : decode cX11_deepest 4 = .ok (.ifCond .eq 6, 3) := by decide +kernel
theorem dX11_deepest_7 : decode cX11_deepest 7 = .ok (.bipush (-2), 2) := by decide +kernel
theorem dX11_deepest_9 : decode cX11_deepest 9 = .ok (.ireturn, 1) := by decide +kernel
set_option maxHeartbeats 4000000 in
set_option maxRecDepth 100000 in
theorem c_X11_deepest (l : Launch) (D : va_G) (K : Nat → ClassId) (t0 : Nat) (ft : List Value) (ht0 : ft[0]? = some (.int 0)) (ht3 : ft[3]? = some (.int 0)) (ht4 : ft[4]? = some (.int 0)) (ht5 : ft[5]? = some (.int 0)) (x0 : Nat) (fx : List Value) (hx1 : fx[1]? = some (.ref t0)) : fn_CI (S := Unit) l D K yX11_deepest (fn_ws yX11_deepest cX11_deepest 5 (some .int)) ({ frames := 8, cells := 0, slots := 0, locals := 200 }) [.ref x0] [(x0, .inr (11, fx)), (t0, .inr (7, ft))] (fun r _ => r = (-2)) (fun _ => []) 0 0 := by
  refine fn_inI (cc := cX11_deepest) (maxL := 5) (ret := (some .int)) (by decide) rfl (Nat.le_of_ble_eq_true rfl) ?_
  intro p e s m below meth c A ls B hA hP hD hS hl
  obtain ⟨hx, hb, hr, hml, hts, hown, hlocks, hin, hK⟩ := B
  have hown : s.vm.findClass RX11 = some m.cls := hown
  have hts := fun w h => hts w (List.mem_cons_of_mem _ h)
  have hl : lv_has ls 5 [(0, .ref x0)] := hl
  refine lv_aload_n hx hb dX11_deepest_0 rfl (lv_at hl 0 rfl) ?_
  refine fn_goi (wc := [(x0, .inr (11, fx)), (t0, .inr (7, ft))]) (wr := []) hK hP hD hS hA [0, 1] [] rfl rfl (by decide) (fun hp => va_runV (C := RX11) (As := []) (rest := []) ⟨hx, hb, hml, hown, hts⟩ (c_X11_noTown (l := l) (D := D) (K := K) (x0 := (x0)) (fx := (fx)) (t0 := (t0)) (hx1 := hx1) (ft := (ft)) (ht0 := ht0) (ht3 := ht3) (ht4 := ht4) (ht5 := ht5) _) (cwV 0 hts (fn_ginV (fn_gin wd_709) wd_706 wd_708 wp_30 wd_1) rfl rfl rfl (by decide +kernel) ⟨Nat.le_of_ble_eq_true rfl, Nat.le_of_ble_eq_true rfl⟩) ⟨fn_blind, va_recv hK.1 hP (ci := 11) (q0 := 0) rfl rfl, hp⟩ rfl rfl hl.1 rfl (lv_room (Nat.le_of_ble_eq_true rfl)) dX11_deepest_1 ⟨Nat.le_of_ble_eq_true rfl, Nat.le_of_ble_eq_true rfl⟩) (fun r2 u1 H locs hwu1 hP hD hS => ?_)
  have r2_e : r2 = 1 := hwu1
  subst r2_e
  have hP : va_P D vwCl [] H := hP
  have hD : va_D A [] := hD
  refine lv_if_eq (tgt := 10) hx hb dX11_deepest_4 (by decide) (fun h9 => absurd h9 (by decide)) (fun _ => ?_)
  refine lv_bipush (v := (-2)) hx hb dX11_deepest_7 (by decide) ?_
  exact fn_iret hx hb hr hlocks rfl hP hD hS () (by first | rfl | decide) [] (by decide) rfl dX11_deepest_9
theorem dX11_grounded_0 : decode cX11_grounded 0 = .ok (.aload_n 0, 1) := by decide +kernel
theorem dX11_grounded_1 : decode cX11_grounded 1 = .ok (.invokevirtual 188, 3) := by decide +kernel
theorem dX11_grounded_4 : decode cX11_grounded 4 = .ok (.ifCond .eq 8, 3) := by decide +kernel
theorem dX11_grounded_7 : decode cX11_grounded 7 = .ok (.bipush (-2), 2) := by decide +kernel
theorem dX11_grounded_9 : decode cX11_grounded 9 = .ok (.goto 11, 3) := by decide +kernel
theorem dX11_grounded_20 : decode cX11_grounded 20 = .ok (.ireturn, 1) := by decide +kernel
set_option maxHeartbeats 4000000 in
set_option maxRecDepth 100000 in
theorem c_X11_grounded (l : Launch) (D : va_G) (K : Nat → ClassId) (t0 : Nat) (ft : List Value) (ht0 : ft[0]? = some (.int 0)) (ht3 : ft[3]? = some (.int 0)) (ht4 : ft[4]? = some (.int 0)) (ht5 : ft[5]? = some (.int 0)) (x0 : Nat) (fx : List Value) (hx1 : fx[1]? = some (.ref t0)) : fn_CI (S := Unit) l D K yX11_grounded (fn_ws yX11_grounded cX11_grounded 1 (some .int)) ({ frames := 8, cells := 0, slots := 0, locals := 200 }) [.ref x0] [(x0, .inr (11, fx)), (t0, .inr (7, ft))] (fun r _ => r = (-2)) (fun _ => []) 0 0 := by
  refine fn_inI (cc := cX11_grounded) (maxL := 1) (ret := (some .int)) (by decide) rfl (Nat.le_of_ble_eq_true rfl) ?_
  intro p e s m below meth c A ls B hA hP hD hS hl
  obtain ⟨hx, hb, hr, hml, hts, hown, hlocks, hin, hK⟩ := B
  have hown : s.vm.findClass RX11 = some m.cls := hown
  have hts := fun w h => hts w (List.mem_cons_of_mem _ h)
  have hl : lv_has ls 1 [(0, .ref x0)] := hl
  refine lv_aload_n hx hb dX11_grounded_0 rfl (lv_at hl 0 rfl) ?_
  refine fn_goi (wc := [(x0, .inr (11, fx)), (t0, .inr (7, ft))]) (wr := []) hK hP hD hS hA [0, 1] [] rfl rfl (by decide) (fun hp => va_runV (C := RX11) (As := []) (rest := []) ⟨hx, hb, hml, hown, hts⟩ (c_X11_noTown (l := l) (D := D) (K := K) (x0 := (x0)) (fx := (fx)) (t0 := (t0)) (hx1 := hx1) (ft := (ft)) (ht0 := ht0) (ht3 := ht3) (ht4 := ht4) (ht5 := ht5) _) (cwV 0 hts (fn_ginV (fn_gin wd_709) wd_706 wd_708 wp_30 wd_1) rfl rfl rfl (by decide +kernel) ⟨Nat.le_of_ble_eq_true rfl, Nat.le_of_ble_eq_true rfl⟩) ⟨fn_blind, va_recv hK.1 hP (ci := 11) (q0 := 0) rfl rfl, hp⟩ rfl rfl hl.1 rfl (lv_room (Nat.le_of_ble_eq_true rfl)) dX11_grounded_1 ⟨Nat.le_of_ble_eq_true rfl, Nat.le_of_ble_eq_true rfl⟩) (fun r2 u1 H locs hwu1 hP hD hS => ?_)
  have r2_e : r2 = 1 := hwu1
  subst r2_e
  have hP : va_P D vwCl [] H := hP
  have hD : va_D A [] := hD
  refine lv_if_eq (tgt := 12) hx hb dX11_grounded_4 (by decide) (fun h9 => absurd h9 (by decide)) (fun _ => ?_)
  refine lv_bipush (v := (-2)) hx hb dX11_grounded_7 (by decide) ?_
  refine lv_goto (tgt := 20) hx hb dX11_grounded_9 (by decide) ?_
  exact fn_iret hx hb hr hlocks rfl hP hD hS () (by first | rfl | decide) [] (by decide) rfl dX11_grounded_20
theorem dX11_key_0 : decode cX11_key 0 = .ok (.aload_n 0, 1) := by decide +kernel
theorem dX11_key_1 : decode cX11_key 1 = .ok (.invokevirtual 188, 3) := by decide +kernel
theorem dX11_key_4 : decode cX11_key 4 = .ok (.ifCond .eq 6, 3) := by decide +kernel
theorem dX11_key_7 : decode cX11_key 7 = .ok (.bipush (-2), 2) := by decide +kernel
theorem dX11_key_9 : decode cX11_key 9 = .ok (.ireturn, 1) := by decide +kernel
set_option maxHeartbeats 4000000 in
set_option maxRecDepth 100000 in
theorem c_X11_key (l : Launch) (D : va_G) (K : Nat → ClassId) (t0 : Nat) (ft : List Value) (ht0 : ft[0]? = some (.int 0)) (ht3 : ft[3]? = some (.int 0)) (ht4 : ft[4]? = some (.int 0)) (ht5 : ft[5]? = some (.int 0)) (x0 : Nat) (fx : List Value) (hx1 : fx[1]? = some (.ref t0)) : fn_CI (S := Unit) l D K yX11_key (fn_ws yX11_key cX11_key 5 (some .int)) ({ frames := 8, cells := 0, slots := 0, locals := 200 }) [.ref x0] [(x0, .inr (11, fx)), (t0, .inr (7, ft))] (fun r _ => r = (-2)) (fun _ => []) 0 0 := by
  refine fn_inI (cc := cX11_key) (maxL := 5) (ret := (some .int)) (by decide) rfl (Nat.le_of_ble_eq_true rfl) ?_
  intro p e s m below meth c A ls B hA hP hD hS hl
  obtain ⟨hx, hb, hr, hml, hts, hown, hlocks, hin, hK⟩ := B
  have hown : s.vm.findClass RX11 = some m.cls := hown
  have hts := fun w h => hts w (List.mem_cons_of_mem _ h)
  have hl : lv_has ls 5 [(0, .ref x0)] := hl
  refine lv_aload_n hx hb dX11_key_0 rfl (lv_at hl 0 rfl) ?_
  refine fn_goi (wc := [(x0, .inr (11, fx)), (t0, .inr (7, ft))]) (wr := []) hK hP hD hS hA [0, 1] [] rfl rfl (by decide) (fun hp => va_runV (C := RX11) (As := []) (rest := []) ⟨hx, hb, hml, hown, hts⟩ (c_X11_noTown (l := l) (D := D) (K := K) (x0 := (x0)) (fx := (fx)) (t0 := (t0)) (hx1 := hx1) (ft := (ft)) (ht0 := ht0) (ht3 := ht3) (ht4 := ht4) (ht5 := ht5) _) (cwV 0 hts (fn_ginV (fn_gin wd_709) wd_706 wd_708 wp_30 wd_1) rfl rfl rfl (by decide +kernel) ⟨Nat.le_of_ble_eq_true rfl, Nat.le_of_ble_eq_true rfl⟩) ⟨fn_blind, va_recv hK.1 hP (ci := 11) (q0 := 0) rfl rfl, hp⟩ rfl rfl hl.1 rfl (lv_room (Nat.le_of_ble_eq_true rfl)) dX11_key_1 ⟨Nat.le_of_ble_eq_true rfl, Nat.le_of_ble_eq_true rfl⟩) (fun r2 u1 H locs hwu1 hP hD hS => ?_)
  have r2_e : r2 = 1 := hwu1
  subst r2_e
  have hP : va_P D vwCl [] H := hP
  have hD : va_D A [] := hD
  refine lv_if_eq (tgt := 10) hx hb dX11_key_4 (by decide) (fun h9 => absurd h9 (by decide)) (fun _ => ?_)
  refine lv_bipush (v := (-2)) hx hb dX11_key_7 (by decide) ?_
  exact fn_iret hx hb hr hlocks rfl hP hD hS () (by first | rfl | decide) [] (by decide) rfl dX11_key_9
theorem dX11_ways_0 : decode cX11_ways 0 = .ok (.aload_n 0, 1) := by decide +kernel
theorem dX11_ways_1 : decode cX11_ways 1 = .ok (.invokevirtual 188, 3) := by decide +kernel
theorem dX11_ways_4 : decode cX11_ways 4 = .ok (.ifCond .eq 6, 3) := by decide +kernel
theorem dX11_ways_7 : decode cX11_ways 7 = .ok (.bipush (-2), 2) := by decide +kernel
theorem dX11_ways_9 : decode cX11_ways 9 = .ok (.ireturn, 1) := by decide +kernel
set_option maxHeartbeats 4000000 in
set_option maxRecDepth 100000 in
theorem c_X11_ways (l : Launch) (D : va_G) (K : Nat → ClassId) (t0 : Nat) (ft : List Value) (ht0 : ft[0]? = some (.int 0)) (ht3 : ft[3]? = some (.int 0)) (ht4 : ft[4]? = some (.int 0)) (ht5 : ft[5]? = some (.int 0)) (x0 : Nat) (fx : List Value) (hx1 : fx[1]? = some (.ref t0)) : fn_CI (S := Unit) l D K yX11_ways (fn_ws yX11_ways cX11_ways 1 (some .int)) ({ frames := 8, cells := 0, slots := 0, locals := 200 }) [.ref x0] [(x0, .inr (11, fx)), (t0, .inr (7, ft))] (fun r _ => r = (-2)) (fun _ => []) 0 0 := by
  refine fn_inI (cc := cX11_ways) (maxL := 1) (ret := (some .int)) (by decide) rfl (Nat.le_of_ble_eq_true rfl) ?_
  intro p e s m below meth c A ls B hA hP hD hS hl
  obtain ⟨hx, hb, hr, hml, hts, hown, hlocks, hin, hK⟩ := B
  have hown : s.vm.findClass RX11 = some m.cls := hown
  have hts := fun w h => hts w (List.mem_cons_of_mem _ h)
  have hl : lv_has ls 1 [(0, .ref x0)] := hl
  refine lv_aload_n hx hb dX11_ways_0 rfl (lv_at hl 0 rfl) ?_
  refine fn_goi (wc := [(x0, .inr (11, fx)), (t0, .inr (7, ft))]) (wr := []) hK hP hD hS hA [0, 1] [] rfl rfl (by decide) (fun hp => va_runV (C := RX11) (As := []) (rest := []) ⟨hx, hb, hml, hown, hts⟩ (c_X11_noTown (l := l) (D := D) (K := K) (x0 := (x0)) (fx := (fx)) (t0 := (t0)) (hx1 := hx1) (ft := (ft)) (ht0 := ht0) (ht3 := ht3) (ht4 := ht4) (ht5 := ht5) _) (cwV 0 hts (fn_ginV (fn_gin wd_709) wd_706 wd_708 wp_30 wd_1) rfl rfl rfl (by decide +kernel) ⟨Nat.le_of_ble_eq_true rfl, Nat.le_of_ble_eq_true rfl⟩) ⟨fn_blind, va_recv hK.1 hP (ci := 11) (q0 := 0) rfl rfl, hp⟩ rfl rfl hl.1 rfl (lv_room (Nat.le_of_ble_eq_true rfl)) dX11_ways_1 ⟨Nat.le_of_ble_eq_true rfl, Nat.le_of_ble_eq_true rfl⟩) (fun r2 u1 H locs hwu1 hP hD hS => ?_)
  have r2_e : r2 = 1 := hwu1
  subst r2_e
  have hP : va_P D vwCl [] H := hP
  have hD : va_D A [] := hD
  refine lv_if_eq (tgt := 10) hx hb dX11_ways_4 (by decide) (fun h9 => absurd h9 (by decide)) (fun _ => ?_)
  refine lv_bipush (v := (-2)) hx hb dX11_ways_7 (by decide) ?_
  exact fn_iret hx hb hr hlocks rfl hP hD hS () (by first | rfl | decide) [] (by decide) rfl dX11_ways_9
theorem dX11_mostly_0 : decode cX11_mostly 0 = .ok (.aload_n 0, 1) := by decide +kernel
theorem dX11_mostly_1 : decode cX11_mostly 1 = .ok (.invokevirtual 188, 3) := by decide +kernel
theorem dX11_mostly_4 : decode cX11_mostly 4 = .ok (.ifCond .eq 6, 3) := by decide +kernel
theorem dX11_mostly_7 : decode cX11_mostly 7 = .ok (.bipush (-2), 2) := by decide +kernel
theorem dX11_mostly_9 : decode cX11_mostly 9 = .ok (.ireturn, 1) := by decide +kernel
set_option maxHeartbeats 4000000 in
set_option maxRecDepth 100000 in
theorem c_X11_mostly (l : Launch) (D : va_G) (K : Nat → ClassId) (t0 : Nat) (ft : List Value) (ht0 : ft[0]? = some (.int 0)) (ht3 : ft[3]? = some (.int 0)) (ht4 : ft[4]? = some (.int 0)) (ht5 : ft[5]? = some (.int 0)) (x0 : Nat) (fx : List Value) (hx1 : fx[1]? = some (.ref t0)) : fn_CI (S := Unit) l D K yX11_mostly (fn_ws yX11_mostly cX11_mostly 1 (some .int)) ({ frames := 8, cells := 0, slots := 0, locals := 200 }) [.ref x0] [(x0, .inr (11, fx)), (t0, .inr (7, ft))] (fun r _ => r = (-2)) (fun _ => []) 0 0 := by
  refine fn_inI (cc := cX11_mostly) (maxL := 1) (ret := (some .int)) (by decide) rfl (Nat.le_of_ble_eq_true rfl) ?_
  intro p e s m below meth c A ls B hA hP hD hS hl
  obtain ⟨hx, hb, hr, hml, hts, hown, hlocks, hin, hK⟩ := B
  have hown : s.vm.findClass RX11 = some m.cls := hown
  have hts := fun w h => hts w (List.mem_cons_of_mem _ h)
  have hl : lv_has ls 1 [(0, .ref x0)] := hl
  refine lv_aload_n hx hb dX11_mostly_0 rfl (lv_at hl 0 rfl) ?_
  refine fn_goi (wc := [(x0, .inr (11, fx)), (t0, .inr (7, ft))]) (wr := []) hK hP hD hS hA [0, 1] [] rfl rfl (by decide) (fun hp => va_runV (C := RX11) (As := []) (rest := []) ⟨hx, hb, hml, hown, hts⟩ (c_X11_noTown (l := l) (D := D) (K := K) (x0 := (x0)) (fx := (fx)) (t0 := (t0)) (hx1 := hx1) (ft := (ft)) (ht0 := ht0) (ht3 := ht3) (ht4 := ht4) (ht5 := ht5) _) (cwV 0 hts (fn_ginV (fn_gin wd_709) wd_706 wd_708 wp_30 wd_1) rfl rfl rfl (by decide +kernel) ⟨Nat.le_of_ble_eq_true rfl, Nat.le_of_ble_eq_true rfl⟩) ⟨fn_blind, va_recv hK.1 hP (ci := 11) (q0 := 0) rfl rfl, hp⟩ rfl rfl hl.1 rfl (lv_room (Nat.le_of_ble_eq_true rfl)) dX11_mostly_1 ⟨Nat.le_of_ble_eq_true rfl, Nat.le_of_ble_eq_true rfl⟩) (fun r2 u1 H locs hwu1 hP hD hS => ?_)
  have r2_e : r2 = 1 := hwu1
  subst r2_e
  have hP : va_P D vwCl [] H := hP
  have hD : va_D A [] := hD
  refine lv_if_eq (tgt := 10) hx hb dX11_mostly_4 (by decide) (fun h9 => absurd h9 (by decide)) (fun _ => ?_)
  refine lv_bipush (v := (-2)) hx hb dX11_mostly_7 (by decide) ?_
  exact fn_iret hx hb hr hlocks rfl hP hD hS () (by first | rfl | decide) [] (by decide) rfl dX11_mostly_9
theorem dX11_sure_0 : decode cX11_sure 0 = .ok (.aload_n 0, 1) := by decide +kernel
theorem dX11_sure_1 : decode cX11_sure 1 = .ok (.invokevirtual 188, 3) := by decide +kernel
theorem dX11_sure_4 : decode cX11_sure 4 = .ok (.ifCond .ne 12, 3) := by decide +kernel
theorem dX11_sure_16 : decode cX11_sure 16 = .ok (.bipush (-2), 2) := by decide +kernel
theorem dX11_sure_18 : decode cX11_sure 18 = .ok (.ireturn, 1) := by decide +kernel
set_option maxHeartbeats 4000000 in
set_option maxRecDepth 100000 in
theorem c_X11_sure (l : Launch) (D : va_G) (K : Nat → ClassId) (t0 : Nat) (ft : List Value) (ht0 : ft[0]? = some (.int 0)) (ht3 : ft[3]? = some (.int 0)) (ht4 : ft[4]? = some (.int 0)) (ht5 : ft[5]? = some (.int 0)) (x0 : Nat) (fx : List Value) (hx1 : fx[1]? = some (.ref t0)) (p0 : Int32) : fn_CI (S := Unit) l D K yX11_sure (fn_ws yX11_sure cX11_sure 2 (some .int)) ({ frames := 8, cells := 0, slots := 0, locals := 200 }) [.ref x0, .int p0] [(x0, .inr (11, fx)), (t0, .inr (7, ft))] (fun r _ => r = (-2)) (fun _ => []) 0 0 := by
  refine fn_inI (cc := cX11_sure) (maxL := 2) (ret := (some .int)) (by decide) rfl (Nat.le_of_ble_eq_true rfl) ?_
  intro p e s m below meth c A ls B hA hP hD hS hl
  obtain ⟨hx, hb, hr, hml, hts, hown, hlocks, hin, hK⟩ := B
  have hown : s.vm.findClass RX11 = some m.cls := hown
  have hts := fun w h => hts w (List.mem_cons_of_mem _ h)
  have hl : lv_has ls 2 [(0, .ref x0), (1, .int p0)] := hl
  refine lv_aload_n hx hb dX11_sure_0 rfl (lv_at hl 0 rfl) ?_
  refine fn_goi (wc := [(x0, .inr (11, fx)), (t0, .inr (7, ft))]) (wr := []) hK hP hD hS hA [0, 1] [] rfl rfl (by decide) (fun hp => va_runV (C := RX11) (As := []) (rest := []) ⟨hx, hb, hml, hown, hts⟩ (c_X11_noTown (l := l) (D := D) (K := K) (x0 := (x0)) (fx := (fx)) (t0 := (t0)) (hx1 := hx1) (ft := (ft)) (ht0 := ht0) (ht3 := ht3) (ht4 := ht4) (ht5 := ht5) _) (cwV 0 hts (fn_ginV (fn_gin wd_709) wd_706 wd_708 wp_30 wd_1) rfl rfl rfl (by decide +kernel) ⟨Nat.le_of_ble_eq_true rfl, Nat.le_of_ble_eq_true rfl⟩) ⟨fn_blind, va_recv hK.1 hP (ci := 11) (q0 := 0) rfl rfl, hp⟩ rfl rfl hl.1 rfl (lv_room (Nat.le_of_ble_eq_true rfl)) dX11_sure_1 ⟨Nat.le_of_ble_eq_true rfl, Nat.le_of_ble_eq_true rfl⟩) (fun r2 u1 H locs hwu1 hP hD hS => ?_)
  have r2_e : r2 = 1 := hwu1
  subst r2_e
  have hP : va_P D vwCl [] H := hP
  have hD : va_D A [] := hD
  refine lv_if_ne (tgt := 16) hx hb dX11_sure_4 (by decide) (fun _ => ?_) (fun h9 => absurd h9 (by decide))
  refine lv_bipush (v := (-2)) hx hb dX11_sure_16 (by decide) ?_
  exact fn_iret hx hb hr hlocks rfl hP hD hS () (by first | rfl | decide) [] (by decide) rfl dX11_sure_18
theorem dX11_sends_0 : decode cX11_sends 0 = .ok (.aload_n 0, 1) := by decide +kernel
theorem dX11_sends_1 : decode cX11_sends 1 = .ok (.invokevirtual 188, 3) := by decide +kernel
theorem dX11_sends_4 : decode cX11_sends 4 = .ok (.ifCond .eq 6, 3) := by decide +kernel
theorem dX11_sends_7 : decode cX11_sends 7 = .ok (.bipush (-2), 2) := by decide +kernel
theorem dX11_sends_9 : decode cX11_sends 9 = .ok (.ireturn, 1) := by decide +kernel
set_option maxHeartbeats 4000000 in
set_option maxRecDepth 100000 in
theorem c_X11_sends (l : Launch) (D : va_G) (K : Nat → ClassId) (t0 : Nat) (ft : List Value) (ht0 : ft[0]? = some (.int 0)) (ht3 : ft[3]? = some (.int 0)) (ht4 : ft[4]? = some (.int 0)) (ht5 : ft[5]? = some (.int 0)) (x0 : Nat) (fx : List Value) (hx1 : fx[1]? = some (.ref t0)) : fn_CI (S := Unit) l D K yX11_sends (fn_ws yX11_sends cX11_sends 1 (some .int)) ({ frames := 8, cells := 0, slots := 0, locals := 200 }) [.ref x0] [(x0, .inr (11, fx)), (t0, .inr (7, ft))] (fun r _ => r = (-2)) (fun _ => []) 0 0 := by
  refine fn_inI (cc := cX11_sends) (maxL := 1) (ret := (some .int)) (by decide) rfl (Nat.le_of_ble_eq_true rfl) ?_
  intro p e s m below meth c A ls B hA hP hD hS hl
  obtain ⟨hx, hb, hr, hml, hts, hown, hlocks, hin, hK⟩ := B
  have hown : s.vm.findClass RX11 = some m.cls := hown
  have hts := fun w h => hts w (List.mem_cons_of_mem _ h)
  have hl : lv_has ls 1 [(0, .ref x0)] := hl
  refine lv_aload_n hx hb dX11_sends_0 rfl (lv_at hl 0 rfl) ?_
  refine fn_goi (wc := [(x0, .inr (11, fx)), (t0, .inr (7, ft))]) (wr := []) hK hP hD hS hA [0, 1] [] rfl rfl (by decide) (fun hp => va_runV (C := RX11) (As := []) (rest := []) ⟨hx, hb, hml, hown, hts⟩ (c_X11_noTown (l := l) (D := D) (K := K) (x0 := (x0)) (fx := (fx)) (t0 := (t0)) (hx1 := hx1) (ft := (ft)) (ht0 := ht0) (ht3 := ht3) (ht4 := ht4) (ht5 := ht5) _) (cwV 0 hts (fn_ginV (fn_gin wd_709) wd_706 wd_708 wp_30 wd_1) rfl rfl rfl (by decide +kernel) ⟨Nat.le_of_ble_eq_true rfl, Nat.le_of_ble_eq_true rfl⟩) ⟨fn_blind, va_recv hK.1 hP (ci := 11) (q0 := 0) rfl rfl, hp⟩ rfl rfl hl.1 rfl (lv_room (Nat.le_of_ble_eq_true rfl)) dX11_sends_1 ⟨Nat.le_of_ble_eq_true rfl, Nat.le_of_ble_eq_true rfl⟩) (fun r2 u1 H locs hwu1 hP hD hS => ?_)
  have r2_e : r2 = 1 := hwu1
  subst r2_e
  have hP : va_P D vwCl [] H := hP
  have hD : va_D A [] := hD
  refine lv_if_eq (tgt := 10) hx hb dX11_sends_4 (by decide) (fun h9 => absurd h9 (by decide)) (fun _ => ?_)
  refine lv_bipush (v := (-2)) hx hb dX11_sends_7 (by decide) ?_
  exact fn_iret hx hb hr hlocks rfl hP hD hS () (by first | rfl | decide) [] (by decide) rfl dX11_sends_9
theorem dX11_orders_0 : decode cX11_orders 0 = .ok (.aload_n 0, 1) := by decide +kernel
theorem dX11_orders_1 : decode cX11_orders 1 = .ok (.invokevirtual 188, 3) := by decide +kernel
theorem dX11_orders_4 : decode cX11_orders 4 = .ok (.ifCond .eq 6, 3) := by decide +kernel
theorem dX11_orders_7 : decode cX11_orders 7 = .ok (.bipush (-2), 2) := by decide +kernel
theorem dX11_orders_9 : decode cX11_orders 9 = .ok (.ireturn, 1) := by decide +kernel
set_option maxHeartbeats 4000000 in
set_option maxRecDepth 100000 in
theorem c_X11_orders (l : Launch) (D : va_G) (K : Nat → ClassId) (t0 : Nat) (ft : List Value) (ht0 : ft[0]? = some (.int 0)) (ht3 : ft[3]? = some (.int 0)) (ht4 : ft[4]? = some (.int 0)) (ht5 : ft[5]? = some (.int 0)) (x0 : Nat) (fx : List Value) (hx1 : fx[1]? = some (.ref t0)) : fn_CI (S := Unit) l D K yX11_orders (fn_ws yX11_orders cX11_orders 1 (some .int)) ({ frames := 8, cells := 0, slots := 0, locals := 200 }) [.ref x0] [(x0, .inr (11, fx)), (t0, .inr (7, ft))] (fun r _ => r = (-2)) (fun _ => []) 0 0 := by
  refine fn_inI (cc := cX11_orders) (maxL := 1) (ret := (some .int)) (by decide) rfl (Nat.le_of_ble_eq_true rfl) ?_
  intro p e s m below meth c A ls B hA hP hD hS hl
  obtain ⟨hx, hb, hr, hml, hts, hown, hlocks, hin, hK⟩ := B
  have hown : s.vm.findClass RX11 = some m.cls := hown
  have hts := fun w h => hts w (List.mem_cons_of_mem _ h)
  have hl : lv_has ls 1 [(0, .ref x0)] := hl
  refine lv_aload_n hx hb dX11_orders_0 rfl (lv_at hl 0 rfl) ?_
  refine fn_goi (wc := [(x0, .inr (11, fx)), (t0, .inr (7, ft))]) (wr := []) hK hP hD hS hA [0, 1] [] rfl rfl (by decide) (fun hp => va_runV (C := RX11) (As := []) (rest := []) ⟨hx, hb, hml, hown, hts⟩ (c_X11_noTown (l := l) (D := D) (K := K) (x0 := (x0)) (fx := (fx)) (t0 := (t0)) (hx1 := hx1) (ft := (ft)) (ht0 := ht0) (ht3 := ht3) (ht4 := ht4) (ht5 := ht5) _) (cwV 0 hts (fn_ginV (fn_gin wd_709) wd_706 wd_708 wp_30 wd_1) rfl rfl rfl (by decide +kernel) ⟨Nat.le_of_ble_eq_true rfl, Nat.le_of_ble_eq_true rfl⟩) ⟨fn_blind, va_recv hK.1 hP (ci := 11) (q0 := 0) rfl rfl, hp⟩ rfl rfl hl.1 rfl (lv_room (Nat.le_of_ble_eq_true rfl)) dX11_orders_1 ⟨Nat.le_of_ble_eq_true rfl, Nat.le_of_ble_eq_true rfl⟩) (fun r2 u1 H locs hwu1 hP hD hS => ?_)
  have r2_e : r2 = 1 := hwu1
  subst r2_e
  have hP : va_P D vwCl [] H := hP
  have hD : va_D A [] := hD
  refine lv_if_eq (tgt := 10) hx hb dX11_orders_4 (by decide) (fun h9 => absurd h9 (by decide)) (fun _ => ?_)
  refine lv_bipush (v := (-2)) hx hb dX11_orders_7 (by decide) ?_
  exact fn_iret hx hb hr hlocks rfl hP hD hS () (by first | rfl | decide) [] (by decide) rfl dX11_orders_9
theorem dX11_earliest_0 : decode cX11_earliest 0 = .ok (.aload_n 0, 1) := by decide +kernel
theorem dX11_earliest_1 : decode cX11_earliest 1 = .ok (.invokevirtual 188, 3) := by decide +kernel
theorem dX11_earliest_4 : decode cX11_earliest 4 = .ok (.ifCond .eq 6, 3) := by decide +kernel
theorem dX11_earliest_7 : decode cX11_earliest 7 = .ok (.bipush (-2), 2) := by decide +kernel
theorem dX11_earliest_9 : decode cX11_earliest 9 = .ok (.ireturn, 1) := by decide +kernel
set_option maxHeartbeats 4000000 in
set_option maxRecDepth 100000 in
theorem c_X11_earliest (l : Launch) (D : va_G) (K : Nat → ClassId) (t0 : Nat) (ft : List Value) (ht0 : ft[0]? = some (.int 0)) (ht3 : ft[3]? = some (.int 0)) (ht4 : ft[4]? = some (.int 0)) (ht5 : ft[5]? = some (.int 0)) (x0 : Nat) (fx : List Value) (hx1 : fx[1]? = some (.ref t0)) (p0 : Int32) : fn_CI (S := Unit) l D K yX11_earliest (fn_ws yX11_earliest cX11_earliest 2 (some .int)) ({ frames := 8, cells := 0, slots := 0, locals := 200 }) [.ref x0, .int p0] [(x0, .inr (11, fx)), (t0, .inr (7, ft))] (fun r _ => r = (-2)) (fun _ => []) 0 0 := by
  refine fn_inI (cc := cX11_earliest) (maxL := 2) (ret := (some .int)) (by decide) rfl (Nat.le_of_ble_eq_true rfl) ?_
  intro p e s m below meth c A ls B hA hP hD hS hl
  obtain ⟨hx, hb, hr, hml, hts, hown, hlocks, hin, hK⟩ := B
  have hown : s.vm.findClass RX11 = some m.cls := hown
  have hts := fun w h => hts w (List.mem_cons_of_mem _ h)
  have hl : lv_has ls 2 [(0, .ref x0), (1, .int p0)] := hl
  refine lv_aload_n hx hb dX11_earliest_0 rfl (lv_at hl 0 rfl) ?_
  refine fn_goi (wc := [(x0, .inr (11, fx)), (t0, .inr (7, ft))]) (wr := []) hK hP hD hS hA [0, 1] [] rfl rfl (by decide) (fun hp => va_runV (C := RX11) (As := []) (rest := []) ⟨hx, hb, hml, hown, hts⟩ (c_X11_noTown (l := l) (D := D) (K := K) (x0 := (x0)) (fx := (fx)) (t0 := (t0)) (hx1 := hx1) (ft := (ft)) (ht0 := ht0) (ht3 := ht3) (ht4 := ht4) (ht5 := ht5) _) (cwV 0 hts (fn_ginV (fn_gin wd_709) wd_706 wd_708 wp_30 wd_1) rfl rfl rfl (by decide +kernel) ⟨Nat.le_of_ble_eq_true rfl, Nat.le_of_ble_eq_true rfl⟩) ⟨fn_blind, va_recv hK.1 hP (ci := 11) (q0 := 0) rfl rfl, hp⟩ rfl rfl hl.1 rfl (lv_room (Nat.le_of_ble_eq_true rfl)) dX11_earliest_1 ⟨Nat.le_of_ble_eq_true rfl, Nat.le_of_ble_eq_true rfl⟩) (fun r2 u1 H locs hwu1 hP hD hS => ?_)
  have r2_e : r2 = 1 := hwu1
  subst r2_e
  have hP : va_P D vwCl [] H := hP
  have hD : va_D A [] := hD
  refine lv_if_eq (tgt := 10) hx hb dX11_earliest_4 (by decide) (fun h9 => absurd h9 (by decide)) (fun _ => ?_)
  refine lv_bipush (v := (-2)) hx hb dX11_earliest_7 (by decide) ?_
  exact fn_iret hx hb hr hlocks rfl hP hD hS () (by first | rfl | decide) [] (by decide) rfl dX11_earliest_9
theorem dX11_rest_0 : decode cX11_rest 0 = .ok (.aload_n 0, 1) := by decide +kernel
theorem dX11_rest_1 : decode cX11_rest 1 = .ok (.invokevirtual 188, 3) := by decide +kernel
theorem dX11_rest_4 : decode cX11_rest 4 = .ok (.ifCond .eq 6, 3) := by decide +kernel
theorem dX11_rest_7 : decode cX11_rest 7 = .ok (.bipush (-2), 2) := by decide +kernel
theorem dX11_rest_9 : decode cX11_rest 9 = .ok (.ireturn, 1) := by decide +kernel
set_option maxHeartbeats 4000000 in
set_option maxRecDepth 100000 in
theorem c_X11_rest (l : Launch) (D : va_G) (K : Nat → ClassId) (t0 : Nat) (ft : List Value) (ht0 : ft[0]? = some (.int 0)) (ht3 : ft[3]? = some (.int 0)) (ht4 : ft[4]? = some (.int 0)) (ht5 : ft[5]? = some (.int 0)) (x0 : Nat) (fx : List Value) (hx1 : fx[1]? = some (.ref t0)) : fn_CI (S := Unit) l D K yX11_rest (fn_ws yX11_rest cX11_rest 2 (some .int)) ({ frames := 8, cells := 0, slots := 0, locals := 200 }) [.ref x0] [(x0, .inr (11, fx)), (t0, .inr (7, ft))] (fun r _ => r = (-2)) (fun _ => []) 0 0 := by
  refine fn_inI (cc := cX11_rest) (maxL := 2) (ret := (some .int)) (by decide) rfl (Nat.le_of_ble_eq_true rfl) ?_
  intro p e s m below meth c A ls B hA hP hD hS hl
  obtain ⟨hx, hb, hr, hml, hts, hown, hlocks, hin, hK⟩ := B
  have hown : s.vm.findClass RX11 = some m.cls := hown
  have hts := fun w h => hts w (List.mem_cons_of_mem _ h)
  have hl : lv_has ls 2 [(0, .ref x0)] := hl
  refine lv_aload_n hx hb dX11_rest_0 rfl (lv_at hl 0 rfl) ?_
  refine fn_goi (wc := [(x0, .inr (11, fx)), (t0, .inr (7, ft))]) (wr := []) hK hP hD hS hA [0, 1] [] rfl rfl (by decide) (fun hp => va_runV (C := RX11) (As := []) (rest := []) ⟨hx, hb, hml, hown, hts⟩ (c_X11_noTown (l := l) (D := D) (K := K) (x0 := (x0)) (fx := (fx)) (t0 := (t0)) (hx1 := hx1) (ft := (ft)) (ht0 := ht0) (ht3 := ht3) (ht4 := ht4) (ht5 := ht5) _) (cwV 0 hts (fn_ginV (fn_gin wd_709) wd_706 wd_708 wp_30 wd_1) rfl rfl rfl (by decide +kernel) ⟨Nat.le_of_ble_eq_true rfl, Nat.le_of_ble_eq_true rfl⟩) ⟨fn_blind, va_recv hK.1 hP (ci := 11) (q0 := 0) rfl rfl, hp⟩ rfl rfl hl.1 rfl (lv_room (Nat.le_of_ble_eq_true rfl)) dX11_rest_1 ⟨Nat.le_of_ble_eq_true rfl, Nat.le_of_ble_eq_true rfl⟩) (fun r2 u1 H locs hwu1 hP hD hS => ?_)
  have r2_e : r2 = 1 := hwu1
  subst r2_e
  have hP : va_P D vwCl [] H := hP
  have hD : va_D A [] := hD
  refine lv_if_eq (tgt := 10) hx hb dX11_rest_4 (by decide) (fun h9 => absurd h9 (by decide)) (fun _ => ?_)
  refine lv_bipush (v := (-2)) hx hb dX11_rest_7 (by decide) ?_
  exact fn_iret hx hb hr hlocks rfl hP hD hS () (by first | rfl | decide) [] (by decide) rfl dX11_rest_9
theorem dX11_saint_0 : decode cX11_saint 0 = .ok (.aload_n 0, 1) := by decide +kernel
theorem dX11_saint_1 : decode cX11_saint 1 = .ok (.invokevirtual 188, 3) := by decide +kernel
theorem dX11_saint_4 : decode cX11_saint 4 = .ok (.ifCond .ne 10, 3) := by decide +kernel
theorem dX11_saint_14 : decode cX11_saint 14 = .ok (.bipush (-2), 2) := by decide +kernel
theorem dX11_saint_16 : decode cX11_saint 16 = .ok (.ireturn, 1) := by decide +kernel
set_option maxHeartbeats 4000000 in
set_option maxRecDepth 100000 in
theorem c_X11_saint (l : Launch) (D : va_G) (K : Nat → ClassId) (t0 : Nat) (ft : List Value) (ht0 : ft[0]? = some (.int 0)) (ht3 : ft[3]? = some (.int 0)) (ht4 : ft[4]? = some (.int 0)) (ht5 : ft[5]? = some (.int 0)) (x0 : Nat) (fx : List Value) (hx1 : fx[1]? = some (.ref t0)) (p0 : Int32) : fn_CI (S := Unit) l D K yX11_saint (fn_ws yX11_saint cX11_saint 4 (some .int)) ({ frames := 8, cells := 0, slots := 0, locals := 200 }) [.ref x0, .int p0] [(x0, .inr (11, fx)), (t0, .inr (7, ft))] (fun r _ => r = (-2)) (fun _ => []) 0 0 := by
  refine fn_inI (cc := cX11_saint) (maxL := 4) (ret := (some .int)) (by decide) rfl (Nat.le_of_ble_eq_true rfl) ?_
  intro p e s m below meth c A ls B hA hP hD hS hl
  obtain ⟨hx, hb, hr, hml, hts, hown, hlocks, hin, hK⟩ := B
  have hown : s.vm.findClass RX11 = some m.cls := hown
  have hts := fun w h => hts w (List.mem_cons_of_mem _ h)
  have hl : lv_has ls 4 [(0, .ref x0), (1, .int p0)] := hl
  refine lv_aload_n hx hb dX11_saint_0 rfl (lv_at hl 0 rfl) ?_
  refine fn_goi (wc := [(x0, .inr (11, fx)), (t0, .inr (7, ft))]) (wr := []) hK hP hD hS hA [0, 1] [] rfl rfl (by decide) (fun hp => va_runV (C := RX11) (As := []) (rest := []) ⟨hx, hb, hml, hown, hts⟩ (c_X11_noTown (l := l) (D := D) (K := K) (x0 := (x0)) (fx := (fx)) (t0 := (t0)) (hx1 := hx1) (ft := (ft)) (ht0 := ht0) (ht3 := ht3) (ht4 := ht4) (ht5 := ht5) _) (cwV 0 hts (fn_ginV (fn_gin wd_709) wd_706 wd_708 wp_30 wd_1) rfl rfl rfl (by decide +kernel) ⟨Nat.le_of_ble_eq_true rfl, Nat.le_of_ble_eq_true rfl⟩) ⟨fn_blind, va_recv hK.1 hP (ci := 11) (q0 := 0) rfl rfl, hp⟩ rfl rfl hl.1 rfl (lv_room (Nat.le_of_ble_eq_true rfl)) dX11_saint_1 ⟨Nat.le_of_ble_eq_true rfl, Nat.le_of_ble_eq_true rfl⟩) (fun r2 u1 H locs hwu1 hP hD hS => ?_)
  have r2_e : r2 = 1 := hwu1
  subst r2_e
  have hP : va_P D vwCl [] H := hP
  have hD : va_D A [] := hD
  refine lv_if_ne (tgt := 14) hx hb dX11_saint_4 (by decide) (fun _ => ?_) (fun h9 => absurd h9 (by decide))
  refine lv_bipush (v := (-2)) hx hb dX11_saint_14 (by decide) ?_
  exact fn_iret hx hb hr hlocks rfl hP hD hS () (by first | rfl | decide) [] (by decide) rfl dX11_saint_16
theorem dX11_famous_0 : decode cX11_famous 0 = .ok (.aload_n 0, 1) := by decide +kernel
theorem dX11_famous_1 : decode cX11_famous 1 = .ok (.invokevirtual 188, 3) := by decide +kernel
theorem dX11_famous_4 : decode cX11_famous 4 = .ok (.ifCond .ne 12, 3) := by decide +kernel
theorem dX11_famous_16 : decode cX11_famous 16 = .ok (.bipush (-2), 2) := by decide +kernel
theorem dX11_famous_18 : decode cX11_famous 18 = .ok (.ireturn, 1) := by decide +kernel
set_option maxHeartbeats 4000000 in
set_option maxRecDepth 100000 in
theorem c_X11_famous (l : Launch) (D : va_G) (K : Nat → ClassId) (t0 : Nat) (ft : List Value) (ht0 : ft[0]? = some (.int 0)) (ht3 : ft[3]? = some (.int 0)) (ht4 : ft[4]? = some (.int 0)) (ht5 : ft[5]? = some (.int 0)) (x0 : Nat) (fx : List Value) (hx1 : fx[1]? = some (.ref t0)) (p0 : Int32) : fn_CI (S := Unit) l D K yX11_famous (fn_ws yX11_famous cX11_famous 7 (some .int)) ({ frames := 8, cells := 0, slots := 0, locals := 200 }) [.ref x0, .int p0] [(x0, .inr (11, fx)), (t0, .inr (7, ft))] (fun r _ => r = (-2)) (fun _ => []) 0 0 := by
  refine fn_inI (cc := cX11_famous) (maxL := 7) (ret := (some .int)) (by decide) rfl (Nat.le_of_ble_eq_true rfl) ?_
  intro p e s m below meth c A ls B hA hP hD hS hl
  obtain ⟨hx, hb, hr, hml, hts, hown, hlocks, hin, hK⟩ := B
  have hown : s.vm.findClass RX11 = some m.cls := hown
  have hts := fun w h => hts w (List.mem_cons_of_mem _ h)
  have hl : lv_has ls 7 [(0, .ref x0), (1, .int p0)] := hl
  refine lv_aload_n hx hb dX11_famous_0 rfl (lv_at hl 0 rfl) ?_
  refine fn_goi (wc := [(x0, .inr (11, fx)), (t0, .inr (7, ft))]) (wr := []) hK hP hD hS hA [0, 1] [] rfl rfl (by decide) (fun hp => va_runV (C := RX11) (As := []) (rest := []) ⟨hx, hb, hml, hown, hts⟩ (c_X11_noTown (l := l) (D := D) (K := K) (x0 := (x0)) (fx := (fx)) (t0 := (t0)) (hx1 := hx1) (ft := (ft)) (ht0 := ht0) (ht3 := ht3) (ht4 := ht4) (ht5 := ht5) _) (cwV 0 hts (fn_ginV (fn_gin wd_709) wd_706 wd_708 wp_30 wd_1) rfl rfl rfl (by decide +kernel) ⟨Nat.le_of_ble_eq_true rfl, Nat.le_of_ble_eq_true rfl⟩) ⟨fn_blind, va_recv hK.1 hP (ci := 11) (q0 := 0) rfl rfl, hp⟩ rfl rfl hl.1 rfl (lv_room (Nat.le_of_ble_eq_true rfl)) dX11_famous_1 ⟨Nat.le_of_ble_eq_true rfl, Nat.le_of_ble_eq_true rfl⟩) (fun r2 u1 H locs hwu1 hP hD hS => ?_)
  have r2_e : r2 = 1 := hwu1
  subst r2_e
  have hP : va_P D vwCl [] H := hP
  have hD : va_D A [] := hD
  refine lv_if_ne (tgt := 16) hx hb dX11_famous_4 (by decide) (fun _ => ?_) (fun h9 => absurd h9 (by decide))
  refine lv_bipush (v := (-2)) hx hb dX11_famous_16 (by decide) ?_
  exact fn_iret hx hb hr hlocks rfl hP hD hS () (by first | rfl | decide) [] (by decide) rfl dX11_famous_18
theorem dX11_cut_0 : decode cX11_cut 0 = .ok (.aload_n 0, 1) := by decide +kernel
theorem dX11_cut_1 : decode cX11_cut 1 = .ok (.iload_n 1, 1) := by decide +kernel
theorem dX11_cut_2 : decode cX11_cut 2 = .ok (.invokevirtual 245, 3) := by decide +kernel
theorem dX11_cut_5 : decode cX11_cut 5 = .ok (.istore_n 2, 1) := by decide +kernel
theorem dX11_cut_6 : decode cX11_cut 6 = .ok (.iload_n 2, 1) := by decide +kernel
theorem dX11_cut_7 : decode cX11_cut 7 = .ok (.ifCond .ge 7, 3) := by decide +kernel
theorem dX11_cut_10 : decode cX11_cut 10 = .ok (.iload_n 2, 1) := by decide +kernel
theorem dX11_cut_11 : decode cX11_cut 11 = .ok (.goto 7, 3) := by decide +kernel
theorem dX11_cut_18 : decode cX11_cut 18 = .ok (.ireturn, 1) := by decide +kernel
set_option maxHeartbeats 4000000 in
set_option maxRecDepth 100000 in
theorem c_X11_cut (l : Launch) (D : va_G) (K : Nat → ClassId) (t0 : Nat) (ft : List Value) (ht0 : ft[0]? = some (.int 0)) (ht3 : ft[3]? = some (.int 0)) (ht4 : ft[4]? = some (.int 0)) (ht5 : ft[5]? = some (.int 0)) (x0 : Nat) (fx : List Value) (hx1 : fx[1]? = some (.ref t0)) (p0 : Int32) : fn_CI (S := Unit) l D K yX11_cut (fn_ws yX11_cut cX11_cut 3 (some .int)) ({ frames := 12, cells := 0, slots := 0, locals := 300 }) [.ref x0, .int p0] [(x0, .inr (11, fx)), (t0, .inr (7, ft))] (fun r _ => r = (-2)) (fun _ => []) 0 0 := by
  refine fn_inI (cc := cX11_cut) (maxL := 3) (ret := (some .int)) (by decide) rfl (Nat.le_of_ble_eq_true rfl) ?_
  intro p e s m below meth c A ls B hA hP hD hS hl
  obtain ⟨hx, hb, hr, hml, hts, hown, hlocks, hin, hK⟩ := B
  have hown : s.vm.findClass RX11 = some m.cls := hown
  have hts := fun w h => hts w (List.mem_cons_of_mem _ h)
  have hl : lv_has ls 3 [(0, .ref x0), (1, .int p0)] := hl
  refine lv_aload_n hx hb dX11_cut_0 rfl (lv_at hl 0 rfl) ?_
  refine lv_iload_n hx hb dX11_cut_1 rfl (lv_at hl 1 rfl) ?_
  refine fn_goi (wc := [(x0, .inr (11, fx)), (t0, .inr (7, ft))]) (wr := []) hK hP hD hS hA [0, 1] [] rfl rfl (by decide) (fun hp => va_runV (C := RX11) (As := [.int p0]) (rest := []) ⟨hx, hb, hml, hown, hts⟩ (c_X11_torn (l := l) (D := D) (K := K) (x0 := (x0)) (p0 := (p0)) (fx := (fx)) (t0 := (t0)) (hx1 := hx1) (ft := (ft)) (ht0 := ht0) (ht3 := ht3) (ht4 := ht4) (ht5 := ht5) _) (cwV 1 hts (fn_ginV (fn_gin wd_856) wd_853 wd_854 wd_855 wd_1) rfl rfl rfl (by decide +kernel) ⟨Nat.le_of_ble_eq_true rfl, Nat.le_of_ble_eq_true rfl⟩) ⟨fn_blind, va_recv hK.1 hP (ci := 11) (q0 := 0) rfl rfl, hp⟩ rfl rfl hl.1 rfl (lv_room (Nat.le_of_ble_eq_true rfl)) dX11_cut_2 ⟨Nat.le_of_ble_eq_true rfl, Nat.le_of_ble_eq_true rfl⟩) (fun r2 u1 H locs hwu1 hP hD hS => ?_)
  have r2_e : r2 = (-2) := hwu1
  subst r2_e
  have hP : va_P D vwCl [] H := hP
  have hD : va_D A [] := hD
  refine lv_istore_n (lv' := [(2, .int (-2)), (0, .ref x0), (1, .int p0)]) hx hb dX11_cut_5 rfl hl (by decide) rfl (fun ls hl => ?_)
  refine lv_iload_n hx hb dX11_cut_6 rfl (lv_at hl 0 rfl) ?_
  refine lv_if_ge (tgt := 14) hx hb dX11_cut_7 (by decide) (fun h9 => absurd h9 (by decide)) (fun _ => ?_)
  refine lv_iload_n hx hb dX11_cut_10 rfl (lv_at hl 0 rfl) ?_
  refine lv_goto (tgt := 18) hx hb dX11_cut_11 (by decide) ?_
  exact fn_iret hx hb hr hlocks rfl hP hD hS () (by first | rfl | decide) [] (by decide) rfl dX11_cut_18
theorem dX11_most_0 : decode cX11_most 0 = .ok (.aload_n 0, 1) := by decide +kernel
theorem dX11_most_1 : decode cX11_most 1 = .ok (.invokevirtual 272, 3) := by decide +kernel
theorem dX11_most_4 : decode cX11_most 4 = .ok (.istore_n 1, 1) := by decide +kernel
theorem dX11_most_5 : decode cX11_most 5 = .ok (.iload_n 1, 1) := by decide +kernel
theorem dX11_most_6 : decode cX11_most 6 = .ok (.ifCond .ge 7, 3) := by decide +kernel
theorem dX11_most_9 : decode cX11_most 9 = .ok (.iload_n 1, 1) := by decide +kernel
theorem dX11_most_10 : decode cX11_most 10 = .ok (.goto 7, 3) := by decide +kernel
theorem dX11_most_17 : decode cX11_most 17 = .ok (.ireturn, 1) := by decide +kernel
set_option maxHeartbeats 4000000 in
set_option maxRecDepth 100000 in
theorem c_X11_most (l : Launch) (D : va_G) (K : Nat → ClassId) (t0 : Nat) (ft : List Value) (ht0 : ft[0]? = some (.int 0)) (ht3 : ft[3]? = some (.int 0)) (ht4 : ft[4]? = some (.int 0)) (ht5 : ft[5]? = some (.int 0)) (x0 : Nat) (fx : List Value) (hx1 : fx[1]? = some (.ref t0)) : fn_CI (S := Unit) l D K yX11_most (fn_ws yX11_most cX11_most 2 (some .int)) ({ frames := 12, cells := 0, slots := 0, locals := 300 }) [.ref x0] [(x0, .inr (11, fx)), (t0, .inr (7, ft))] (fun r _ => r = (-2)) (fun _ => []) 0 0 := by
  refine fn_inI (cc := cX11_most) (maxL := 2) (ret := (some .int)) (by decide) rfl (Nat.le_of_ble_eq_true rfl) ?_
  intro p e s m below meth c A ls B hA hP hD hS hl
  obtain ⟨hx, hb, hr, hml, hts, hown, hlocks, hin, hK⟩ := B
  have hown : s.vm.findClass RX11 = some m.cls := hown
  have hts := fun w h => hts w (List.mem_cons_of_mem _ h)
  have hl : lv_has ls 2 [(0, .ref x0)] := hl
  refine lv_aload_n hx hb dX11_most_0 rfl (lv_at hl 0 rfl) ?_
  refine fn_goi (wc := [(x0, .inr (11, fx)), (t0, .inr (7, ft))]) (wr := []) hK hP hD hS hA [0, 1] [] rfl rfl (by decide) (fun hp => va_runV (C := RX11) (As := []) (rest := []) ⟨hx, hb, hml, hown, hts⟩ (c_X11_mostly (l := l) (D := D) (K := K) (x0 := (x0)) (fx := (fx)) (t0 := (t0)) (hx1 := hx1) (ft := (ft)) (ht0 := ht0) (ht3 := ht3) (ht4 := ht4) (ht5 := ht5) _) (cwV 0 hts (fn_ginV (fn_gin wd_900) wd_897 wd_898 wd_899 wd_1) rfl rfl rfl (by decide +kernel) ⟨Nat.le_of_ble_eq_true rfl, Nat.le_of_ble_eq_true rfl⟩) ⟨fn_blind, va_recv hK.1 hP (ci := 11) (q0 := 0) rfl rfl, hp⟩ rfl rfl hl.1 rfl (lv_room (Nat.le_of_ble_eq_true rfl)) dX11_most_1 ⟨Nat.le_of_ble_eq_true rfl, Nat.le_of_ble_eq_true rfl⟩) (fun r2 u1 H locs hwu1 hP hD hS => ?_)
  have r2_e : r2 = (-2) := hwu1
  subst r2_e
  have hP : va_P D vwCl [] H := hP
  have hD : va_D A [] := hD
  refine lv_istore_n (lv' := [(1, .int (-2)), (0, .ref x0)]) hx hb dX11_most_4 rfl hl (by decide) rfl (fun ls hl => ?_)
  refine lv_iload_n hx hb dX11_most_5 rfl (lv_at hl 0 rfl) ?_
  refine lv_if_ge (tgt := 13) hx hb dX11_most_6 (by decide) (fun h9 => absurd h9 (by decide)) (fun _ => ?_)
  refine lv_iload_n hx hb dX11_most_9 rfl (lv_at hl 0 rfl) ?_
  refine lv_goto (tgt := 17) hx hb dX11_most_10 (by decide) ?_
  exact fn_iret hx hb hr hlocks rfl hP hD hS () (by first | rfl | decide) [] (by decide) rfl dX11_most_17
theorem dX11_noSet_0 : decode cX11_noSet 0 = .ok (.aload_n 0, 1) := by decide +kernel
theorem dX11_noSet_1 : decode cX11_noSet 1 = .ok (.invokevirtual 188, 3) := by decide +kernel
theorem dX11_noSet_4 : decode cX11_noSet 4 = .ok (.ifCond .ne 20, 3) := by decide +kernel
theorem dX11_noSet_24 : decode cX11_noSet 24 = .ok (.iconst 1, 1) := by decide +kernel
theorem dX11_noSet_25 : decode cX11_noSet 25 = .ok (.goto 4, 3) := by decide +kernel
theorem dX11_noSet_29 : decode cX11_noSet 29 = .ok (.ireturn, 1) := by decide +kernel
set_option maxHeartbeats 4000000 in
set_option maxRecDepth 100000 in
theorem c_X11_noSet (l : Launch) (D : va_G) (K : Nat → ClassId) (t0 : Nat) (ft : List Value) (ht0 : ft[0]? = some (.int 0)) (ht3 : ft[3]? = some (.int 0)) (ht4 : ft[4]? = some (.int 0)) (ht5 : ft[5]? = some (.int 0)) (x0 : Nat) (fx : List Value) (hx1 : fx[1]? = some (.ref t0)) (p0 : Int32) : fn_CI (S := Unit) l D K yX11_noSet (fn_ws yX11_noSet cX11_noSet 2 (some .boolean)) ({ frames := 8, cells := 0, slots := 0, locals := 200 }) [.ref x0, .int p0] [(x0, .inr (11, fx)), (t0, .inr (7, ft))] (fun r _ => r = 1) (fun _ => []) 0 0 := by
  refine fn_inI (cc := cX11_noSet) (maxL := 2) (ret := (some .boolean)) (by decide) rfl (Nat.le_of_ble_eq_true rfl) ?_
  intro p e s m below meth c A ls B hA hP hD hS hl
  obtain ⟨hx, hb, hr, hml, hts, hown, hlocks, hin, hK⟩ := B
  have hown : s.vm.findClass RX11 = some m.cls := hown
  have hts := fun w h => hts w (List.mem_cons_of_mem _ h)
  have hl : lv_has ls 2 [(0, .ref x0), (1, .int p0)] := hl
  refine lv_aload_n hx hb dX11_noSet_0 rfl (lv_at hl 0 rfl) ?_
  refine fn_goi (wc := [(x0, .inr (11, fx)), (t0, .inr (7, ft))]) (wr := []) hK hP hD hS hA [0, 1] [] rfl rfl (by decide) (fun hp => va_runV (C := RX11) (As := []) (rest := []) ⟨hx, hb, hml, hown, hts⟩ (c_X11_noTown (l := l) (D := D) (K := K) (x0 := (x0)) (fx := (fx)) (t0 := (t0)) (hx1 := hx1) (ft := (ft)) (ht0 := ht0) (ht3 := ht3) (ht4 := ht4) (ht5 := ht5) _) (cwV 0 hts (fn_ginV (fn_gin wd_709) wd_706 wd_708 wp_30 wd_1) rfl rfl rfl (by decide +kernel) ⟨Nat.le_of_ble_eq_true rfl, Nat.le_of_ble_eq_true rfl⟩) ⟨fn_blind, va_recv hK.1 hP (ci := 11) (q0 := 0) rfl rfl, hp⟩ rfl rfl hl.1 rfl (lv_room (Nat.le_of_ble_eq_true rfl)) dX11_noSet_1 ⟨Nat.le_of_ble_eq_true rfl, Nat.le_of_ble_eq_true rfl⟩) (fun r2 u1 H locs hwu1 hP hD hS => ?_)
  have r2_e : r2 = 1 := hwu1
  subst r2_e
  have hP : va_P D vwCl [] H := hP
  have hD : va_D A [] := hD
  refine lv_if_ne (tgt := 24) hx hb dX11_noSet_4 (by decide) (fun _ => ?_) (fun h9 => absurd h9 (by decide))
  refine lv_iconst (v := 1) hx hb dX11_noSet_24 (by decide) ?_
  refine lv_goto (tgt := 29) hx hb dX11_noSet_25 (by decide) ?_
  exact fn_iret hx hb hr hlocks rfl hP hD hS () (by first | rfl | decide) [] (by decide) rfl dX11_noSet_29
theorem dX11_noPair_0 : decode cX11_noPair 0 = .ok (.aload_n 0, 1) := by decide +kernel
theorem dX11_noPair_1 : decode cX11_noPair 1 = .ok (.getfield 19, 3) := by decide +kernel
theorem dX11_noPair_4 : decode cX11_noPair 4 = .ok (.iload_n 1, 1) := by decide +kernel
theorem dX11_noPair_5 : decode cX11_noPair 5 = .ok (.invokevirtual 130, 3) := by decide +kernel
theorem dX11_noPair_8 : decode cX11_noPair 8 = .ok (.ifCond .eq 19, 3) := by decide +kernel
theorem dX11_noPair_27 : decode cX11_noPair 27 = .ok (.iconst 1, 1) := by decide +kernel
theorem dX11_noPair_28 : decode cX11_noPair 28 = .ok (.goto 4, 3) := by decide +kernel
theorem dX11_noPair_32 : decode cX11_noPair 32 = .ok (.ireturn, 1) := by decide +kernel
set_option maxHeartbeats 4000000 in
set_option maxRecDepth 100000 in
theorem c_X11_noPair (l : Launch) (D : va_G) (K : Nat → ClassId) (t0 : Nat) (ft : List Value) (ht0 : ft[0]? = some (.int 0)) (ht3 : ft[3]? = some (.int 0)) (ht4 : ft[4]? = some (.int 0)) (ht5 : ft[5]? = some (.int 0)) (x0 : Nat) (fx : List Value) (hx1 : fx[1]? = some (.ref t0)) (p0 p1 : Int32) : fn_CI (S := Unit) l D K yX11_noPair (fn_ws yX11_noPair cX11_noPair 3 (some .boolean)) ({ frames := 8, cells := 0, slots := 0, locals := 200 }) [.ref x0, .int p0, .int p1] [(x0, .inr (11, fx)), (t0, .inr (7, ft))] (fun r _ => r = 1) (fun _ => []) 0 0 := by
  refine fn_inI (cc := cX11_noPair) (maxL := 3) (ret := (some .boolean)) (by decide) rfl (Nat.le_of_ble_eq_true rfl) ?_
  intro p e s m below meth c A ls B hA hP hD hS hl
  obtain ⟨hx, hb, hr, hml, hts, hown, hlocks, hin, hK⟩ := B
  have hown : s.vm.findClass RX11 = some m.cls := hown
  have hts := fun w h => hts w (List.mem_cons_of_mem _ h)
  have hl : lv_has ls 3 [(0, .ref x0), (1, .int p0), (2, .int p1)] := hl
  refine lv_aload_n hx hb dX11_noPair_0 rfl (lv_at hl 0 rfl) ?_
  refine va_get (D := D) (own := RX11) (ci := 11) (v := .ref t0) (C := RX11) (T := TX11) (N := 13) hx hb hts inb_X11 hown hK.1 hP 0 rfl rfl 1 (by decide) (hts _ wd_423) (fun _ h9 => h9) hx1 dX11_noPair_1 ?_
  refine lv_iload_n hx hb dX11_noPair_4 rfl (lv_at hl 1 rfl) ?_
  refine fn_goi (wc := [(t0, .inr (7, ft))]) (wr := [(x0, .inr (11, fx))]) hK hP hD hS hA [1] [0] rfl rfl (by decide) (fun hp => va_runVN (C := RX7) (As := [.int p0]) (rest := []) ⟨hx, hb, hml, hown, hts⟩ (c_X7_hasPage (l := l) (D := D) (K := K) (t0 := (t0)) (p0 := (p0)) (ft := (ft)) (ht0 := ht0) (ht3 := ht3) (ht4 := ht4) (ht5 := ht5) _) ⟨va_cnB (own := RX11) 1 hts (fn_gin wd_662) rfl rfl rfl (hK.nw 108 rfl) (hts _ wd_4) (by decide +kernel) ⟨Nat.le_of_ble_eq_true rfl, Nat.le_of_ble_eq_true rfl⟩, hts _ wd_661, hts _ wp_25⟩ ⟨fn_blind, va_recv hK.1 hP (ci := 7) (q0 := 1) rfl rfl, hp⟩ rfl rfl hl.1 rfl (lv_room (Nat.le_of_ble_eq_true rfl)) dX11_noPair_5 ⟨Nat.le_of_ble_eq_true rfl, Nat.le_of_ble_eq_true rfl⟩) (fun r2 u1 H locs hwu1 hP hD hS => ?_)
  have r2_e : r2 = 0 := hwu1
  subst r2_e
  have hP : va_P D vwCl [(x0, .inr (11, fx))] H := hP
  have hD : va_D A [(x0, .inr (11, fx))] := hD
  refine lv_if_eq (tgt := 27) hx hb dX11_noPair_8 (by decide) (fun _ => ?_) (fun h9 => absurd (by decide) h9)
  refine lv_iconst (v := 1) hx hb dX11_noPair_27 (by decide) ?_
  refine lv_goto (tgt := 32) hx hb dX11_noPair_28 (by decide) ?_
  exact fn_iret hx hb hr hlocks rfl hP hD hS () (by first | rfl | decide) [] (by decide) rfl dX11_noPair_32
theorem dX11_noScholar_0 : decode cX11_noScholar 0 = .ok (.aload_n 0, 1) := by decide +kernel
theorem dX11_noScholar_1 : decode cX11_noScholar 1 = .ok (.invokevirtual 188, 3) := by decide +kernel
theorem dX11_noScholar_4 : decode cX11_noScholar 4 = .ok (.ifCond .ne 12, 3) := by decide +kernel
theorem dX11_noScholar_16 : decode cX11_noScholar 16 = .ok (.iconst 1, 1) := by decide +kernel
theorem dX11_noScholar_17 : decode cX11_noScholar 17 = .ok (.goto 4, 3) := by decide +kernel
theorem dX11_noScholar_21 : decode cX11_noScholar 21 = .ok (.ireturn, 1) := by decide +kernel
set_option maxHeartbeats 4000000 in
set_option maxRecDepth 100000 in
theorem c_X11_noScholar (l : Launch) (D : va_G) (K : Nat → ClassId) (t0 : Nat) (ft : List Value) (ht0 : ft[0]? = some (.int 0)) (ht3 : ft[3]? = some (.int 0)) (ht4 : ft[4]? = some (.int 0)) (ht5 : ft[5]? = some (.int 0)) (x0 : Nat) (fx : List Value) (hx1 : fx[1]? = some (.ref t0)) (p0 : Int32) : fn_CI (S := Unit) l D K yX11_noScholar (fn_ws yX11_noScholar cX11_noScholar 2 (some .boolean)) ({ frames := 8, cells := 0, slots := 0, locals := 200 }) [.ref x0, .int p0] [(x0, .inr (11, fx)), (t0, .inr (7, ft))] (fun r _ => r = 1) (fun _ => []) 0 0 := by
  refine fn_inI (cc := cX11_noScholar) (maxL := 2) (ret := (some .boolean)) (by decide) rfl (Nat.le_of_ble_eq_true rfl) ?_
  intro p e s m below meth c A ls B hA hP hD hS hl
  obtain ⟨hx, hb, hr, hml, hts, hown, hlocks, hin, hK⟩ := B
  have hown : s.vm.findClass RX11 = some m.cls := hown
  have hts := fun w h => hts w (List.mem_cons_of_mem _ h)
  have hl : lv_has ls 2 [(0, .ref x0), (1, .int p0)] := hl
  refine lv_aload_n hx hb dX11_noScholar_0 rfl (lv_at hl 0 rfl) ?_
  refine fn_goi (wc := [(x0, .inr (11, fx)), (t0, .inr (7, ft))]) (wr := []) hK hP hD hS hA [0, 1] [] rfl rfl (by decide) (fun hp => va_runV (C := RX11) (As := []) (rest := []) ⟨hx, hb, hml, hown, hts⟩ (c_X11_noTown (l := l) (D := D) (K := K) (x0 := (x0)) (fx := (fx)) (t0 := (t0)) (hx1 := hx1) (ft := (ft)) (ht0 := ht0) (ht3 := ht3) (ht4 := ht4) (ht5 := ht5) _) (cwV 0 hts (fn_ginV (fn_gin wd_709) wd_706 wd_708 wp_30 wd_1) rfl rfl rfl (by decide +kernel) ⟨Nat.le_of_ble_eq_true rfl, Nat.le_of_ble_eq_true rfl⟩) ⟨fn_blind, va_recv hK.1 hP (ci := 11) (q0 := 0) rfl rfl, hp⟩ rfl rfl hl.1 rfl (lv_room (Nat.le_of_ble_eq_true rfl)) dX11_noScholar_1 ⟨Nat.le_of_ble_eq_true rfl, Nat.le_of_ble_eq_true rfl⟩) (fun r2 u1 H locs hwu1 hP hD hS => ?_)
  have r2_e : r2 = 1 := hwu1
  subst r2_e
  have hP : va_P D vwCl [] H := hP
  have hD : va_D A [] := hD
  refine lv_if_ne (tgt := 16) hx hb dX11_noScholar_4 (by decide) (fun _ => ?_) (fun h9 => absurd h9 (by decide))
  refine lv_iconst (v := 1) hx hb dX11_noScholar_16 (by decide) ?_
  refine lv_goto (tgt := 21) hx hb dX11_noScholar_17 (by decide) ?_
  exact fn_iret hx hb hr hlocks rfl hP hD hS () (by first | rfl | decide) [] (by decide) rfl dX11_noScholar_21
theorem dX11_noSeed_0 : decode cX11_noSeed 0 = .ok (.aload_n 0, 1) := by decide +kernel
theorem dX11_noSeed_1 : decode cX11_noSeed 1 = .ok (.invokevirtual 188, 3) := by decide +kernel
theorem dX11_noSeed_4 : decode cX11_noSeed 4 = .ok (.ifCond .ne 14, 3) := by decide +kernel
theorem dX11_noSeed_18 : decode cX11_noSeed 18 = .ok (.iconst 1, 1) := by decide +kernel
theorem dX11_noSeed_19 : decode cX11_noSeed 19 = .ok (.goto 4, 3) := by decide +kernel
theorem dX11_noSeed_23 : decode cX11_noSeed 23 = .ok (.ireturn, 1) := by decide +kernel
set_option maxHeartbeats 4000000 in
set_option maxRecDepth 100000 in
theorem c_X11_noSeed (l : Launch) (D : va_G) (K : Nat → ClassId) (t0 : Nat) (ft : List Value) (ht0 : ft[0]? = some (.int 0)) (ht3 : ft[3]? = some (.int 0)) (ht4 : ft[4]? = some (.int 0)) (ht5 : ft[5]? = some (.int 0)) (x0 : Nat) (fx : List Value) (hx1 : fx[1]? = some (.ref t0)) (p0 : Int32) : fn_CI (S := Unit) l D K yX11_noSeed (fn_ws yX11_noSeed cX11_noSeed 2 (some .boolean)) ({ frames := 8, cells := 0, slots := 0, locals := 200 }) [.ref x0, .int p0] [(x0, .inr (11, fx)), (t0, .inr (7, ft))] (fun r _ => r = 1) (fun _ => []) 0 0 := by
  refine fn_inI (cc := cX11_noSeed) (maxL := 2) (ret := (some .boolean)) (by decide) rfl (Nat.le_of_ble_eq_true rfl) ?_
  intro p e s m below meth c A ls B hA hP hD hS hl
  obtain ⟨hx, hb, hr, hml, hts, hown, hlocks, hin, hK⟩ := B
  have hown : s.vm.findClass RX11 = some m.cls := hown
  have hts := fun w h => hts w (List.mem_cons_of_mem _ h)
  have hl : lv_has ls 2 [(0, .ref x0), (1, .int p0)] := hl
  refine lv_aload_n hx hb dX11_noSeed_0 rfl (lv_at hl 0 rfl) ?_
  refine fn_goi (wc := [(x0, .inr (11, fx)), (t0, .inr (7, ft))]) (wr := []) hK hP hD hS hA [0, 1] [] rfl rfl (by decide) (fun hp => va_runV (C := RX11) (As := []) (rest := []) ⟨hx, hb, hml, hown, hts⟩ (c_X11_noTown (l := l) (D := D) (K := K) (x0 := (x0)) (fx := (fx)) (t0 := (t0)) (hx1 := hx1) (ft := (ft)) (ht0 := ht0) (ht3 := ht3) (ht4 := ht4) (ht5 := ht5) _) (cwV 0 hts (fn_ginV (fn_gin wd_709) wd_706 wd_708 wp_30 wd_1) rfl rfl rfl (by decide +kernel) ⟨Nat.le_of_ble_eq_true rfl, Nat.le_of_ble_eq_true rfl⟩) ⟨fn_blind, va_recv hK.1 hP (ci := 11) (q0 := 0) rfl rfl, hp⟩ rfl rfl hl.1 rfl (lv_room (Nat.le_of_ble_eq_true rfl)) dX11_noSeed_1 ⟨Nat.le_of_ble_eq_true rfl, Nat.le_of_ble_eq_true rfl⟩) (fun r2 u1 H locs hwu1 hP hD hS => ?_)
  have r2_e : r2 = 1 := hwu1
  subst r2_e
  have hP : va_P D vwCl [] H := hP
  have hD : va_D A [] := hD
  refine lv_if_ne (tgt := 18) hx hb dX11_noSeed_4 (by decide) (fun _ => ?_) (fun h9 => absurd h9 (by decide))
  refine lv_iconst (v := 1) hx hb dX11_noSeed_18 (by decide) ?_
  refine lv_goto (tgt := 23) hx hb dX11_noSeed_19 (by decide) ?_
  exact fn_iret hx hb hr hlocks rfl hP hD hS () (by first | rfl | decide) [] (by decide) rfl dX11_noSeed_23
theorem dX11_holds_0 : decode cX11_holds 0 = .ok (.aload_n 0, 1) := by decide +kernel
theorem dX11_holds_1 : decode cX11_holds 1 = .ok (.iload_n 1, 1) := by decide +kernel
theorem dX11_holds_2 : decode cX11_holds 2 = .ok (.invokevirtual 256, 3) := by decide +kernel
theorem dX11_holds_5 : decode cX11_holds 5 = .ok (.ifCond .eq 6, 3) := by decide +kernel
theorem dX11_holds_8 : decode cX11_holds 8 = .ok (.bipush (-2), 2) := by decide +kernel
theorem dX11_holds_10 : decode cX11_holds 10 = .ok (.ireturn, 1) := by decide +kernel
set_option maxHeartbeats 4000000 in
set_option maxRecDepth 100000 in
theorem c_X11_holds (l : Launch) (D : va_G) (K : Nat → ClassId) (t0 : Nat) (ft : List Value) (ht0 : ft[0]? = some (.int 0)) (ht3 : ft[3]? = some (.int 0)) (ht4 : ft[4]? = some (.int 0)) (ht5 : ft[5]? = some (.int 0)) (x0 : Nat) (fx : List Value) (hx1 : fx[1]? = some (.ref t0)) (p0 : Int32) : fn_CI (S := Unit) l D K yX11_holds (fn_ws yX11_holds cX11_holds 2 (some .int)) ({ frames := 12, cells := 0, slots := 0, locals := 300 }) [.ref x0, .int p0] [(x0, .inr (11, fx)), (t0, .inr (7, ft))] (fun r _ => r = (-2)) (fun _ => []) 0 0 := by
  refine fn_inI (cc := cX11_holds) (maxL := 2) (ret := (some .int)) (by decide) rfl (Nat.le_of_ble_eq_true rfl) ?_
  intro p e s m below meth c A ls B hA hP hD hS hl
  obtain ⟨hx, hb, hr, hml, hts, hown, hlocks, hin, hK⟩ := B
  have hown : s.vm.findClass RX11 = some m.cls := hown
  have hts := fun w h => hts w (List.mem_cons_of_mem _ h)
  have hl : lv_has ls 2 [(0, .ref x0), (1, .int p0)] := hl
  refine lv_aload_n hx hb dX11_holds_0 rfl (lv_at hl 0 rfl) ?_
  refine lv_iload_n hx hb dX11_holds_1 rfl (lv_at hl 1 rfl) ?_
  refine fn_goi (wc := [(x0, .inr (11, fx)), (t0, .inr (7, ft))]) (wr := []) hK hP hD hS hA [0, 1] [] rfl rfl (by decide) (fun hp => va_runV (C := RX11) (As := [.int p0]) (rest := []) ⟨hx, hb, hml, hown, hts⟩ (c_X11_noSet (l := l) (D := D) (K := K) (x0 := (x0)) (p0 := (p0)) (fx := (fx)) (t0 := (t0)) (hx1 := hx1) (ft := (ft)) (ht0 := ht0) (ht3 := ht3) (ht4 := ht4) (ht5 := ht5) _) (cwV 1 hts (fn_ginV (fn_gin wd_871) wd_868 wd_870 wp_45 wd_1) rfl rfl rfl (by decide +kernel) ⟨Nat.le_of_ble_eq_true rfl, Nat.le_of_ble_eq_true rfl⟩) ⟨fn_blind, va_recv hK.1 hP (ci := 11) (q0 := 0) rfl rfl, hp⟩ rfl rfl hl.1 rfl (lv_room (Nat.le_of_ble_eq_true rfl)) dX11_holds_2 ⟨Nat.le_of_ble_eq_true rfl, Nat.le_of_ble_eq_true rfl⟩) (fun r2 u1 H locs hwu1 hP hD hS => ?_)
  have r2_e : r2 = 1 := hwu1
  subst r2_e
  have hP : va_P D vwCl [] H := hP
  have hD : va_D A [] := hD
  refine lv_if_eq (tgt := 11) hx hb dX11_holds_5 (by decide) (fun h9 => absurd h9 (by decide)) (fun _ => ?_)
  refine lv_bipush (v := (-2)) hx hb dX11_holds_8 (by decide) ?_
  exact fn_iret hx hb hr hlocks rfl hP hD hS () (by first | rfl | decide) [] (by decide) rfl dX11_holds_10
theorem dX11_loose_0 : decode cX11_loose 0 = .ok (.aload_n 0, 1) := by decide +kernel
theorem dX11_loose_1 : decode cX11_loose 1 = .ok (.iload_n 1, 1) := by decide +kernel
theorem dX11_loose_2 : decode cX11_loose 2 = .ok (.invokevirtual 256, 3) := by decide +kernel
theorem dX11_loose_5 : decode cX11_loose 5 = .ok (.ifCond .eq 6, 3) := by decide +kernel
theorem dX11_loose_8 : decode cX11_loose 8 = .ok (.bipush (-2), 2) := by decide +kernel
theorem dX11_loose_10 : decode cX11_loose 10 = .ok (.ireturn, 1) := by decide +kernel
set_option maxHeartbeats 4000000 in
set_option maxRecDepth 100000 in
theorem c_X11_loose (l : Launch) (D : va_G) (K : Nat → ClassId) (t0 : Nat) (ft : List Value) (ht0 : ft[0]? = some (.int 0)) (ht3 : ft[3]? = some (.int 0)) (ht4 : ft[4]? = some (.int 0)) (ht5 : ft[5]? = some (.int 0)) (x0 : Nat) (fx : List Value) (hx1 : fx[1]? = some (.ref t0)) (p0 : Int32) : fn_CI (S := Unit) l D K yX11_loose (fn_ws yX11_loose cX11_loose 2 (some .int)) ({ frames := 12, cells := 0, slots := 0, locals := 300 }) [.ref x0, .int p0] [(x0, .inr (11, fx)), (t0, .inr (7, ft))] (fun r _ => r = (-2)) (fun _ => []) 0 0 := by
  refine fn_inI (cc := cX11_loose) (maxL := 2) (ret := (some .int)) (by decide) rfl (Nat.le_of_ble_eq_true rfl) ?_
  intro p e s m below meth c A ls B hA hP hD hS hl
  obtain ⟨hx, hb, hr, hml, hts, hown, hlocks, hin, hK⟩ := B
  have hown : s.vm.findClass RX11 = some m.cls := hown
  have hts := fun w h => hts w (List.mem_cons_of_mem _ h)
  have hl : lv_has ls 2 [(0, .ref x0), (1, .int p0)] := hl
  refine lv_aload_n hx hb dX11_loose_0 rfl (lv_at hl 0 rfl) ?_
  refine lv_iload_n hx hb dX11_loose_1 rfl (lv_at hl 1 rfl) ?_
  refine fn_goi (wc := [(x0, .inr (11, fx)), (t0, .inr (7, ft))]) (wr := []) hK hP hD hS hA [0, 1] [] rfl rfl (by decide) (fun hp => va_runV (C := RX11) (As := [.int p0]) (rest := []) ⟨hx, hb, hml, hown, hts⟩ (c_X11_noSet (l := l) (D := D) (K := K) (x0 := (x0)) (p0 := (p0)) (fx := (fx)) (t0 := (t0)) (hx1 := hx1) (ft := (ft)) (ht0 := ht0) (ht3 := ht3) (ht4 := ht4) (ht5 := ht5) _) (cwV 1 hts (fn_ginV (fn_gin wd_871) wd_868 wd_870 wp_45 wd_1) rfl rfl rfl (by decide +kernel) ⟨Nat.le_of_ble_eq_true rfl, Nat.le_of_ble_eq_true rfl⟩) ⟨fn_blind, va_recv hK.1 hP (ci := 11) (q0 := 0) rfl rfl, hp⟩ rfl rfl hl.1 rfl (lv_room (Nat.le_of_ble_eq_true rfl)) dX11_loose_2 ⟨Nat.le_of_ble_eq_true rfl, Nat.le_of_ble_eq_true rfl⟩) (fun r2 u1 H locs hwu1 hP hD hS => ?_)
  have r2_e : r2 = 1 := hwu1
  subst r2_e
  have hP : va_P D vwCl [] H := hP
  have hD : va_D A [] := hD
  refine lv_if_eq (tgt := 11) hx hb dX11_loose_5 (by decide) (fun h9 => absurd h9 (by decide)) (fun _ => ?_)
  refine lv_bipush (v := (-2)) hx hb dX11_loose_8 (by decide) ?_
  exact fn_iret hx hb hr hlocks rfl hP hD hS () (by first | rfl | decide) [] (by decide) rfl dX11_loose_10
theorem dX11_loosely_0 : decode cX11_loosely 0 = .ok (.aload_n 0, 1) := by decide +kernel
theorem dX11_loosely_1 : decode cX11_loosely 1 = .ok (.iload_n 1, 1) := by decide +kernel
theorem dX11_loosely_2 : decode cX11_loosely 2 = .ok (.invokevirtual 256, 3) := by decide +kernel
theorem dX11_loosely_5 : decode cX11_loosely 5 = .ok (.ifCond .eq 6, 3) := by decide +kernel
theorem dX11_loosely_8 : decode cX11_loosely 8 = .ok (.bipush (-2), 2) := by decide +kernel
theorem dX11_loosely_10 : decode cX11_loosely 10 = .ok (.ireturn, 1) := by decide +kernel
set_option maxHeartbeats 4000000 in
set_option maxRecDepth 100000 in
theorem c_X11_loosely (l : Launch) (D : va_G) (K : Nat → ClassId) (t0 : Nat) (ft : List Value) (ht0 : ft[0]? = some (.int 0)) (ht3 : ft[3]? = some (.int 0)) (ht4 : ft[4]? = some (.int 0)) (ht5 : ft[5]? = some (.int 0)) (x0 : Nat) (fx : List Value) (hx1 : fx[1]? = some (.ref t0)) (p0 : Int32) : fn_CI (S := Unit) l D K yX11_loosely (fn_ws yX11_loosely cX11_loosely 2 (some .int)) ({ frames := 12, cells := 0, slots := 0, locals := 300 }) [.ref x0, .int p0] [(x0, .inr (11, fx)), (t0, .inr (7, ft))] (fun r _ => r = (-2)) (fun _ => []) 0 0 := by
  refine fn_inI (cc := cX11_loosely) (maxL := 2) (ret := (some .int)) (by decide) rfl (Nat.le_of_ble_eq_true rfl) ?_
  intro p e s m below meth c A ls B hA hP hD hS hl
  obtain ⟨hx, hb, hr, hml, hts, hown, hlocks, hin, hK⟩ := B
  have hown : s.vm.findClass RX11 = some m.cls := hown
  have hts := fun w h => hts w (List.mem_cons_of_mem _ h)
  have hl : lv_has ls 2 [(0, .ref x0), (1, .int p0)] := hl
  refine lv_aload_n hx hb dX11_loosely_0 rfl (lv_at hl 0 rfl) ?_
  refine lv_iload_n hx hb dX11_loosely_1 rfl (lv_at hl 1 rfl) ?_
  refine fn_goi (wc := [(x0, .inr (11, fx)), (t0, .inr (7, ft))]) (wr := []) hK hP hD hS hA [0, 1] [] rfl rfl (by decide) (fun hp => va_runV (C := RX11) (As := [.int p0]) (rest := []) ⟨hx, hb, hml, hown, hts⟩ (c_X11_noSet (l := l) (D := D) (K := K) (x0 := (x0)) (p0 := (p0)) (fx := (fx)) (t0 := (t0)) (hx1 := hx1) (ft := (ft)) (ht0 := ht0) (ht3 := ht3) (ht4 := ht4) (ht5 := ht5) _) (cwV 1 hts (fn_ginV (fn_gin wd_871) wd_868 wd_870 wp_45 wd_1) rfl rfl rfl (by decide +kernel) ⟨Nat.le_of_ble_eq_true rfl, Nat.le_of_ble_eq_true rfl⟩) ⟨fn_blind, va_recv hK.1 hP (ci := 11) (q0 := 0) rfl rfl, hp⟩ rfl rfl hl.1 rfl (lv_room (Nat.le_of_ble_eq_true rfl)) dX11_loosely_2 ⟨Nat.le_of_ble_eq_true rfl, Nat.le_of_ble_eq_true rfl⟩) (fun r2 u1 H locs hwu1 hP hD hS => ?_)
  have r2_e : r2 = 1 := hwu1
  subst r2_e
  have hP : va_P D vwCl [] H := hP
  have hD : va_D A [] := hD
  refine lv_if_eq (tgt := 11) hx hb dX11_loosely_5 (by decide) (fun h9 => absurd h9 (by decide)) (fun _ => ?_)
  refine lv_bipush (v := (-2)) hx hb dX11_loosely_8 (by decide) ?_
  exact fn_iret hx hb hr hlocks rfl hP hD hS () (by first | rfl | decide) [] (by decide) rfl dX11_loosely_10
theorem dX11_meets_0 : decode cX11_meets 0 = .ok (.aload_n 0, 1) := by decide +kernel
theorem dX11_meets_1 : decode cX11_meets 1 = .ok (.iload_n 1, 1) := by decide +kernel
theorem dX11_meets_2 : decode cX11_meets 2 = .ok (.iload_n 2, 1) := by decide +kernel
theorem dX11_meets_3 : decode cX11_meets 3 = .ok (.invokevirtual 387, 3) := by decide +kernel
theorem dX11_meets_6 : decode cX11_meets 6 = .ok (.ifCond .eq 6, 3) := by decide +kernel
theorem dX11_meets_9 : decode cX11_meets 9 = .ok (.bipush (-2), 2) := by decide +kernel
theorem dX11_meets_11 : decode cX11_meets 11 = .ok (.ireturn, 1) := by decide +kernel
set_option maxHeartbeats 4000000 in
set_option maxRecDepth 100000 in
theorem c_X11_meets (l : Launch) (D : va_G) (K : Nat → ClassId) (t0 : Nat) (ft : List Value) (ht0 : ft[0]? = some (.int 0)) (ht3 : ft[3]? = some (.int 0)) (ht4 : ft[4]? = some (.int 0)) (ht5 : ft[5]? = some (.int 0)) (x0 : Nat) (fx : List Value) (hx1 : fx[1]? = some (.ref t0)) (p0 p1 : Int32) : fn_CI (S := Unit) l D K yX11_meets (fn_ws yX11_meets cX11_meets 3 (some .int)) ({ frames := 12, cells := 0, slots := 0, locals := 300 }) [.ref x0, .int p0, .int p1] [(x0, .inr (11, fx)), (t0, .inr (7, ft))] (fun r _ => r = (-2)) (fun _ => []) 0 0 := by
  refine fn_inI (cc := cX11_meets) (maxL := 3) (ret := (some .int)) (by decide) rfl (Nat.le_of_ble_eq_true rfl) ?_
  intro p e s m below meth c A ls B hA hP hD hS hl
  obtain ⟨hx, hb, hr, hml, hts, hown, hlocks, hin, hK⟩ := B
  have hown : s.vm.findClass RX11 = some m.cls := hown
  have hts := fun w h => hts w (List.mem_cons_of_mem _ h)
  have hl : lv_has ls 3 [(0, .ref x0), (1, .int p0), (2, .int p1)] := hl
  refine lv_aload_n hx hb dX11_meets_0 rfl (lv_at hl 0 rfl) ?_
  refine lv_iload_n hx hb dX11_meets_1 rfl (lv_at hl 1 rfl) ?_
  refine lv_iload_n hx hb dX11_meets_2 rfl (lv_at hl 2 rfl) ?_
  refine fn_goi (wc := [(x0, .inr (11, fx)), (t0, .inr (7, ft))]) (wr := []) hK hP hD hS hA [0, 1] [] rfl rfl (by decide) (fun hp => va_runV (C := RX11) (As := [.int p0, .int p1]) (rest := []) ⟨hx, hb, hml, hown, hts⟩ (c_X11_noPair (l := l) (D := D) (K := K) (x0 := (x0)) (p0 := (p0)) (p1 := (p1)) (fx := (fx)) (t0 := (t0)) (hx1 := hx1) (ft := (ft)) (ht0 := ht0) (ht3 := ht3) (ht4 := ht4) (ht5 := ht5) _) (cwV 2 hts (fn_ginV (fn_gin wd_1100) wd_1097 wd_1099 wp_79 wd_1) rfl rfl rfl (by decide +kernel) ⟨Nat.le_of_ble_eq_true rfl, Nat.le_of_ble_eq_true rfl⟩) ⟨fn_blind, va_recv hK.1 hP (ci := 11) (q0 := 0) rfl rfl, hp⟩ rfl rfl hl.1 rfl (lv_room (Nat.le_of_ble_eq_true rfl)) dX11_meets_3 ⟨Nat.le_of_ble_eq_true rfl, Nat.le_of_ble_eq_true rfl⟩) (fun r2 u1 H locs hwu1 hP hD hS => ?_)
  have r2_e : r2 = 1 := hwu1
  subst r2_e
  have hP : va_P D vwCl [] H := hP
  have hD : va_D A [] := hD
  refine lv_if_eq (tgt := 12) hx hb dX11_meets_6 (by decide) (fun h9 => absurd h9 (by decide)) (fun _ => ?_)
  refine lv_bipush (v := (-2)) hx hb dX11_meets_9 (by decide) ?_
  exact fn_iret hx hb hr hlocks rfl hP hD hS () (by first | rfl | decide) [] (by decide) rfl dX11_meets_11
theorem dX11_nearest_0 : decode cX11_nearest 0 = .ok (.aload_n 0, 1) := by decide +kernel
theorem dX11_nearest_1 : decode cX11_nearest 1 = .ok (.iload_n 1, 1) := by decide +kernel
theorem dX11_nearest_2 : decode cX11_nearest 2 = .ok (.iload_n 2, 1) := by decide +kernel
theorem dX11_nearest_3 : decode cX11_nearest 3 = .ok (.invokevirtual 387, 3) := by decide +kernel
theorem dX11_nearest_6 : decode cX11_nearest 6 = .ok (.ifCond .eq 6, 3) := by decide +kernel
theorem dX11_nearest_9 : decode cX11_nearest 9 = .ok (.bipush (-2), 2) := by decide +kernel
theorem dX11_nearest_11 : decode cX11_nearest 11 = .ok (.ireturn, 1) := by decide +kernel
set_option maxHeartbeats 4000000 in
set_option maxRecDepth 100000 in
theorem c_X11_nearest (l : Launch) (D : va_G) (K : Nat → ClassId) (t0 : Nat) (ft : List Value) (ht0 : ft[0]? = some (.int 0)) (ht3 : ft[3]? = some (.int 0)) (ht4 : ft[4]? = some (.int 0)) (ht5 : ft[5]? = some (.int 0)) (x0 : Nat) (fx : List Value) (hx1 : fx[1]? = some (.ref t0)) (p0 p1 : Int32) : fn_CI (S := Unit) l D K yX11_nearest (fn_ws yX11_nearest cX11_nearest 4 (some .int)) ({ frames := 12, cells := 0, slots := 0, locals := 300 }) [.ref x0, .int p0, .int p1] [(x0, .inr (11, fx)), (t0, .inr (7, ft))] (fun r _ => r = (-2)) (fun _ => []) 0 0 := by
  refine fn_inI (cc := cX11_nearest) (maxL := 4) (ret := (some .int)) (by decide) rfl (Nat.le_of_ble_eq_true rfl) ?_
  intro p e s m below meth c A ls B hA hP hD hS hl
  obtain ⟨hx, hb, hr, hml, hts, hown, hlocks, hin, hK⟩ := B
  have hown : s.vm.findClass RX11 = some m.cls := hown
  have hts := fun w h => hts w (List.mem_cons_of_mem _ h)
  have hl : lv_has ls 4 [(0, .ref x0), (1, .int p0), (2, .int p1)] := hl
  refine lv_aload_n hx hb dX11_nearest_0 rfl (lv_at hl 0 rfl) ?_
  refine lv_iload_n hx hb dX11_nearest_1 rfl (lv_at hl 1 rfl) ?_
  refine lv_iload_n hx hb dX11_nearest_2 rfl (lv_at hl 2 rfl) ?_
  refine fn_goi (wc := [(x0, .inr (11, fx)), (t0, .inr (7, ft))]) (wr := []) hK hP hD hS hA [0, 1] [] rfl rfl (by decide) (fun hp => va_runV (C := RX11) (As := [.int p0, .int p1]) (rest := []) ⟨hx, hb, hml, hown, hts⟩ (c_X11_noPair (l := l) (D := D) (K := K) (x0 := (x0)) (p0 := (p0)) (p1 := (p1)) (fx := (fx)) (t0 := (t0)) (hx1 := hx1) (ft := (ft)) (ht0 := ht0) (ht3 := ht3) (ht4 := ht4) (ht5 := ht5) _) (cwV 2 hts (fn_ginV (fn_gin wd_1100) wd_1097 wd_1099 wp_79 wd_1) rfl rfl rfl (by decide +kernel) ⟨Nat.le_of_ble_eq_true rfl, Nat.le_of_ble_eq_true rfl⟩) ⟨fn_blind, va_recv hK.1 hP (ci := 11) (q0 := 0) rfl rfl, hp⟩ rfl rfl hl.1 rfl (lv_room (Nat.le_of_ble_eq_true rfl)) dX11_nearest_3 ⟨Nat.le_of_ble_eq_true rfl, Nat.le_of_ble_eq_true rfl⟩) (fun r2 u1 H locs hwu1 hP hD hS => ?_)
  have r2_e : r2 = 1 := hwu1
  subst r2_e
  have hP : va_P D vwCl [] H := hP
  have hD : va_D A [] := hD
  refine lv_if_eq (tgt := 12) hx hb dX11_nearest_6 (by decide) (fun h9 => absurd h9 (by decide)) (fun _ => ?_)
  refine lv_bipush (v := (-2)) hx hb dX11_nearest_9 (by decide) ?_
  exact fn_iret hx hb hr hlocks rfl hP hD hS () (by first | rfl | decide) [] (by decide) rfl dX11_nearest_11
theorem dX11_cited_0 : decode cX11_cited 0 = .ok (.aload_n 0, 1) := by decide +kernel
theorem dX11_cited_1 : decode cX11_cited 1 = .ok (.iload_n 1, 1) := by decide +kernel
theorem dX11_cited_2 : decode cX11_cited 2 = .ok (.invokevirtual 404, 3) := by decide +kernel
theorem dX11_cited_5 : decode cX11_cited 5 = .ok (.ifCond .eq 8, 3) := by decide +kernel
theorem dX11_cited_8 : decode cX11_cited 8 = .ok (.bipush (-2), 2) := by decide +kernel
theorem dX11_cited_10 : decode cX11_cited 10 = .ok (.goto 8, 3) := by decide +kernel
theorem dX11_cited_18 : decode cX11_cited 18 = .ok (.ireturn, 1) := by decide +kernel
set_option maxHeartbeats 4000000 in
set_option maxRecDepth 100000 in
theorem c_X11_cited (l : Launch) (D : va_G) (K : Nat → ClassId) (t0 : Nat) (ft : List Value) (ht0 : ft[0]? = some (.int 0)) (ht3 : ft[3]? = some (.int 0)) (ht4 : ft[4]? = some (.int 0)) (ht5 : ft[5]? = some (.int 0)) (x0 : Nat) (fx : List Value) (hx1 : fx[1]? = some (.ref t0)) (p0 : Int32) : fn_CI (S := Unit) l D K yX11_cited (fn_ws yX11_cited cX11_cited 2 (some .int)) ({ frames := 12, cells := 0, slots := 0, locals := 300 }) [.ref x0, .int p0] [(x0, .inr (11, fx)), (t0, .inr (7, ft))] (fun r _ => r = (-2)) (fun _ => []) 0 0 := by
  refine fn_inI (cc := cX11_cited) (maxL := 2) (ret := (some .int)) (by decide) rfl (Nat.le_of_ble_eq_true rfl) ?_
  intro p e s m below meth c A ls B hA hP hD hS hl
  obtain ⟨hx, hb, hr, hml, hts, hown, hlocks, hin, hK⟩ := B
  have hown : s.vm.findClass RX11 = some m.cls := hown
  have hts := fun w h => hts w (List.mem_cons_of_mem _ h)
  have hl : lv_has ls 2 [(0, .ref x0), (1, .int p0)] := hl
  refine lv_aload_n hx hb dX11_cited_0 rfl (lv_at hl 0 rfl) ?_
  refine lv_iload_n hx hb dX11_cited_1 rfl (lv_at hl 1 rfl) ?_
  refine fn_goi (wc := [(x0, .inr (11, fx)), (t0, .inr (7, ft))]) (wr := []) hK hP hD hS hA [0, 1] [] rfl rfl (by decide) (fun hp => va_runV (C := RX11) (As := [.int p0]) (rest := []) ⟨hx, hb, hml, hown, hts⟩ (c_X11_noScholar (l := l) (D := D) (K := K) (x0 := (x0)) (p0 := (p0)) (fx := (fx)) (t0 := (t0)) (hx1 := hx1) (ft := (ft)) (ht0 := ht0) (ht3 := ht3) (ht4 := ht4) (ht5 := ht5) _) (cwV 1 hts (fn_ginV (fn_gin wd_1126) wd_1123 wd_1125 wp_82 wd_1) rfl rfl rfl (by decide +kernel) ⟨Nat.le_of_ble_eq_true rfl, Nat.le_of_ble_eq_true rfl⟩) ⟨fn_blind, va_recv hK.1 hP (ci := 11) (q0 := 0) rfl rfl, hp⟩ rfl rfl hl.1 rfl (lv_room (Nat.le_of_ble_eq_true rfl)) dX11_cited_2 ⟨Nat.le_of_ble_eq_true rfl, Nat.le_of_ble_eq_true rfl⟩) (fun r2 u1 H locs hwu1 hP hD hS => ?_)
  have r2_e : r2 = 1 := hwu1
  subst r2_e
  have hP : va_P D vwCl [] H := hP
  have hD : va_D A [] := hD
  refine lv_if_eq (tgt := 13) hx hb dX11_cited_5 (by decide) (fun h9 => absurd h9 (by decide)) (fun _ => ?_)
  refine lv_bipush (v := (-2)) hx hb dX11_cited_8 (by decide) ?_
  refine lv_goto (tgt := 18) hx hb dX11_cited_10 (by decide) ?_
  exact fn_iret hx hb hr hlocks rfl hP hD hS () (by first | rfl | decide) [] (by decide) rfl dX11_cited_18
theorem dX11_quotes_0 : decode cX11_quotes 0 = .ok (.aload_n 0, 1) := by decide +kernel
theorem dX11_quotes_1 : decode cX11_quotes 1 = .ok (.iload_n 1, 1) := by decide +kernel
theorem dX11_quotes_2 : decode cX11_quotes 2 = .ok (.invokevirtual 404, 3) := by decide +kernel
theorem dX11_quotes_5 : decode cX11_quotes 5 = .ok (.ifCond .ne 11, 3) := by decide +kernel
theorem dX11_quotes_16 : decode cX11_quotes 16 = .ok (.bipush (-2), 2) := by decide +kernel
theorem dX11_quotes_18 : decode cX11_quotes 18 = .ok (.ireturn, 1) := by decide +kernel
set_option maxHeartbeats 4000000 in
set_option maxRecDepth 100000 in
theorem c_X11_quotes (l : Launch) (D : va_G) (K : Nat → ClassId) (t0 : Nat) (ft : List Value) (ht0 : ft[0]? = some (.int 0)) (ht3 : ft[3]? = some (.int 0)) (ht4 : ft[4]? = some (.int 0)) (ht5 : ft[5]? = some (.int 0)) (x0 : Nat) (fx : List Value) (hx1 : fx[1]? = some (.ref t0)) (p0 p1 : Int32) : fn_CI (S := Unit) l D K yX11_quotes (fn_ws yX11_quotes cX11_quotes 3 (some .int)) ({ frames := 12, cells := 0, slots := 0, locals := 300 }) [.ref x0, .int p0, .int p1] [(x0, .inr (11, fx)), (t0, .inr (7, ft))] (fun r _ => r = (-2)) (fun _ => []) 0 0 := by
  refine fn_inI (cc := cX11_quotes) (maxL := 3) (ret := (some .int)) (by decide) rfl (Nat.le_of_ble_eq_true rfl) ?_
  intro p e s m below meth c A ls B hA hP hD hS hl
  obtain ⟨hx, hb, hr, hml, hts, hown, hlocks, hin, hK⟩ := B
  have hown : s.vm.findClass RX11 = some m.cls := hown
  have hts := fun w h => hts w (List.mem_cons_of_mem _ h)
  have hl : lv_has ls 3 [(0, .ref x0), (1, .int p0), (2, .int p1)] := hl
  refine lv_aload_n hx hb dX11_quotes_0 rfl (lv_at hl 0 rfl) ?_
  refine lv_iload_n hx hb dX11_quotes_1 rfl (lv_at hl 1 rfl) ?_
  refine fn_goi (wc := [(x0, .inr (11, fx)), (t0, .inr (7, ft))]) (wr := []) hK hP hD hS hA [0, 1] [] rfl rfl (by decide) (fun hp => va_runV (C := RX11) (As := [.int p0]) (rest := []) ⟨hx, hb, hml, hown, hts⟩ (c_X11_noScholar (l := l) (D := D) (K := K) (x0 := (x0)) (p0 := (p0)) (fx := (fx)) (t0 := (t0)) (hx1 := hx1) (ft := (ft)) (ht0 := ht0) (ht3 := ht3) (ht4 := ht4) (ht5 := ht5) _) (cwV 1 hts (fn_ginV (fn_gin wd_1126) wd_1123 wd_1125 wp_82 wd_1) rfl rfl rfl (by decide +kernel) ⟨Nat.le_of_ble_eq_true rfl, Nat.le_of_ble_eq_true rfl⟩) ⟨fn_blind, va_recv hK.1 hP (ci := 11) (q0 := 0) rfl rfl, hp⟩ rfl rfl hl.1 rfl (lv_room (Nat.le_of_ble_eq_true rfl)) dX11_quotes_2 ⟨Nat.le_of_ble_eq_true rfl, Nat.le_of_ble_eq_true rfl⟩) (fun r2 u1 H locs hwu1 hP hD hS => ?_)
  have r2_e : r2 = 1 := hwu1
  subst r2_e
  have hP : va_P D vwCl [] H := hP
  have hD : va_D A [] := hD
  refine lv_if_ne (tgt := 16) hx hb dX11_quotes_5 (by decide) (fun _ => ?_) (fun h9 => absurd h9 (by decide))
  refine lv_bipush (v := (-2)) hx hb dX11_quotes_16 (by decide) ?_
  exact fn_iret hx hb hr hlocks rfl hP hD hS () (by first | rfl | decide) [] (by decide) rfl dX11_quotes_18
theorem dX11_drawn_0 : decode cX11_drawn 0 = .ok (.aload_n 0, 1) := by decide +kernel
theorem dX11_drawn_1 : decode cX11_drawn 1 = .ok (.iload_n 1, 1) := by decide +kernel
theorem dX11_drawn_2 : decode cX11_drawn 2 = .ok (.invokevirtual 417, 3) := by decide +kernel
theorem dX11_drawn_5 : decode cX11_drawn 5 = .ok (.ifCond .eq 8, 3) := by decide +kernel
theorem dX11_drawn_8 : decode cX11_drawn 8 = .ok (.bipush (-2), 2) := by decide +kernel
theorem dX11_drawn_10 : decode cX11_drawn 10 = .ok (.goto 9, 3) := by decide +kernel
theorem dX11_drawn_19 : decode cX11_drawn 19 = .ok (.ireturn, 1) := by decide +kernel
set_option maxHeartbeats 4000000 in
set_option maxRecDepth 100000 in
theorem c_X11_drawn (l : Launch) (D : va_G) (K : Nat → ClassId) (t0 : Nat) (ft : List Value) (ht0 : ft[0]? = some (.int 0)) (ht3 : ft[3]? = some (.int 0)) (ht4 : ft[4]? = some (.int 0)) (ht5 : ft[5]? = some (.int 0)) (x0 : Nat) (fx : List Value) (hx1 : fx[1]? = some (.ref t0)) (p0 : Int32) : fn_CI (S := Unit) l D K yX11_drawn (fn_ws yX11_drawn cX11_drawn 2 (some .int)) ({ frames := 12, cells := 0, slots := 0, locals := 300 }) [.ref x0, .int p0] [(x0, .inr (11, fx)), (t0, .inr (7, ft))] (fun r _ => r = (-2)) (fun _ => []) 0 0 := by
  refine fn_inI (cc := cX11_drawn) (maxL := 2) (ret := (some .int)) (by decide) rfl (Nat.le_of_ble_eq_true rfl) ?_
  intro p e s m below meth c A ls B hA hP hD hS hl
  obtain ⟨hx, hb, hr, hml, hts, hown, hlocks, hin, hK⟩ := B
  have hown : s.vm.findClass RX11 = some m.cls := hown
  have hts := fun w h => hts w (List.mem_cons_of_mem _ h)
  have hl : lv_has ls 2 [(0, .ref x0), (1, .int p0)] := hl
  refine lv_aload_n hx hb dX11_drawn_0 rfl (lv_at hl 0 rfl) ?_
  refine lv_iload_n hx hb dX11_drawn_1 rfl (lv_at hl 1 rfl) ?_
  refine fn_goi (wc := [(x0, .inr (11, fx)), (t0, .inr (7, ft))]) (wr := []) hK hP hD hS hA [0, 1] [] rfl rfl (by decide) (fun hp => va_runV (C := RX11) (As := [.int p0]) (rest := []) ⟨hx, hb, hml, hown, hts⟩ (c_X11_noSeed (l := l) (D := D) (K := K) (x0 := (x0)) (p0 := (p0)) (fx := (fx)) (t0 := (t0)) (hx1 := hx1) (ft := (ft)) (ht0 := ht0) (ht3 := ht3) (ht4 := ht4) (ht5 := ht5) _) (cwV 1 hts (fn_ginV (fn_gin wd_1154) wd_1151 wd_1153 wp_86 wd_1) rfl rfl rfl (by decide +kernel) ⟨Nat.le_of_ble_eq_true rfl, Nat.le_of_ble_eq_true rfl⟩) ⟨fn_blind, va_recv hK.1 hP (ci := 11) (q0 := 0) rfl rfl, hp⟩ rfl rfl hl.1 rfl (lv_room (Nat.le_of_ble_eq_true rfl)) dX11_drawn_2 ⟨Nat.le_of_ble_eq_true rfl, Nat.le_of_ble_eq_true rfl⟩) (fun r2 u1 H locs hwu1 hP hD hS => ?_)
  have r2_e : r2 = 1 := hwu1
  subst r2_e
  have hP : va_P D vwCl [] H := hP
  have hD : va_D A [] := hD
  refine lv_if_eq (tgt := 13) hx hb dX11_drawn_5 (by decide) (fun h9 => absurd h9 (by decide)) (fun _ => ?_)
  refine lv_bipush (v := (-2)) hx hb dX11_drawn_8 (by decide) ?_
  refine lv_goto (tgt := 19) hx hb dX11_drawn_10 (by decide) ?_
  exact fn_iret hx hb hr hlocks rfl hP hD hS () (by first | rfl | decide) [] (by decide) rfl dX11_drawn_19
theorem dX11_shaken_0 : decode cX11_shaken 0 = .ok (.aload_n 0, 1) := by decide +kernel
theorem dX11_shaken_1 : decode cX11_shaken 1 = .ok (.iload_n 1, 1) := by decide +kernel
theorem dX11_shaken_2 : decode cX11_shaken 2 = .ok (.invokevirtual 417, 3) := by decide +kernel
theorem dX11_shaken_5 : decode cX11_shaken 5 = .ok (.ifCond .eq 8, 3) := by decide +kernel
theorem dX11_shaken_8 : decode cX11_shaken 8 = .ok (.bipush (-2), 2) := by decide +kernel
theorem dX11_shaken_10 : decode cX11_shaken 10 = .ok (.goto 12, 3) := by decide +kernel
theorem dX11_shaken_22 : decode cX11_shaken 22 = .ok (.ireturn, 1) := by decide +kernel
set_option maxHeartbeats 4000000 in
set_option maxRecDepth 100000 in
theorem c_X11_shaken (l : Launch) (D : va_G) (K : Nat → ClassId) (t0 : Nat) (ft : List Value) (ht0 : ft[0]? = some (.int 0)) (ht3 : ft[3]? = some (.int 0)) (ht4 : ft[4]? = some (.int 0)) (ht5 : ft[5]? = some (.int 0)) (x0 : Nat) (fx : List Value) (hx1 : fx[1]? = some (.ref t0)) (p0 : Int32) : fn_CI (S := Unit) l D K yX11_shaken (fn_ws yX11_shaken cX11_shaken 2 (some .int)) ({ frames := 12, cells := 0, slots := 0, locals := 300 }) [.ref x0, .int p0] [(x0, .inr (11, fx)), (t0, .inr (7, ft))] (fun r _ => r = (-2)) (fun _ => []) 0 0 := by
  refine fn_inI (cc := cX11_shaken) (maxL := 2) (ret := (some .int)) (by decide) rfl (Nat.le_of_ble_eq_true rfl) ?_
  intro p e s m below meth c A ls B hA hP hD hS hl
  obtain ⟨hx, hb, hr, hml, hts, hown, hlocks, hin, hK⟩ := B
  have hown : s.vm.findClass RX11 = some m.cls := hown
  have hts := fun w h => hts w (List.mem_cons_of_mem _ h)
  have hl : lv_has ls 2 [(0, .ref x0), (1, .int p0)] := hl
  refine lv_aload_n hx hb dX11_shaken_0 rfl (lv_at hl 0 rfl) ?_
  refine lv_iload_n hx hb dX11_shaken_1 rfl (lv_at hl 1 rfl) ?_
  refine fn_goi (wc := [(x0, .inr (11, fx)), (t0, .inr (7, ft))]) (wr := []) hK hP hD hS hA [0, 1] [] rfl rfl (by decide) (fun hp => va_runV (C := RX11) (As := [.int p0]) (rest := []) ⟨hx, hb, hml, hown, hts⟩ (c_X11_noSeed (l := l) (D := D) (K := K) (x0 := (x0)) (p0 := (p0)) (fx := (fx)) (t0 := (t0)) (hx1 := hx1) (ft := (ft)) (ht0 := ht0) (ht3 := ht3) (ht4 := ht4) (ht5 := ht5) _) (cwV 1 hts (fn_ginV (fn_gin wd_1154) wd_1151 wd_1153 wp_86 wd_1) rfl rfl rfl (by decide +kernel) ⟨Nat.le_of_ble_eq_true rfl, Nat.le_of_ble_eq_true rfl⟩) ⟨fn_blind, va_recv hK.1 hP (ci := 11) (q0 := 0) rfl rfl, hp⟩ rfl rfl hl.1 rfl (lv_room (Nat.le_of_ble_eq_true rfl)) dX11_shaken_2 ⟨Nat.le_of_ble_eq_true rfl, Nat.le_of_ble_eq_true rfl⟩) (fun r2 u1 H locs hwu1 hP hD hS => ?_)
  have r2_e : r2 = 1 := hwu1
  subst r2_e
  have hP : va_P D vwCl [] H := hP
  have hD : va_D A [] := hD
  refine lv_if_eq (tgt := 13) hx hb dX11_shaken_5 (by decide) (fun h9 => absurd h9 (by decide)) (fun _ => ?_)
  refine lv_bipush (v := (-2)) hx hb dX11_shaken_8 (by decide) ?_
  refine lv_goto (tgt := 22) hx hb dX11_shaken_10 (by decide) ?_
  exact fn_iret hx hb hr hlocks rfl hP hD hS () (by first | rfl | decide) [] (by decide) rfl dX11_shaken_22
theorem dX11_years_0 : decode cX11_years 0 = .ok (.aload_n 0, 1) := by decide +kernel
theorem dX11_years_1 : decode cX11_years 1 = .ok (.iload_n 1, 1) := by decide +kernel
theorem dX11_years_2 : decode cX11_years 2 = .ok (.invokevirtual 417, 3) := by decide +kernel
theorem dX11_years_5 : decode cX11_years 5 = .ok (.ifCond .ne 25, 3) := by decide +kernel
theorem dX11_years_30 : decode cX11_years 30 = .ok (.bipush (-2), 2) := by decide +kernel
theorem dX11_years_32 : decode cX11_years 32 = .ok (.ireturn, 1) := by decide +kernel
set_option maxHeartbeats 4000000 in
set_option maxRecDepth 100000 in
theorem c_X11_years (l : Launch) (D : va_G) (K : Nat → ClassId) (t0 : Nat) (ft : List Value) (ht0 : ft[0]? = some (.int 0)) (ht3 : ft[3]? = some (.int 0)) (ht4 : ft[4]? = some (.int 0)) (ht5 : ft[5]? = some (.int 0)) (x0 : Nat) (fx : List Value) (hx1 : fx[1]? = some (.ref t0)) (p0 p1 p2 : Int32) : fn_CI (S := Unit) l D K yX11_years (fn_ws yX11_years cX11_years 6 (some .int)) ({ frames := 12, cells := 0, slots := 0, locals := 300 }) [.ref x0, .int p0, .int p1, .int p2] [(x0, .inr (11, fx)), (t0, .inr (7, ft))] (fun r _ => r = (-2)) (fun _ => []) 0 0 := by
  refine fn_inI (cc := cX11_years) (maxL := 6) (ret := (some .int)) (by decide) rfl (Nat.le_of_ble_eq_true rfl) ?_
  intro p e s m below meth c A ls B hA hP hD hS hl
  obtain ⟨hx, hb, hr, hml, hts, hown, hlocks, hin, hK⟩ := B
  have hown : s.vm.findClass RX11 = some m.cls := hown
  have hts := fun w h => hts w (List.mem_cons_of_mem _ h)
  have hl : lv_has ls 6 [(0, .ref x0), (1, .int p0), (2, .int p1), (3, .int p2)] := hl
  refine lv_aload_n hx hb dX11_years_0 rfl (lv_at hl 0 rfl) ?_
  refine lv_iload_n hx hb dX11_years_1 rfl (lv_at hl 1 rfl) ?_
  refine fn_goi (wc := [(x0, .inr (11, fx)), (t0, .inr (7, ft))]) (wr := []) hK hP hD hS hA [0, 1] [] rfl rfl (by decide) (fun hp => va_runV (C := RX11) (As := [.int p0]) (rest := []) ⟨hx, hb, hml, hown, hts⟩ (c_X11_noSeed (l := l) (D := D) (K := K) (x0 := (x0)) (p0 := (p0)) (fx := (fx)) (t0 := (t0)) (hx1 := hx1) (ft := (ft)) (ht0 := ht0) (ht3 := ht3) (ht4 := ht4) (ht5 := ht5) _) (cwV 1 hts (fn_ginV (fn_gin wd_1154) wd_1151 wd_1153 wp_86 wd_1) rfl rfl rfl (by decide +kernel) ⟨Nat.le_of_ble_eq_true rfl, Nat.le_of_ble_eq_true rfl⟩) ⟨fn_blind, va_recv hK.1 hP (ci := 11) (q0 := 0) rfl rfl, hp⟩ rfl rfl hl.1 rfl (lv_room (Nat.le_of_ble_eq_true rfl)) dX11_years_2 ⟨Nat.le_of_ble_eq_true rfl, Nat.le_of_ble_eq_true rfl⟩) (fun r2 u1 H locs hwu1 hP hD hS => ?_)
  have r2_e : r2 = 1 := hwu1
  subst r2_e
  have hP : va_P D vwCl [] H := hP
  have hD : va_D A [] := hD
  refine lv_if_ne (tgt := 30) hx hb dX11_years_5 (by decide) (fun _ => ?_) (fun h9 => absurd h9 (by decide))
  refine lv_bipush (v := (-2)) hx hb dX11_years_30 (by decide) ?_
  exact fn_iret hx hb hr hlocks rfl hP hD hS () (by first | rfl | decide) [] (by decide) rfl dX11_years_32
theorem dX11_third_0 : decode cX11_third 0 = .ok (.aload_n 0, 1) := by decide +kernel
theorem dX11_third_1 : decode cX11_third 1 = .ok (.iload_n 1, 1) := by decide +kernel
theorem dX11_third_2 : decode cX11_third 2 = .ok (.iload_n 2, 1) := by decide +kernel
theorem dX11_third_3 : decode cX11_third 3 = .ok (.invokevirtual 398, 3) := by decide +kernel
theorem dX11_third_6 : decode cX11_third 6 = .ok (.istore_n 3, 1) := by decide +kernel
theorem dX11_third_7 : decode cX11_third 7 = .ok (.iload_n 3, 1) := by decide +kernel
theorem dX11_third_8 : decode cX11_third 8 = .ok (.ifCond .ge 5, 3) := by decide +kernel
theorem dX11_third_11 : decode cX11_third 11 = .ok (.iload_n 3, 1) := by decide +kernel
theorem dX11_third_12 : decode cX11_third 12 = .ok (.ireturn, 1) := by decide +kernel
set_option maxHeartbeats 4000000 in
set_option maxRecDepth 100000 in
theorem c_X11_third (l : Launch) (D : va_G) (K : Nat → ClassId) (t0 : Nat) (ft : List Value) (ht0 : ft[0]? = some (.int 0)) (ht3 : ft[3]? = some (.int 0)) (ht4 : ft[4]? = some (.int 0)) (ht5 : ft[5]? = some (.int 0)) (x0 : Nat) (fx : List Value) (hx1 : fx[1]? = some (.ref t0)) (p0 p1 : Int32) : fn_CI (S := Unit) l D K yX11_third (fn_ws yX11_third cX11_third 8 (some .int)) ({ frames := 16, cells := 0, slots := 0, locals := 400 }) [.ref x0, .int p0, .int p1] [(x0, .inr (11, fx)), (t0, .inr (7, ft))] (fun r _ => r = (-2)) (fun _ => []) 0 0 := by
  refine fn_inI (cc := cX11_third) (maxL := 8) (ret := (some .int)) (by decide) rfl (Nat.le_of_ble_eq_true rfl) ?_
  intro p e s m below meth c A ls B hA hP hD hS hl
  obtain ⟨hx, hb, hr, hml, hts, hown, hlocks, hin, hK⟩ := B
  have hown : s.vm.findClass RX11 = some m.cls := hown
  have hts := fun w h => hts w (List.mem_cons_of_mem _ h)
  have hl : lv_has ls 8 [(0, .ref x0), (1, .int p0), (2, .int p1)] := hl
  refine lv_aload_n hx hb dX11_third_0 rfl (lv_at hl 0 rfl) ?_
  refine lv_iload_n hx hb dX11_third_1 rfl (lv_at hl 1 rfl) ?_
  refine lv_iload_n hx hb dX11_third_2 rfl (lv_at hl 2 rfl) ?_
  refine fn_goi (wc := [(x0, .inr (11, fx)), (t0, .inr (7, ft))]) (wr := []) hK hP hD hS hA [0, 1] [] rfl rfl (by decide) (fun hp => va_runV (C := RX11) (As := [.int p0, .int p1]) (rest := []) ⟨hx, hb, hml, hown, hts⟩ (c_X11_meets (l := l) (D := D) (K := K) (x0 := (x0)) (p0 := (p0)) (p1 := (p1)) (fx := (fx)) (t0 := (t0)) (hx1 := hx1) (ft := (ft)) (ht0 := ht0) (ht3 := ht3) (ht4 := ht4) (ht5 := ht5) _) (cwV 2 hts (fn_ginV (fn_gin wd_1096) wd_1109 wd_1094 wd_1095 wd_1) rfl rfl rfl (by decide +kernel) ⟨Nat.le_of_ble_eq_true rfl, Nat.le_of_ble_eq_true rfl⟩) ⟨fn_blind, va_recv hK.1 hP (ci := 11) (q0 := 0) rfl rfl, hp⟩ rfl rfl hl.1 rfl (lv_room (Nat.le_of_ble_eq_true rfl)) dX11_third_3 ⟨Nat.le_of_ble_eq_true rfl, Nat.le_of_ble_eq_true rfl⟩) (fun r2 u1 H locs hwu1 hP hD hS => ?_)
  have r2_e : r2 = (-2) := hwu1
  subst r2_e
  have hP : va_P D vwCl [] H := hP
  have hD : va_D A [] := hD
  refine lv_istore_n (lv' := [(3, .int (-2)), (0, .ref x0), (1, .int p0), (2, .int p1)]) hx hb dX11_third_6 rfl hl (by decide) rfl (fun ls hl => ?_)
  refine lv_iload_n hx hb dX11_third_7 rfl (lv_at hl 0 rfl) ?_
  refine lv_if_ge (tgt := 13) hx hb dX11_third_8 (by decide) (fun h9 => absurd h9 (by decide)) (fun _ => ?_)
  refine lv_iload_n hx hb dX11_third_11 rfl (lv_at hl 0 rfl) ?_
  exact fn_iret hx hb hr hlocks rfl hP hD hS () (by first | rfl | decide) [] (by decide) rfl dX11_third_12
end
section
theorem dX12_in_0 : decode cX12_in 0 = .ok (.lload_n 0, 1) := by decide +kernel
theorem dX12_in_1 : decode cX12_in 1 = .ok (.lload_n 2, 1) := by decide +kernel
theorem dX12_in_2 : decode cX12_in 2 = .ok (.lcmp, 1) := by decide +kernel
theorem dX12_in_3 : decode cX12_in 3 = .ok (.ifCond .lt 14, 3) := by decide +kernel
theorem dX12_in_17 : decode cX12_in 17 = .ok (.iconst 0, 1) := by decide +kernel
theorem dX12_in_18 : decode cX12_in 18 = .ok (.ireturn, 1) := by decide +kernel
theorem dX12_in_6 : decode cX12_in 6 = .ok (.lload_n 0, 1) := by decide +kernel
theorem dX12_in_7 : decode cX12_in 7 = .ok (.lload 4, 2) := by decide +kernel
theorem dX12_in_9 : decode cX12_in 9 = .ok (.lcmp, 1) := by decide +kernel
theorem dX12_in_10 : decode cX12_in 10 = .ok (.ifCond .gt 7, 3) := by decide +kernel
theorem dX12_in_13 : decode cX12_in 13 = .ok (.iconst 1, 1) := by decide +kernel
theorem dX12_in_14 : decode cX12_in 14 = .ok (.goto 4, 3) := by decide +kernel
set_option maxHeartbeats 4000000 in
set_option maxRecDepth 100000 in
theorem c_X12_in (l : Launch) (D : va_G) (K : Nat → ClassId) (v0 v1 v2 : Int64) : fn_CI (S := Unit) l D K yX12_in (fn_ws yX12_in cX12_in 6 (some .boolean)) ({ frames := 4, cells := 0, slots := 0, locals := 100 }) [.long v0, .long v1, .long v2] [] (fun r _ => r = fn_rng v0 v1 v2) (fun _ => []) 0 0 := by
  refine fn_inI (cc := cX12_in) (maxL := 6) (ret := (some .boolean)) (by decide) rfl (Nat.le_of_ble_eq_true rfl) ?_
  intro p e s m below meth c A ls B hA hP hD hS hl
  obtain ⟨hx, hb, hr, hml, hts, hown, hlocks, hin, hK⟩ := B
  have hown : s.vm.findClass RX12 = some m.cls := hown
  have hts := fun w h => hts w (List.mem_cons_of_mem _ h)
  have hl : lv_has ls 6 [(0, .long v0), (2, .long v1), (4, .long v2)] := hl
  refine lv_lload_n hx hb dX12_in_0 rfl (lv_at hl 0 rfl) ?_
  refine lv_lload_n hx hb dX12_in_1 rfl (lv_at hl 1 rfl) ?_
  refine W.lcmp hx hb dX12_in_2 ?_
  refine lv_if_lt (tgt := 17) hx hb dX12_in_3 (by decide) (fun c3 => ?_) (fun c3 => ?_)
  · refine lv_iconst (v := 0) hx hb dX12_in_17 (by decide) ?_
    exact fn_iret hx hb hr hlocks rfl hP hD hS () (by first | exact fn_rng_1 c3 c10 | exact fn_rng_0a c3 | exact fn_rng_0b c10) [] (by decide) rfl dX12_in_18
  · refine lv_lload_n hx hb dX12_in_6 rfl (lv_at hl 0 rfl) ?_
    refine lv_lload hx hb dX12_in_7 (lv_at hl 2 rfl) ?_
    refine W.lcmp hx hb dX12_in_9 ?_
    refine lv_if_gt (tgt := 17) hx hb dX12_in_10 (by decide) (fun c10 => ?_) (fun c10 => ?_)
    · refine lv_iconst (v := 0) hx hb dX12_in_17 (by decide) ?_
      exact fn_iret hx hb hr hlocks rfl hP hD hS () (by first | exact fn_rng_1 c3 c10 | exact fn_rng_0a c3 | exact fn_rng_0b c10) [] (by decide) rfl dX12_in_18
    · refine lv_iconst (v := 1) hx hb dX12_in_13 (by decide) ?_
      refine lv_goto (tgt := 18) hx hb dX12_in_14 (by decide) ?_
      exact fn_iret hx hb hr hlocks rfl hP hD hS () (by first | exact fn_rng_1 c3 c10 | exact fn_rng_0a c3 | exact fn_rng_0b c10) [] (by decide) rfl dX12_in_18
set_option maxHeartbeats 4000000 in
set_option maxRecDepth 100000 in
theorem c_X12_in_no (l : Launch) (D : va_G) (K : Nat → ClassId) (v0 : Int64) : fn_CI (S := Unit) l D K yX12_in (fn_ws yX12_in cX12_in 6 (some .boolean)) ({ frames := 4, cells := 0, slots := 0, locals := 100 }) [.long v0, .long 0, .long (-1)] [] (fun r _ => r = 0) (fun _ => []) 0 0 := by
  refine fn_inI (cc := cX12_in) (maxL := 6) (ret := (some .boolean)) (by decide) rfl (Nat.le_of_ble_eq_true rfl) ?_
  intro p e s m below meth c A ls B hA hP hD hS hl
  obtain ⟨hx, hb, hr, hml, hts, hown, hlocks, hin, hK⟩ := B
  have hown : s.vm.findClass RX12 = some m.cls := hown
  have hts := fun w h => hts w (List.mem_cons_of_mem _ h)
  have hl : lv_has ls 6 [(0, .long v0), (2, .long 0), (4, .long (-1))] := hl
  refine lv_lload_n hx hb dX12_in_0 rfl (lv_at hl 0 rfl) ?_
  refine lv_lload_n hx hb dX12_in_1 rfl (lv_at hl 1 rfl) ?_
  refine W.lcmp hx hb dX12_in_2 ?_
  refine lv_if_lt (tgt := 17) hx hb dX12_in_3 (by decide) (fun c3 => ?_) (fun c3 => ?_)
  · refine lv_iconst (v := 0) hx hb dX12_in_17 (by decide) ?_
    exact fn_iret hx hb hr hlocks rfl hP hD hS () (by first | rfl | decide) [] (by decide) rfl dX12_in_18
  · refine lv_lload_n hx hb dX12_in_6 rfl (lv_at hl 0 rfl) ?_
    refine lv_lload hx hb dX12_in_7 (lv_at hl 2 rfl) ?_
    refine W.lcmp hx hb dX12_in_9 ?_
    refine lv_if_gt (tgt := 17) hx hb dX12_in_10 (by decide) (fun c10 => ?_) (fun h9 => absurd (fn_cmp_no c3) h9)
    refine lv_iconst (v := 0) hx hb dX12_in_17 (by decide) ?_
    exact fn_iret hx hb hr hlocks rfl hP hD hS () (by first | rfl | decide) [] (by decide) rfl dX12_in_18
theorem dX12_isPage_0 : decode cX12_isPage 0 = .ok (.lload_n 1, 1) := by decide +kernel
theorem dX12_isPage_1 : decode cX12_isPage 1 = .ok (.lconst 0, 1) := by decide +kernel
theorem dX12_isPage_2 : decode cX12_isPage 2 = .ok (.aload_n 0, 1) := by decide +kernel
theorem dX12_isPage_3 : decode cX12_isPage 3 = .ok (.getfield 34, 3) := by decide +kernel
theorem dX12_isPage_6 : decode cX12_isPage 6 = .ok (.iconst 3, 1) := by decide +kernel
theorem dX12_isPage_7 : decode cX12_isPage 7 = .ok (.iaload, 1) := by decide +kernel
theorem dX12_isPage_8 : decode cX12_isPage 8 = .ok (.i2l, 1) := by decide +kernel
theorem dX12_isPage_9 : decode cX12_isPage 9 = .ok (.lconst 1, 1) := by decide +kernel
theorem dX12_isPage_10 : decode cX12_isPage 10 = .ok (.lsub, 1) := by decide +kernel
theorem dX12_isPage_11 : decode cX12_isPage 11 = .ok (.invokestatic 109, 3) := by decide +kernel
theorem dX12_isPage_14 : decode cX12_isPage 14 = .ok (.ireturn, 1) := by decide +kernel
set_option maxHeartbeats 4000000 in
set_option maxRecDepth 100000 in
theorem c_X12_isPage (l : Launch) (D : va_G) (K : Nat → ClassId) (m0 al ah : Nat) (fm : List Value) (hmn : fm.length = 51) (hm16 : fm[16]? = some (.ref al)) (hm17 : fm[17]? = some (.ref ah)) (fl fh : Nat → Int32) (hfl : ∀ j, fl j = 0) (hfh : ∀ j, fh j = 0) (p0 : Int64) : fn_CI (S := Unit) l D K yX12_isPage (fn_ws yX12_isPage cX12_isPage 3 (some .boolean)) ({ frames := 8, cells := 0, slots := 0, locals := 200 }) [.ref m0, .long p0] [(m0, .inr (12, fm)), (al, .inl (K 0, 5, .inl fl)), (ah, .inl (K 0, 40, .inl fh))] (fun r _ => r = 0) (fun _ => []) 0 0 := by
  refine fn_inI (cc := cX12_isPage) (maxL := 3) (ret := (some .boolean)) (by decide) rfl (Nat.le_of_ble_eq_true rfl) ?_
  intro p e s m below meth c A ls B hA hP hD hS hl
  obtain ⟨hx, hb, hr, hml, hts, hown, hlocks, hin, hK⟩ := B
  have hown : s.vm.findClass RX12 = some m.cls := hown
  have hts := fun w h => hts w (List.mem_cons_of_mem _ h)
  have hl : lv_has ls 3 [(0, .ref m0), (1, .long p0)] := hl
  refine lv_lload_n hx hb dX12_isPage_0 rfl (lv_at hl 1 rfl) ?_
  refine lv_lconst (v := 0) hx hb dX12_isPage_1 (by decide) ?_
  refine lv_aload_n hx hb dX12_isPage_2 rfl (lv_at hl 0 rfl) ?_
  refine va_get (D := D) (own := RX12) (ci := 12) (v := .ref ah) (C := RX12) (T := TX12) (N := 51) hx hb hts inb_X12 hown hK.1 hP 0 rfl rfl 17 (by decide) (hts _ wd_1251) (fun _ h9 => h9) hm17 dX12_isPage_3 ?_
  refine lv_iconst (v := 3) hx hb dX12_isPage_6 (by decide) ?_
  refine va_iald hx hb hK.1 hP 2 0 rfl rfl (by unfold vp_in; decide) dX12_isPage_7 ?_
  refine fn_top 0 (hfh _) ?_
  refine lv_i2l (v := 0) hx hb dX12_isPage_8 (by decide) ?_
  refine lv_lconst (v := 1) hx hb dX12_isPage_9 (by decide) ?_
  refine lv_lsub hx hb dX12_isPage_10 ?_
  refine fn_topl (-1) (by decide) ?_
  refine fn_goi (wc := []) (wr := [(m0, .inr (12, fm)), (al, .inl (K 0, 5, .inl fl)), (ah, .inl (K 0, 40, .inl fh))]) hK hP hD hS hA [] [0, 1, 2] rfl rfl (by decide) (fun hp => va_runS (As := [.long p0, .long 0, .long (-1)]) (rest := []) ⟨hx, hb, hml, hown, hts⟩ (c_X12_in_no (l := l) (D := D) (K := K) (v0 := (p0)) _) (va_cwS 3 hts (fn_ginS (fn_gin wd_1398) wd_1396 wd_1397 wd_13) rfl rfl rfl (by decide +kernel) ⟨Nat.le_of_ble_eq_true rfl, Nat.le_of_ble_eq_true rfl⟩) ⟨fn_blind, hp⟩ rfl rfl hl.1 rfl (lv_room (Nat.le_of_ble_eq_true rfl)) dX12_isPage_11 ⟨Nat.le_of_ble_eq_true rfl, Nat.le_of_ble_eq_true rfl⟩) (fun r2 u1 H locs hwu1 hP hD hS => ?_)
  have r2_e : r2 = 0 := hwu1
  subst r2_e
  have hP : va_P D vwCl [(m0, .inr (12, fm)), (al, .inl (K 0, 5, .inl fl)), (ah, .inl (K 0, 40, .inl fh))] H := hP
  have hD : va_D A [(m0, .inr (12, fm)), (al, .inl (K 0, 5, .inl fl)), (ah, .inl (K 0, 40, .inl fh))] := hD
  exact fn_iret hx hb hr hlocks rfl hP hD hS () (by first | rfl | decide) [] (by decide) rfl dX12_isPage_14
theorem dX12_isBook_0 : decode cX12_isBook 0 = .ok (.iload_n 1, 1) := by decide +kernel
theorem dX12_isBook_1 : decode cX12_isBook 1 = .ok (.i2l, 1) := by decide +kernel
theorem dX12_isBook_2 : decode cX12_isBook 2 = .ok (.lconst 0, 1) := by decide +kernel
theorem dX12_isBook_3 : decode cX12_isBook 3 = .ok (.aload_n 0, 1) := by decide +kernel
theorem dX12_isBook_4 : decode cX12_isBook 4 = .ok (.getfield 34, 3) := by decide +kernel
theorem dX12_isBook_7 : decode cX12_isBook 7 = .ok (.iconst 2, 1) := by decide +kernel
theorem dX12_isBook_8 : decode cX12_isBook 8 = .ok (.iaload, 1) := by decide +kernel
theorem dX12_isBook_9 : decode cX12_isBook 9 = .ok (.iconst 1, 1) := by decide +kernel
theorem dX12_isBook_10 : decode cX12_isBook 10 = .ok (.isub, 1) := by decide +kernel
theorem dX12_isBook_11 : decode cX12_isBook 11 = .ok (.i2l, 1) := by decide +kernel
theorem dX12_isBook_12 : decode cX12_isBook 12 = .ok (.invokestatic 109, 3) := by decide +kernel
theorem dX12_isBook_15 : decode cX12_isBook 15 = .ok (.ireturn, 1) := by decide +kernel
set_option maxHeartbeats 4000000 in
set_option maxRecDepth 100000 in
theorem c_X12_isBook (l : Launch) (D : va_G) (K : Nat → ClassId) (m0 al ah : Nat) (fm : List Value) (hmn : fm.length = 51) (hm16 : fm[16]? = some (.ref al)) (hm17 : fm[17]? = some (.ref ah)) (fl fh : Nat → Int32) (hfl : ∀ j, fl j = 0) (hfh : ∀ j, fh j = 0) (p0 : Int32) : fn_CI (S := Unit) l D K yX12_isBook (fn_ws yX12_isBook cX12_isBook 2 (some .boolean)) ({ frames := 8, cells := 0, slots := 0, locals := 200 }) [.ref m0, .int p0] [(m0, .inr (12, fm)), (al, .inl (K 0, 5, .inl fl)), (ah, .inl (K 0, 40, .inl fh))] (fun r _ => r = 0) (fun _ => []) 0 0 := by
  refine fn_inI (cc := cX12_isBook) (maxL := 2) (ret := (some .boolean)) (by decide) rfl (Nat.le_of_ble_eq_true rfl) ?_
  intro p e s m below meth c A ls B hA hP hD hS hl
  obtain ⟨hx, hb, hr, hml, hts, hown, hlocks, hin, hK⟩ := B
  have hown : s.vm.findClass RX12 = some m.cls := hown
  have hts := fun w h => hts w (List.mem_cons_of_mem _ h)
  have hl : lv_has ls 2 [(0, .ref m0), (1, .int p0)] := hl
  refine lv_iload_n hx hb dX12_isBook_0 rfl (lv_at hl 1 rfl) ?_
  refine lv_i2l hx hb dX12_isBook_1 rfl ?_
  refine lv_lconst (v := 0) hx hb dX12_isBook_2 (by decide) ?_
  refine lv_aload_n hx hb dX12_isBook_3 rfl (lv_at hl 0 rfl) ?_
  refine va_get (D := D) (own := RX12) (ci := 12) (v := .ref ah) (C := RX12) (T := TX12) (N := 51) hx hb hts inb_X12 hown hK.1 hP 0 rfl rfl 17 (by decide) (hts _ wd_1251) (fun _ h9 => h9) hm17 dX12_isBook_4 ?_
  refine lv_iconst (v := 2) hx hb dX12_isBook_7 (by decide) ?_
  refine va_iald hx hb hK.1 hP 2 0 rfl rfl (by unfold vp_in; decide) dX12_isBook_8 ?_
  refine fn_top 0 (hfh _) ?_
  refine lv_iconst (v := 1) hx hb dX12_isBook_9 (by decide) ?_
  refine lv_isub hx hb dX12_isBook_10 ?_
  refine fn_top (-1) (by decide) ?_
  refine lv_i2l (v := (-1)) hx hb dX12_isBook_11 (by decide) ?_
  refine fn_goi (wc := []) (wr := [(m0, .inr (12, fm)), (al, .inl (K 0, 5, .inl fl)), (ah, .inl (K 0, 40, .inl fh))]) hK hP hD hS hA [] [0, 1, 2] rfl rfl (by decide) (fun hp => va_runS (As := [.long (Int32.toInt64 p0), .long 0, .long (-1)]) (rest := []) ⟨hx, hb, hml, hown, hts⟩ (c_X12_in_no (l := l) (D := D) (K := K) (v0 := ((Int32.toInt64 p0))) _) (va_cwS 3 hts (fn_ginS (fn_gin wd_1398) wd_1396 wd_1397 wd_13) rfl rfl rfl (by decide +kernel) ⟨Nat.le_of_ble_eq_true rfl, Nat.le_of_ble_eq_true rfl⟩) ⟨fn_blind, hp⟩ rfl rfl hl.1 rfl (lv_room (Nat.le_of_ble_eq_true rfl)) dX12_isBook_12 ⟨Nat.le_of_ble_eq_true rfl, Nat.le_of_ble_eq_true rfl⟩) (fun r2 u1 H locs hwu1 hP hD hS => ?_)
  have r2_e : r2 = 0 := hwu1
  subst r2_e
  have hP : va_P D vwCl [(m0, .inr (12, fm)), (al, .inl (K 0, 5, .inl fl)), (ah, .inl (K 0, 40, .inl fh))] H := hP
  have hD : va_D A [(m0, .inr (12, fm)), (al, .inl (K 0, 5, .inl fl)), (ah, .inl (K 0, 40, .inl fh))] := hD
  exact fn_iret hx hb hr hlocks rfl hP hD hS () (by first | rfl | decide) [] (by decide) rfl dX12_isBook_15
theorem dX12_isNote_0 : decode cX12_isNote 0 = .ok (.iload_n 1, 1) := by decide +kernel
theorem dX12_isNote_1 : decode cX12_isNote 1 = .ok (.i2l, 1) := by decide +kernel
theorem dX12_isNote_2 : decode cX12_isNote 2 = .ok (.lconst 0, 1) := by decide +kernel
theorem dX12_isNote_3 : decode cX12_isNote 3 = .ok (.aload_n 0, 1) := by decide +kernel
theorem dX12_isNote_4 : decode cX12_isNote 4 = .ok (.getfield 34, 3) := by decide +kernel
theorem dX12_isNote_7 : decode cX12_isNote 7 = .ok (.iconst 4, 1) := by decide +kernel
theorem dX12_isNote_8 : decode cX12_isNote 8 = .ok (.iaload, 1) := by decide +kernel
theorem dX12_isNote_9 : decode cX12_isNote 9 = .ok (.iconst 1, 1) := by decide +kernel
theorem dX12_isNote_10 : decode cX12_isNote 10 = .ok (.isub, 1) := by decide +kernel
theorem dX12_isNote_11 : decode cX12_isNote 11 = .ok (.i2l, 1) := by decide +kernel
theorem dX12_isNote_12 : decode cX12_isNote 12 = .ok (.invokestatic 109, 3) := by decide +kernel
theorem dX12_isNote_15 : decode cX12_isNote 15 = .ok (.ireturn, 1) := by decide +kernel
set_option maxHeartbeats 4000000 in
set_option maxRecDepth 100000 in
theorem c_X12_isNote (l : Launch) (D : va_G) (K : Nat → ClassId) (m0 al ah : Nat) (fm : List Value) (hmn : fm.length = 51) (hm16 : fm[16]? = some (.ref al)) (hm17 : fm[17]? = some (.ref ah)) (fl fh : Nat → Int32) (hfl : ∀ j, fl j = 0) (hfh : ∀ j, fh j = 0) (p0 : Int32) : fn_CI (S := Unit) l D K yX12_isNote (fn_ws yX12_isNote cX12_isNote 2 (some .boolean)) ({ frames := 8, cells := 0, slots := 0, locals := 200 }) [.ref m0, .int p0] [(m0, .inr (12, fm)), (al, .inl (K 0, 5, .inl fl)), (ah, .inl (K 0, 40, .inl fh))] (fun r _ => r = 0) (fun _ => []) 0 0 := by
  refine fn_inI (cc := cX12_isNote) (maxL := 2) (ret := (some .boolean)) (by decide) rfl (Nat.le_of_ble_eq_true rfl) ?_
  intro p e s m below meth c A ls B hA hP hD hS hl
  obtain ⟨hx, hb, hr, hml, hts, hown, hlocks, hin, hK⟩ := B
  have hown : s.vm.findClass RX12 = some m.cls := hown
  have hts := fun w h => hts w (List.mem_cons_of_mem _ h)
  have hl : lv_has ls 2 [(0, .ref m0), (1, .int p0)] := hl
  refine lv_iload_n hx hb dX12_isNote_0 rfl (lv_at hl 1 rfl) ?_
  refine lv_i2l hx hb dX12_isNote_1 rfl ?_
  refine lv_lconst (v := 0) hx hb dX12_isNote_2 (by decide) ?_
  refine lv_aload_n hx hb dX12_isNote_3 rfl (lv_at hl 0 rfl) ?_
  refine va_get (D := D) (own := RX12) (ci := 12) (v := .ref ah) (C := RX12) (T := TX12) (N := 51) hx hb hts inb_X12 hown hK.1 hP 0 rfl rfl 17 (by decide) (hts _ wd_1251) (fun _ h9 => h9) hm17 dX12_isNote_4 ?_
  refine lv_iconst (v := 4) hx hb dX12_isNote_7 (by decide) ?_
  refine va_iald hx hb hK.1 hP 2 0 rfl rfl (by unfold vp_in; decide) dX12_isNote_8 ?_
  refine fn_top 0 (hfh _) ?_
  refine lv_iconst (v := 1) hx hb dX12_isNote_9 (by decide) ?_
  refine lv_isub hx hb dX12_isNote_10 ?_
  refine fn_top (-1) (by decide) ?_
  refine lv_i2l (v := (-1)) hx hb dX12_isNote_11 (by decide) ?_
  refine fn_goi (wc := []) (wr := [(m0, .inr (12, fm)), (al, .inl (K 0, 5, .inl fl)), (ah, .inl (K 0, 40, .inl fh))]) hK hP hD hS hA [] [0, 1, 2] rfl rfl (by decide) (fun hp => va_runS (As := [.long (Int32.toInt64 p0), .long 0, .long (-1)]) (rest := []) ⟨hx, hb, hml, hown, hts⟩ (c_X12_in_no (l := l) (D := D) (K := K) (v0 := ((Int32.toInt64 p0))) _) (va_cwS 3 hts (fn_ginS (fn_gin wd_1398) wd_1396 wd_1397 wd_13) rfl rfl rfl (by decide +kernel) ⟨Nat.le_of_ble_eq_true rfl, Nat.le_of_ble_eq_true rfl⟩) ⟨fn_blind, hp⟩ rfl rfl hl.1 rfl (lv_room (Nat.le_of_ble_eq_true rfl)) dX12_isNote_12 ⟨Nat.le_of_ble_eq_true rfl, Nat.le_of_ble_eq_true rfl⟩) (fun r2 u1 H locs hwu1 hP hD hS => ?_)
  have r2_e : r2 = 0 := hwu1
  subst r2_e
  have hP : va_P D vwCl [(m0, .inr (12, fm)), (al, .inl (K 0, 5, .inl fl)), (ah, .inl (K 0, 40, .inl fh))] H := hP
  have hD : va_D A [(m0, .inr (12, fm)), (al, .inl (K 0, 5, .inl fl)), (ah, .inl (K 0, 40, .inl fh))] := hD
  exact fn_iret hx hb hr hlocks rfl hP hD hS () (by first | rfl | decide) [] (by decide) rfl dX12_isNote_15
theorem dX12_isTown_0 : decode cX12_isTown 0 = .ok (.aload_n 0, 1) := by decide +kernel
theorem dX12_isTown_1 : decode cX12_isTown 1 = .ok (.getfield 31, 3) := by decide +kernel
theorem dX12_isTown_4 : decode cX12_isTown 4 = .ok (.iconst 0, 1) := by decide +kernel
theorem dX12_isTown_5 : decode cX12_isTown 5 = .ok (.iaload, 1) := by decide +kernel
theorem dX12_isTown_6 : decode cX12_isTown 6 = .ok (.ifCond .le 7, 3) := by decide +kernel
theorem dX12_isTown_13 : decode cX12_isTown 13 = .ok (.iconst 0, 1) := by decide +kernel
theorem dX12_isTown_14 : decode cX12_isTown 14 = .ok (.ireturn, 1) := by decide +kernel
set_option maxHeartbeats 4000000 in
set_option maxRecDepth 100000 in
theorem c_X12_isTown (l : Launch) (D : va_G) (K : Nat → ClassId) (m0 al ah : Nat) (fm : List Value) (hmn : fm.length = 51) (hm16 : fm[16]? = some (.ref al)) (hm17 : fm[17]? = some (.ref ah)) (fl fh : Nat → Int32) (hfl : ∀ j, fl j = 0) (hfh : ∀ j, fh j = 0) : fn_CI (S := Unit) l D K yX12_isTown (fn_ws yX12_isTown cX12_isTown 1 (some .boolean)) ({ frames := 8, cells := 0, slots := 0, locals := 200 }) [.ref m0] [(m0, .inr (12, fm)), (al, .inl (K 0, 5, .inl fl)), (ah, .inl (K 0, 40, .inl fh))] (fun r _ => r = 0) (fun _ => []) 0 0 := by
  refine fn_inI (cc := cX12_isTown) (maxL := 1) (ret := (some .boolean)) (by decide) rfl (Nat.le_of_ble_eq_true rfl) ?_
  intro p e s m below meth c A ls B hA hP hD hS hl
  obtain ⟨hx, hb, hr, hml, hts, hown, hlocks, hin, hK⟩ := B
  have hown : s.vm.findClass RX12 = some m.cls := hown
  have hts := fun w h => hts w (List.mem_cons_of_mem _ h)
  have hl : lv_has ls 1 [(0, .ref m0)] := hl
  refine lv_aload_n hx hb dX12_isTown_0 rfl (lv_at hl 0 rfl) ?_
  refine va_get (D := D) (own := RX12) (ci := 12) (v := .ref al) (C := RX12) (T := TX12) (N := 51) hx hb hts inb_X12 hown hK.1 hP 0 rfl rfl 16 (by decide) (hts _ wd_1250) (fun _ h9 => h9) hm16 dX12_isTown_1 ?_
  refine lv_iconst (v := 0) hx hb dX12_isTown_4 (by decide) ?_
  refine va_iald hx hb hK.1 hP 1 0 rfl rfl (by unfold vp_in; decide) dX12_isTown_5 ?_
  refine fn_top 0 (hfl _) ?_
  refine lv_if_le (tgt := 13) hx hb dX12_isTown_6 (by decide) (fun _ => ?_) (fun h9 => absurd (by decide) h9)
  refine lv_iconst (v := 0) hx hb dX12_isTown_13 (by decide) ?_
  exact fn_iret hx hb hr hlocks rfl hP hD hS () (by first | rfl | decide) [] (by decide) rfl dX12_isTown_14
theorem dX12_areTwo_0 : decode cX12_areTwo 0 = .ok (.aload_n 0, 1) := by decide +kernel
theorem dX12_areTwo_1 : decode cX12_areTwo 1 = .ok (.iload_n 1, 1) := by decide +kernel
theorem dX12_areTwo_2 : decode cX12_areTwo 2 = .ok (.i2l, 1) := by decide +kernel
theorem dX12_areTwo_3 : decode cX12_areTwo 3 = .ok (.invokevirtual 262, 3) := by decide +kernel
theorem dX12_areTwo_6 : decode cX12_areTwo 6 = .ok (.ifCond .eq 21, 3) := by decide +kernel
theorem dX12_areTwo_27 : decode cX12_areTwo 27 = .ok (.iconst 0, 1) := by decide +kernel
theorem dX12_areTwo_28 : decode cX12_areTwo 28 = .ok (.ireturn, 1) := by decide +kernel
set_option maxHeartbeats 4000000 in
set_option maxRecDepth 100000 in
theorem c_X12_areTwo (l : Launch) (D : va_G) (K : Nat → ClassId) (m0 al ah : Nat) (fm : List Value) (hmn : fm.length = 51) (hm16 : fm[16]? = some (.ref al)) (hm17 : fm[17]? = some (.ref ah)) (fl fh : Nat → Int32) (hfl : ∀ j, fl j = 0) (hfh : ∀ j, fh j = 0) (p0 p1 : Int32) : fn_CI (S := Unit) l D K yX12_areTwo (fn_ws yX12_areTwo cX12_areTwo 3 (some .boolean)) ({ frames := 12, cells := 0, slots := 0, locals := 300 }) [.ref m0, .int p0, .int p1] [(m0, .inr (12, fm)), (al, .inl (K 0, 5, .inl fl)), (ah, .inl (K 0, 40, .inl fh))] (fun r _ => r = 0) (fun _ => []) 0 0 := by
  refine fn_inI (cc := cX12_areTwo) (maxL := 3) (ret := (some .boolean)) (by decide) rfl (Nat.le_of_ble_eq_true rfl) ?_
  intro p e s m below meth c A ls B hA hP hD hS hl
  obtain ⟨hx, hb, hr, hml, hts, hown, hlocks, hin, hK⟩ := B
  have hown : s.vm.findClass RX12 = some m.cls := hown
  have hts := fun w h => hts w (List.mem_cons_of_mem _ h)
  have hl : lv_has ls 3 [(0, .ref m0), (1, .int p0), (2, .int p1)] := hl
  refine lv_aload_n hx hb dX12_areTwo_0 rfl (lv_at hl 0 rfl) ?_
  refine lv_iload_n hx hb dX12_areTwo_1 rfl (lv_at hl 1 rfl) ?_
  refine lv_i2l hx hb dX12_areTwo_2 rfl ?_
  refine fn_goi (wc := [(m0, .inr (12, fm)), (al, .inl (K 0, 5, .inl fl)), (ah, .inl (K 0, 40, .inl fh))]) (wr := []) hK hP hD hS hA [0, 1, 2] [] rfl rfl (by decide) (fun hp => va_runV (C := RX12) (As := [.long (Int32.toInt64 p0)]) (rest := []) ⟨hx, hb, hml, hown, hts⟩ (c_X12_isPage (l := l) (D := D) (K := K) (m0 := (m0)) (p0 := ((Int32.toInt64 p0))) (fm := (fm)) (hmn := hmn) (al := (al)) (hm16 := hm16) (ah := (ah)) (hm17 := hm17) (fl := (fl)) (hfl := hfl) (fh := (fh)) (hfh := hfh) _) (cwV 1 hts (fn_ginV (fn_gin wd_1543) wd_1540 wd_1542 wp_116 wd_13) rfl rfl rfl (by decide +kernel) ⟨Nat.le_of_ble_eq_true rfl, Nat.le_of_ble_eq_true rfl⟩) ⟨fn_blind, va_recv hK.1 hP (ci := 12) (q0 := 0) rfl rfl, hp⟩ rfl rfl hl.1 rfl (lv_room (Nat.le_of_ble_eq_true rfl)) dX12_areTwo_3 ⟨Nat.le_of_ble_eq_true rfl, Nat.le_of_ble_eq_true rfl⟩) (fun r2 u1 H locs hwu1 hP hD hS => ?_)
  have r2_e : r2 = 0 := hwu1
  subst r2_e
  have hP : va_P D vwCl [] H := hP
  have hD : va_D A [] := hD
  refine lv_if_eq (tgt := 27) hx hb dX12_areTwo_6 (by decide) (fun _ => ?_) (fun h9 => absurd (by decide) h9)
  refine lv_iconst (v := 0) hx hb dX12_areTwo_27 (by decide) ?_
  exact fn_iret hx hb hr hlocks rfl hP hD hS () (by first | rfl | decide) [] (by decide) rfl dX12_areTwo_28
theorem dX12_isSet_0 : decode cX12_isSet 0 = .ok (.aload_n 0, 1) := by decide +kernel
theorem dX12_isSet_1 : decode cX12_isSet 1 = .ok (.invokevirtual 267, 3) := by decide +kernel
theorem dX12_isSet_4 : decode cX12_isSet 4 = .ok (.ifCond .eq 23, 3) := by decide +kernel
theorem dX12_isSet_27 : decode cX12_isSet 27 = .ok (.iconst 0, 1) := by decide +kernel
theorem dX12_isSet_28 : decode cX12_isSet 28 = .ok (.ireturn, 1) := by decide +kernel
set_option maxHeartbeats 4000000 in
set_option maxRecDepth 100000 in
theorem c_X12_isSet (l : Launch) (D : va_G) (K : Nat → ClassId) (m0 al ah : Nat) (fm : List Value) (hmn : fm.length = 51) (hm16 : fm[16]? = some (.ref al)) (hm17 : fm[17]? = some (.ref ah)) (fl fh : Nat → Int32) (hfl : ∀ j, fl j = 0) (hfh : ∀ j, fh j = 0) (p0 : Int32) : fn_CI (S := Unit) l D K yX12_isSet (fn_ws yX12_isSet cX12_isSet 2 (some .boolean)) ({ frames := 12, cells := 0, slots := 0, locals := 300 }) [.ref m0, .int p0] [(m0, .inr (12, fm)), (al, .inl (K 0, 5, .inl fl)), (ah, .inl (K 0, 40, .inl fh))] (fun r _ => r = 0) (fun _ => []) 0 0 := by
  refine fn_inI (cc := cX12_isSet) (maxL := 2) (ret := (some .boolean)) (by decide) rfl (Nat.le_of_ble_eq_true rfl) ?_
  intro p e s m below meth c A ls B hA hP hD hS hl
  obtain ⟨hx, hb, hr, hml, hts, hown, hlocks, hin, hK⟩ := B
  have hown : s.vm.findClass RX12 = some m.cls := hown
  have hts := fun w h => hts w (List.mem_cons_of_mem _ h)
  have hl : lv_has ls 2 [(0, .ref m0), (1, .int p0)] := hl
  refine lv_aload_n hx hb dX12_isSet_0 rfl (lv_at hl 0 rfl) ?_
  refine fn_goi (wc := [(m0, .inr (12, fm)), (al, .inl (K 0, 5, .inl fl)), (ah, .inl (K 0, 40, .inl fh))]) (wr := []) hK hP hD hS hA [0, 1, 2] [] rfl rfl (by decide) (fun hp => va_runV (C := RX12) (As := []) (rest := []) ⟨hx, hb, hml, hown, hts⟩ (c_X12_isTown (l := l) (D := D) (K := K) (m0 := (m0)) (fm := (fm)) (hmn := hmn) (al := (al)) (hm16 := hm16) (ah := (ah)) (hm17 := hm17) (fl := (fl)) (hfl := hfl) (fh := (fh)) (hfh := hfh) _) (cwV 0 hts (fn_ginV (fn_gin wd_1599) wd_1596 wd_1598 wp_124 wd_13) rfl rfl rfl (by decide +kernel) ⟨Nat.le_of_ble_eq_true rfl, Nat.le_of_ble_eq_true rfl⟩) ⟨fn_blind, va_recv hK.1 hP (ci := 12) (q0 := 0) rfl rfl, hp⟩ rfl rfl hl.1 rfl (lv_room (Nat.le_of_ble_eq_true rfl)) dX12_isSet_1 ⟨Nat.le_of_ble_eq_true rfl, Nat.le_of_ble_eq_true rfl⟩) (fun r2 u1 H locs hwu1 hP hD hS => ?_)
  have r2_e : r2 = 0 := hwu1
  subst r2_e
  have hP : va_P D vwCl [] H := hP
  have hD : va_D A [] := hD
  refine lv_if_eq (tgt := 27) hx hb dX12_isSet_4 (by decide) (fun _ => ?_) (fun h9 => absurd (by decide) h9)
  refine lv_iconst (v := 0) hx hb dX12_isSet_27 (by decide) ?_
  exact fn_iret hx hb hr hlocks rfl hP hD hS () (by first | rfl | decide) [] (by decide) rfl dX12_isSet_28
theorem dX12_isSeed_0 : decode cX12_isSeed 0 = .ok (.aload_n 0, 1) := by decide +kernel
theorem dX12_isSeed_1 : decode cX12_isSeed 1 = .ok (.invokevirtual 267, 3) := by decide +kernel
theorem dX12_isSeed_4 : decode cX12_isSeed 4 = .ok (.ifCond .eq 19, 3) := by decide +kernel
theorem dX12_isSeed_23 : decode cX12_isSeed 23 = .ok (.iconst 0, 1) := by decide +kernel
theorem dX12_isSeed_24 : decode cX12_isSeed 24 = .ok (.ireturn, 1) := by decide +kernel
set_option maxHeartbeats 4000000 in
set_option maxRecDepth 100000 in
theorem c_X12_isSeed (l : Launch) (D : va_G) (K : Nat → ClassId) (m0 al ah : Nat) (fm : List Value) (hmn : fm.length = 51) (hm16 : fm[16]? = some (.ref al)) (hm17 : fm[17]? = some (.ref ah)) (fl fh : Nat → Int32) (hfl : ∀ j, fl j = 0) (hfh : ∀ j, fh j = 0) (p0 : Int32) : fn_CI (S := Unit) l D K yX12_isSeed (fn_ws yX12_isSeed cX12_isSeed 2 (some .boolean)) ({ frames := 12, cells := 0, slots := 0, locals := 300 }) [.ref m0, .int p0] [(m0, .inr (12, fm)), (al, .inl (K 0, 5, .inl fl)), (ah, .inl (K 0, 40, .inl fh))] (fun r _ => r = 0) (fun _ => []) 0 0 := by
  refine fn_inI (cc := cX12_isSeed) (maxL := 2) (ret := (some .boolean)) (by decide) rfl (Nat.le_of_ble_eq_true rfl) ?_
  intro p e s m below meth c A ls B hA hP hD hS hl
  obtain ⟨hx, hb, hr, hml, hts, hown, hlocks, hin, hK⟩ := B
  have hown : s.vm.findClass RX12 = some m.cls := hown
  have hts := fun w h => hts w (List.mem_cons_of_mem _ h)
  have hl : lv_has ls 2 [(0, .ref m0), (1, .int p0)] := hl
  refine lv_aload_n hx hb dX12_isSeed_0 rfl (lv_at hl 0 rfl) ?_
  refine fn_goi (wc := [(m0, .inr (12, fm)), (al, .inl (K 0, 5, .inl fl)), (ah, .inl (K 0, 40, .inl fh))]) (wr := []) hK hP hD hS hA [0, 1, 2] [] rfl rfl (by decide) (fun hp => va_runV (C := RX12) (As := []) (rest := []) ⟨hx, hb, hml, hown, hts⟩ (c_X12_isTown (l := l) (D := D) (K := K) (m0 := (m0)) (fm := (fm)) (hmn := hmn) (al := (al)) (hm16 := hm16) (ah := (ah)) (hm17 := hm17) (fl := (fl)) (hfl := hfl) (fh := (fh)) (hfh := hfh) _) (cwV 0 hts (fn_ginV (fn_gin wd_1599) wd_1596 wd_1598 wp_124 wd_13) rfl rfl rfl (by decide +kernel) ⟨Nat.le_of_ble_eq_true rfl, Nat.le_of_ble_eq_true rfl⟩) ⟨fn_blind, va_recv hK.1 hP (ci := 12) (q0 := 0) rfl rfl, hp⟩ rfl rfl hl.1 rfl (lv_room (Nat.le_of_ble_eq_true rfl)) dX12_isSeed_1 ⟨Nat.le_of_ble_eq_true rfl, Nat.le_of_ble_eq_true rfl⟩) (fun r2 u1 H locs hwu1 hP hD hS => ?_)
  have r2_e : r2 = 0 := hwu1
  subst r2_e
  have hP : va_P D vwCl [] H := hP
  have hD : va_D A [] := hD
  refine lv_if_eq (tgt := 23) hx hb dX12_isSeed_4 (by decide) (fun _ => ?_) (fun h9 => absurd (by decide) h9)
  refine lv_iconst (v := 0) hx hb dX12_isSeed_23 (by decide) ?_
  exact fn_iret hx hb hr hlocks rfl hP hD hS () (by first | rfl | decide) [] (by decide) rfl dX12_isSeed_24
theorem dX12_page_0 : decode cX12_page 0 = .ok (.aload_n 0, 1) := by decide +kernel
theorem dX12_page_1 : decode cX12_page 1 = .ok (.iconst 0, 1) := by decide +kernel
theorem dX12_page_2 : decode cX12_page 2 = .ok (.putfield 104, 3) := by decide +kernel
theorem dX12_page_5 : decode cX12_page 5 = .ok (.aload_n 0, 1) := by decide +kernel
theorem dX12_page_6 : decode cX12_page 6 = .ok (.iload_n 1, 1) := by decide +kernel
theorem dX12_page_7 : decode cX12_page 7 = .ok (.i2l, 1) := by decide +kernel
theorem dX12_page_8 : decode cX12_page 8 = .ok (.invokevirtual 262, 3) := by decide +kernel
theorem dX12_page_11 : decode cX12_page 11 = .ok (.ifCond .eq 15, 3) := by decide +kernel
theorem dX12_page_26 : decode cX12_page 26 = .ok (.bipush (-2), 2) := by decide +kernel
theorem dX12_page_28 : decode cX12_page 28 = .ok (.ireturn, 1) := by decide +kernel
set_option maxHeartbeats 4000000 in
set_option maxRecDepth 100000 in
theorem c_X12_page (l : Launch) (D : va_G) (K : Nat → ClassId) (m0 al ah : Nat) (fm : List Value) (hmn : fm.length = 51) (hm16 : fm[16]? = some (.ref al)) (hm17 : fm[17]? = some (.ref ah)) (fl fh : Nat → Int32) (hfl : ∀ j, fl j = 0) (hfh : ∀ j, fh j = 0) (p0 p1 : Int32) : fn_CI (S := Unit) l D K yX12_page (fn_ws yX12_page cX12_page 5 (some .int)) ({ frames := 12, cells := 0, slots := 0, locals := 300 }) [.ref m0, .int p0, .int p1] [(m0, .inr (12, fm)), (al, .inl (K 0, 5, .inl fl)), (ah, .inl (K 0, 40, .inl fh))] (fun r _ => r = (-2)) (fun _ => []) 0 0 := by
  refine fn_inI (cc := cX12_page) (maxL := 5) (ret := (some .int)) (by decide) rfl (Nat.le_of_ble_eq_true rfl) ?_
  intro p e s m below meth c A ls B hA hP hD hS hl
  obtain ⟨hx, hb, hr, hml, hts, hown, hlocks, hin, hK⟩ := B
  have hown : s.vm.findClass RX12 = some m.cls := hown
  have hts := fun w h => hts w (List.mem_cons_of_mem _ h)
  have hl : lv_has ls 5 [(0, .ref m0), (1, .int p0), (2, .int p1)] := hl
  refine lv_aload_n hx hb dX12_page_0 rfl (lv_at hl 0 rfl) ?_
  refine lv_iconst (v := 0) hx hb dX12_page_1 (by decide) ?_
  refine va_put (D := D) (own := RX12) (ci := 12) (v := .int 0) (ty := .int) (C := RX12) (T := TX12) (N := 51) hx hb hts inb_X12 tyX12 tyX12_ok nmX12 hown hK.1 hP hD hS 0 rfl rfl 0 (by decide) (hts _ wd_1234) (fun _ h9 => h9) rfl (by decide +kernel) rfl rfl (fn_kl hmn (by decide)) dX12_page_2 (fun H locs hP hD hS => ?_)
  have hP : va_P D vwCl [(m0, .inr (12, fm.set 0 (.int 0))), (al, .inl (K 0, 5, .inl fl)), (ah, .inl (K 0, 40, .inl fh))] H := hP
  have hD : va_D A [(m0, .inr (12, fm.set 0 (.int 0))), (al, .inl (K 0, 5, .inl fl)), (ah, .inl (K 0, 40, .inl fh))] := hD
  refine lv_aload_n hx hb dX12_page_5 rfl (lv_at hl 0 rfl) ?_
  refine lv_iload_n hx hb dX12_page_6 rfl (lv_at hl 1 rfl) ?_
  refine lv_i2l hx hb dX12_page_7 rfl ?_
  refine fn_goi (wc := [(m0, .inr (12, fm.set 0 (.int 0))), (al, .inl (K 0, 5, .inl fl)), (ah, .inl (K 0, 40, .inl fh))]) (wr := []) hK hP hD hS hA [0, 1, 2] [] rfl rfl (by decide) (fun hp => va_runV (C := RX12) (As := [.long (Int32.toInt64 p0)]) (rest := []) ⟨hx, hb, hml, hown, hts⟩ (c_X12_isPage (l := l) (D := D) (K := K) (m0 := (m0)) (p0 := ((Int32.toInt64 p0))) (fm := (fm.set 0 (.int 0))) (hmn := (fn_sl hmn)) (al := (al)) (hm16 := (fn_gs (by decide) hm16)) (ah := (ah)) (hm17 := (fn_gs (by decide) hm17)) (fl := (fl)) (hfl := hfl) (fh := (fh)) (hfh := hfh) _) (cwV 1 hts (fn_ginV (fn_gin wd_1543) wd_1540 wd_1542 wp_116 wd_13) rfl rfl rfl (by decide +kernel) ⟨Nat.le_of_ble_eq_true rfl, Nat.le_of_ble_eq_true rfl⟩) ⟨fn_blind, va_recv hK.1 hP (ci := 12) (q0 := 0) rfl rfl, hp⟩ rfl rfl hl.1 rfl (lv_room (Nat.le_of_ble_eq_true rfl)) dX12_page_8 ⟨Nat.le_of_ble_eq_true rfl, Nat.le_of_ble_eq_true rfl⟩) (fun r2 u1 H locs hwu1 hP hD hS => ?_)
  have r2_e : r2 = 0 := hwu1
  subst r2_e
  have hP : va_P D vwCl [] H := hP
  have hD : va_D A [] := hD
  refine lv_if_eq (tgt := 26) hx hb dX12_page_11 (by decide) (fun _ => ?_) (fun h9 => absurd (by decide) h9)
  refine lv_bipush (v := (-2)) hx hb dX12_page_26 (by decide) ?_
  exact fn_iret hx hb hr hlocks rfl hP hD hS () (by first | rfl | decide) [] (by decide) rfl dX12_page_28
theorem dX12_book_0 : decode cX12_book 0 = .ok (.aload_n 0, 1) := by decide +kernel
theorem dX12_book_1 : decode cX12_book 1 = .ok (.iconst 0, 1) := by decide +kernel
theorem dX12_book_2 : decode cX12_book 2 = .ok (.putfield 104, 3) := by decide +kernel
theorem dX12_book_5 : decode cX12_book 5 = .ok (.aload_n 0, 1) := by decide +kernel
theorem dX12_book_6 : decode cX12_book 6 = .ok (.iload_n 1, 1) := by decide +kernel
theorem dX12_book_7 : decode cX12_book 7 = .ok (.invokevirtual 289, 3) := by decide +kernel
theorem dX12_book_10 : decode cX12_book 10 = .ok (.ifCond .eq 15, 3) := by decide +kernel
theorem dX12_book_25 : decode cX12_book 25 = .ok (.bipush (-2), 2) := by decide +kernel
theorem dX12_book_27 : decode cX12_book 27 = .ok (.ireturn, 1) := by decide +kernel
set_option maxHeartbeats 4000000 in
set_option maxRecDepth 100000 in
theorem c_X12_book (l : Launch) (D : va_G) (K : Nat → ClassId) (m0 al ah : Nat) (fm : List Value) (hmn : fm.length = 51) (hm16 : fm[16]? = some (.ref al)) (hm17 : fm[17]? = some (.ref ah)) (fl fh : Nat → Int32) (hfl : ∀ j, fl j = 0) (hfh : ∀ j, fh j = 0) (p0 p1 : Int32) : fn_CI (S := Unit) l D K yX12_book (fn_ws yX12_book cX12_book 4 (some .int)) ({ frames := 12, cells := 0, slots := 0, locals := 300 }) [.ref m0, .int p0, .int p1] [(m0, .inr (12, fm)), (al, .inl (K 0, 5, .inl fl)), (ah, .inl (K 0, 40, .inl fh))] (fun r _ => r = (-2)) (fun _ => []) 0 0 := by
  refine fn_inI (cc := cX12_book) (maxL := 4) (ret := (some .int)) (by decide) rfl (Nat.le_of_ble_eq_true rfl) ?_
  intro p e s m below meth c A ls B hA hP hD hS hl
  obtain ⟨hx, hb, hr, hml, hts, hown, hlocks, hin, hK⟩ := B
  have hown : s.vm.findClass RX12 = some m.cls := hown
  have hts := fun w h => hts w (List.mem_cons_of_mem _ h)
  have hl : lv_has ls 4 [(0, .ref m0), (1, .int p0), (2, .int p1)] := hl
  refine lv_aload_n hx hb dX12_book_0 rfl (lv_at hl 0 rfl) ?_
  refine lv_iconst (v := 0) hx hb dX12_book_1 (by decide) ?_
  refine va_put (D := D) (own := RX12) (ci := 12) (v := .int 0) (ty := .int) (C := RX12) (T := TX12) (N := 51) hx hb hts inb_X12 tyX12 tyX12_ok nmX12 hown hK.1 hP hD hS 0 rfl rfl 0 (by decide) (hts _ wd_1234) (fun _ h9 => h9) rfl (by decide +kernel) rfl rfl (fn_kl hmn (by decide)) dX12_book_2 (fun H locs hP hD hS => ?_)
  have hP : va_P D vwCl [(m0, .inr (12, fm.set 0 (.int 0))), (al, .inl (K 0, 5, .inl fl)), (ah, .inl (K 0, 40, .inl fh))] H := hP
  have hD : va_D A [(m0, .inr (12, fm.set 0 (.int 0))), (al, .inl (K 0, 5, .inl fl)), (ah, .inl (K 0, 40, .inl fh))] := hD
  refine lv_aload_n hx hb dX12_book_5 rfl (lv_at hl 0 rfl) ?_
  refine lv_iload_n hx hb dX12_book_6 rfl (lv_at hl 1 rfl) ?_
  refine fn_goi (wc := [(m0, .inr (12, fm.set 0 (.int 0))), (al, .inl (K 0, 5, .inl fl)), (ah, .inl (K 0, 40, .inl fh))]) (wr := []) hK hP hD hS hA [0, 1, 2] [] rfl rfl (by decide) (fun hp => va_runV (C := RX12) (As := [.int p0]) (rest := []) ⟨hx, hb, hml, hown, hts⟩ (c_X12_isBook (l := l) (D := D) (K := K) (m0 := (m0)) (p0 := (p0)) (fm := (fm.set 0 (.int 0))) (hmn := (fn_sl hmn)) (al := (al)) (hm16 := (fn_gs (by decide) hm16)) (ah := (ah)) (hm17 := (fn_gs (by decide) hm17)) (fl := (fl)) (hfl := hfl) (fh := (fh)) (hfh := hfh) _) (cwV 1 hts (fn_ginV (fn_gin wd_1571) wd_1568 wd_1570 wp_122 wd_13) rfl rfl rfl (by decide +kernel) ⟨Nat.le_of_ble_eq_true rfl, Nat.le_of_ble_eq_true rfl⟩) ⟨fn_blind, va_recv hK.1 hP (ci := 12) (q0 := 0) rfl rfl, hp⟩ rfl rfl hl.1 rfl (lv_room (Nat.le_of_ble_eq_true rfl)) dX12_book_7 ⟨Nat.le_of_ble_eq_true rfl, Nat.le_of_ble_eq_true rfl⟩) (fun r2 u1 H locs hwu1 hP hD hS => ?_)
  have r2_e : r2 = 0 := hwu1
  subst r2_e
  have hP : va_P D vwCl [] H := hP
  have hD : va_D A [] := hD
  refine lv_if_eq (tgt := 25) hx hb dX12_book_10 (by decide) (fun _ => ?_) (fun h9 => absurd (by decide) h9)
  refine lv_bipush (v := (-2)) hx hb dX12_book_25 (by decide) ?_
  exact fn_iret hx hb hr hlocks rfl hP hD hS () (by first | rfl | decide) [] (by decide) rfl dX12_book_27
theorem dX12_leaf_0 : decode cX12_leaf 0 = .ok (.aload_n 0, 1) := by decide +kernel
theorem dX12_leaf_1 : decode cX12_leaf 1 = .ok (.iconst 0, 1) := by decide +kernel
theorem dX12_leaf_2 : decode cX12_leaf 2 = .ok (.putfield 104, 3) := by decide +kernel
theorem dX12_leaf_5 : decode cX12_leaf 5 = .ok (.aload_n 0, 1) := by decide +kernel
theorem dX12_leaf_6 : decode cX12_leaf 6 = .ok (.iload_n 1, 1) := by decide +kernel
theorem dX12_leaf_7 : decode cX12_leaf 7 = .ok (.invokevirtual 289, 3) := by decide +kernel
theorem dX12_leaf_10 : decode cX12_leaf 10 = .ok (.ifCond .ne 6, 3) := by decide +kernel
theorem dX12_leaf_13 : decode cX12_leaf 13 = .ok (.bipush (-2), 2) := by decide +kernel
theorem dX12_leaf_15 : decode cX12_leaf 15 = .ok (.ireturn, 1) := by decide +kernel
set_option maxHeartbeats 4000000 in
set_option maxRecDepth 100000 in
theorem c_X12_leaf (l : Launch) (D : va_G) (K : Nat → ClassId) (m0 al ah : Nat) (fm : List Value) (hmn : fm.length = 51) (hm16 : fm[16]? = some (.ref al)) (hm17 : fm[17]? = some (.ref ah)) (fl fh : Nat → Int32) (hfl : ∀ j, fl j = 0) (hfh : ∀ j, fh j = 0) (p0 p1 : Int32) : fn_CI (S := Unit) l D K yX12_leaf (fn_ws yX12_leaf cX12_leaf 4 (some .int)) ({ frames := 12, cells := 0, slots := 0, locals := 300 }) [.ref m0, .int p0, .int p1] [(m0, .inr (12, fm)), (al, .inl (K 0, 5, .inl fl)), (ah, .inl (K 0, 40, .inl fh))] (fun r _ => r = (-2)) (fun _ => []) 0 0 := by
  refine fn_inI (cc := cX12_leaf) (maxL := 4) (ret := (some .int)) (by decide) rfl (Nat.le_of_ble_eq_true rfl) ?_
  intro p e s m below meth c A ls B hA hP hD hS hl
  obtain ⟨hx, hb, hr, hml, hts, hown, hlocks, hin, hK⟩ := B
  have hown : s.vm.findClass RX12 = some m.cls := hown
  have hts := fun w h => hts w (List.mem_cons_of_mem _ h)
  have hl : lv_has ls 4 [(0, .ref m0), (1, .int p0), (2, .int p1)] := hl
  refine lv_aload_n hx hb dX12_leaf_0 rfl (lv_at hl 0 rfl) ?_
  refine lv_iconst (v := 0) hx hb dX12_leaf_1 (by decide) ?_
  refine va_put (D := D) (own := RX12) (ci := 12) (v := .int 0) (ty := .int) (C := RX12) (T := TX12) (N := 51) hx hb hts inb_X12 tyX12 tyX12_ok nmX12 hown hK.1 hP hD hS 0 rfl rfl 0 (by decide) (hts _ wd_1234) (fun _ h9 => h9) rfl (by decide +kernel) rfl rfl (fn_kl hmn (by decide)) dX12_leaf_2 (fun H locs hP hD hS => ?_)
  have hP : va_P D vwCl [(m0, .inr (12, fm.set 0 (.int 0))), (al, .inl (K 0, 5, .inl fl)), (ah, .inl (K 0, 40, .inl fh))] H := hP
  have hD : va_D A [(m0, .inr (12, fm.set 0 (.int 0))), (al, .inl (K 0, 5, .inl fl)), (ah, .inl (K 0, 40, .inl fh))] := hD
  refine lv_aload_n hx hb dX12_leaf_5 rfl (lv_at hl 0 rfl) ?_
  refine lv_iload_n hx hb dX12_leaf_6 rfl (lv_at hl 1 rfl) ?_
  refine fn_goi (wc := [(m0, .inr (12, fm.set 0 (.int 0))), (al, .inl (K 0, 5, .inl fl)), (ah, .inl (K 0, 40, .inl fh))]) (wr := []) hK hP hD hS hA [0, 1, 2] [] rfl rfl (by decide) (fun hp => va_runV (C := RX12) (As := [.int p0]) (rest := []) ⟨hx, hb, hml, hown, hts⟩ (c_X12_isBook (l := l) (D := D) (K := K) (m0 := (m0)) (p0 := (p0)) (fm := (fm.set 0 (.int 0))) (hmn := (fn_sl hmn)) (al := (al)) (hm16 := (fn_gs (by decide) hm16)) (ah := (ah)) (hm17 := (fn_gs (by decide) hm17)) (fl := (fl)) (hfl := hfl) (fh := (fh)) (hfh := hfh) _) (cwV 1 hts (fn_ginV (fn_gin wd_1571) wd_1568 wd_1570 wp_122 wd_13) rfl rfl rfl (by decide +kernel) ⟨Nat.le_of_ble_eq_true rfl, Nat.le_of_ble_eq_true rfl⟩) ⟨fn_blind, va_recv hK.1 hP (ci := 12) (q0 := 0) rfl rfl, hp⟩ rfl rfl hl.1 rfl (lv_room (Nat.le_of_ble_eq_true rfl)) dX12_leaf_7 ⟨Nat.le_of_ble_eq_true rfl, Nat.le_of_ble_eq_true rfl⟩) (fun r2 u1 H locs hwu1 hP hD hS => ?_)
  have r2_e : r2 = 0 := hwu1
  subst r2_e
  have hP : va_P D vwCl [] H := hP
  have hD : va_D A [] := hD
  refine lv_if_ne (tgt := 16) hx hb dX12_leaf_10 (by decide) (fun h9 => absurd rfl h9) (fun _ => ?_)
  refine lv_bipush (v := (-2)) hx hb dX12_leaf_13 (by decide) ?_
  exact fn_iret hx hb hr hlocks rfl hP hD hS () (by first | rfl | decide) [] (by decide) rfl dX12_leaf_15
theorem dX12_note_0 : decode cX12_note 0 = .ok (.aload_n 0, 1) := by decide +kernel
theorem dX12_note_1 : decode cX12_note 1 = .ok (.iconst 0, 1) := by decide +kernel
theorem dX12_note_2 : decode cX12_note 2 = .ok (.putfield 104, 3) := by decide +kernel
theorem dX12_note_5 : decode cX12_note 5 = .ok (.aload_n 0, 1) := by decide +kernel
theorem dX12_note_6 : decode cX12_note 6 = .ok (.iload_n 1, 1) := by decide +kernel
theorem dX12_note_7 : decode cX12_note 7 = .ok (.invokevirtual 292, 3) := by decide +kernel
theorem dX12_note_10 : decode cX12_note 10 = .ok (.ifCond .eq 15, 3) := by decide +kernel
theorem dX12_note_25 : decode cX12_note 25 = .ok (.bipush (-2), 2) := by decide +kernel
theorem dX12_note_27 : decode cX12_note 27 = .ok (.ireturn, 1) := by decide +kernel
set_option maxHeartbeats 4000000 in
set_option maxRecDepth 100000 in
theorem c_X12_note (l : Launch) (D : va_G) (K : Nat → ClassId) (m0 al ah : Nat) (fm : List Value) (hmn : fm.length = 51) (hm16 : fm[16]? = some (.ref al)) (hm17 : fm[17]? = some (.ref ah)) (fl fh : Nat → Int32) (hfl : ∀ j, fl j = 0) (hfh : ∀ j, fh j = 0) (p0 p1 : Int32) : fn_CI (S := Unit) l D K yX12_note (fn_ws yX12_note cX12_note 3 (some .int)) ({ frames := 12, cells := 0, slots := 0, locals := 300 }) [.ref m0, .int p0, .int p1] [(m0, .inr (12, fm)), (al, .inl (K 0, 5, .inl fl)), (ah, .inl (K 0, 40, .inl fh))] (fun r _ => r = (-2)) (fun _ => []) 0 0 := by
  refine fn_inI (cc := cX12_note) (maxL := 3) (ret := (some .int)) (by decide) rfl (Nat.le_of_ble_eq_true rfl) ?_
  intro p e s m below meth c A ls B hA hP hD hS hl
  obtain ⟨hx, hb, hr, hml, hts, hown, hlocks, hin, hK⟩ := B
  have hown : s.vm.findClass RX12 = some m.cls := hown
  have hts := fun w h => hts w (List.mem_cons_of_mem _ h)
  have hl : lv_has ls 3 [(0, .ref m0), (1, .int p0), (2, .int p1)] := hl
  refine lv_aload_n hx hb dX12_note_0 rfl (lv_at hl 0 rfl) ?_
  refine lv_iconst (v := 0) hx hb dX12_note_1 (by decide) ?_
  refine va_put (D := D) (own := RX12) (ci := 12) (v := .int 0) (ty := .int) (C := RX12) (T := TX12) (N := 51) hx hb hts inb_X12 tyX12 tyX12_ok nmX12 hown hK.1 hP hD hS 0 rfl rfl 0 (by decide) (hts _ wd_1234) (fun _ h9 => h9) rfl (by decide +kernel) rfl rfl (fn_kl hmn (by decide)) dX12_note_2 (fun H locs hP hD hS => ?_)
  have hP : va_P D vwCl [(m0, .inr (12, fm.set 0 (.int 0))), (al, .inl (K 0, 5, .inl fl)), (ah, .inl (K 0, 40, .inl fh))] H := hP
  have hD : va_D A [(m0, .inr (12, fm.set 0 (.int 0))), (al, .inl (K 0, 5, .inl fl)), (ah, .inl (K 0, 40, .inl fh))] := hD
  refine lv_aload_n hx hb dX12_note_5 rfl (lv_at hl 0 rfl) ?_
  refine lv_iload_n hx hb dX12_note_6 rfl (lv_at hl 1 rfl) ?_
  refine fn_goi (wc := [(m0, .inr (12, fm.set 0 (.int 0))), (al, .inl (K 0, 5, .inl fl)), (ah, .inl (K 0, 40, .inl fh))]) (wr := []) hK hP hD hS hA [0, 1, 2] [] rfl rfl (by decide) (fun hp => va_runV (C := RX12) (As := [.int p0]) (rest := []) ⟨hx, hb, hml, hown, hts⟩ (c_X12_isNote (l := l) (D := D) (K := K) (m0 := (m0)) (p0 := (p0)) (fm := (fm.set 0 (.int 0))) (hmn := (fn_sl hmn)) (al := (al)) (hm16 := (fn_gs (by decide) hm16)) (ah := (ah)) (hm17 := (fn_gs (by decide) hm17)) (fl := (fl)) (hfl := hfl) (fh := (fh)) (hfh := hfh) _) (cwV 1 hts (fn_ginV (fn_gin wd_1583) wd_1580 wd_1582 wp_123 wd_13) rfl rfl rfl (by decide +kernel) ⟨Nat.le_of_ble_eq_true rfl, Nat.le_of_ble_eq_true rfl⟩) ⟨fn_blind, va_recv hK.1 hP (ci := 12) (q0 := 0) rfl rfl, hp⟩ rfl rfl hl.1 rfl (lv_room (Nat.le_of_ble_eq_true rfl)) dX12_note_7 ⟨Nat.le_of_ble_eq_true rfl, Nat.le_of_ble_eq_true rfl⟩) (fun r2 u1 H locs hwu1 hP hD hS => ?_)
  have r2_e : r2 = 0 := hwu1
  subst r2_e
  have hP : va_P D vwCl [] H := hP
  have hD : va_D A [] := hD
  refine lv_if_eq (tgt := 25) hx hb dX12_note_10 (by decide) (fun _ => ?_) (fun h9 => absurd (by decide) h9)
  refine lv_bipush (v := (-2)) hx hb dX12_note_25 (by decide) ?_
  exact fn_iret hx hb hr hlocks rfl hP hD hS () (by first | rfl | decide) [] (by decide) rfl dX12_note_27
theorem dX12_leads_0 : decode cX12_leads 0 = .ok (.aload_n 0, 1) := by decide +kernel
theorem dX12_leads_1 : decode cX12_leads 1 = .ok (.iconst 0, 1) := by decide +kernel
theorem dX12_leads_2 : decode cX12_leads 2 = .ok (.putfield 104, 3) := by decide +kernel
theorem dX12_leads_5 : decode cX12_leads 5 = .ok (.aload_n 0, 1) := by decide +kernel
theorem dX12_leads_6 : decode cX12_leads 6 = .ok (.iload_n 1, 1) := by decide +kernel
theorem dX12_leads_7 : decode cX12_leads 7 = .ok (.invokevirtual 292, 3) := by decide +kernel
theorem dX12_leads_10 : decode cX12_leads 10 = .ok (.ifCond .ne 6, 3) := by decide +kernel
theorem dX12_leads_13 : decode cX12_leads 13 = .ok (.bipush (-2), 2) := by decide +kernel
theorem dX12_leads_15 : decode cX12_leads 15 = .ok (.ireturn, 1) := by decide +kernel
set_option maxHeartbeats 4000000 in
set_option maxRecDepth 100000 in
theorem c_X12_leads (l : Launch) (D : va_G) (K : Nat → ClassId) (m0 al ah : Nat) (fm : List Value) (hmn : fm.length = 51) (hm16 : fm[16]? = some (.ref al)) (hm17 : fm[17]? = some (.ref ah)) (fl fh : Nat → Int32) (hfl : ∀ j, fl j = 0) (hfh : ∀ j, fh j = 0) (p0 : Int32) : fn_CI (S := Unit) l D K yX12_leads (fn_ws yX12_leads cX12_leads 2 (some .int)) ({ frames := 12, cells := 0, slots := 0, locals := 300 }) [.ref m0, .int p0] [(m0, .inr (12, fm)), (al, .inl (K 0, 5, .inl fl)), (ah, .inl (K 0, 40, .inl fh))] (fun r _ => r = (-2)) (fun _ => []) 0 0 := by
  refine fn_inI (cc := cX12_leads) (maxL := 2) (ret := (some .int)) (by decide) rfl (Nat.le_of_ble_eq_true rfl) ?_
  intro p e s m below meth c A ls B hA hP hD hS hl
  obtain ⟨hx, hb, hr, hml, hts, hown, hlocks, hin, hK⟩ := B
  have hown : s.vm.findClass RX12 = some m.cls := hown
  have hts := fun w h => hts w (List.mem_cons_of_mem _ h)
  have hl : lv_has ls 2 [(0, .ref m0), (1, .int p0)] := hl
  refine lv_aload_n hx hb dX12_leads_0 rfl (lv_at hl 0 rfl) ?_
  refine lv_iconst (v := 0) hx hb dX12_leads_1 (by decide) ?_
  refine va_put (D := D) (own := RX12) (ci := 12) (v := .int 0) (ty := .int) (C := RX12) (T := TX12) (N := 51) hx hb hts inb_X12 tyX12 tyX12_ok nmX12 hown hK.1 hP hD hS 0 rfl rfl 0 (by decide) (hts _ wd_1234) (fun _ h9 => h9) rfl (by decide +kernel) rfl rfl (fn_kl hmn (by decide)) dX12_leads_2 (fun H locs hP hD hS => ?_)
  have hP : va_P D vwCl [(m0, .inr (12, fm.set 0 (.int 0))), (al, .inl (K 0, 5, .inl fl)), (ah, .inl (K 0, 40, .inl fh))] H := hP
  have hD : va_D A [(m0, .inr (12, fm.set 0 (.int 0))), (al, .inl (K 0, 5, .inl fl)), (ah, .inl (K 0, 40, .inl fh))] := hD
  refine lv_aload_n hx hb dX12_leads_5 rfl (lv_at hl 0 rfl) ?_
  refine lv_iload_n hx hb dX12_leads_6 rfl (lv_at hl 1 rfl) ?_
  refine fn_goi (wc := [(m0, .inr (12, fm.set 0 (.int 0))), (al, .inl (K 0, 5, .inl fl)), (ah, .inl (K 0, 40, .inl fh))]) (wr := []) hK hP hD hS hA [0, 1, 2] [] rfl rfl (by decide) (fun hp => va_runV (C := RX12) (As := [.int p0]) (rest := []) ⟨hx, hb, hml, hown, hts⟩ (c_X12_isNote (l := l) (D := D) (K := K) (m0 := (m0)) (p0 := (p0)) (fm := (fm.set 0 (.int 0))) (hmn := (fn_sl hmn)) (al := (al)) (hm16 := (fn_gs (by decide) hm16)) (ah := (ah)) (hm17 := (fn_gs (by decide) hm17)) (fl := (fl)) (hfl := hfl) (fh := (fh)) (hfh := hfh) _) (cwV 1 hts (fn_ginV (fn_gin wd_1583) wd_1580 wd_1582 wp_123 wd_13) rfl rfl rfl (by decide +kernel) ⟨Nat.le_of_ble_eq_true rfl, Nat.le_of_ble_eq_true rfl⟩) ⟨fn_blind, va_recv hK.1 hP (ci := 12) (q0 := 0) rfl rfl, hp⟩ rfl rfl hl.1 rfl (lv_room (Nat.le_of_ble_eq_true rfl)) dX12_leads_7 ⟨Nat.le_of_ble_eq_true rfl, Nat.le_of_ble_eq_true rfl⟩) (fun r2 u1 H locs hwu1 hP hD hS => ?_)
  have r2_e : r2 = 0 := hwu1
  subst r2_e
  have hP : va_P D vwCl [] H := hP
  have hD : va_D A [] := hD
  refine lv_if_ne (tgt := 16) hx hb dX12_leads_10 (by decide) (fun h9 => absurd rfl h9) (fun _ => ?_)
  refine lv_bipush (v := (-2)) hx hb dX12_leads_13 (by decide) ?_
  exact fn_iret hx hb hr hlocks rfl hP hD hS () (by first | rfl | decide) [] (by decide) rfl dX12_leads_15
theorem dX12_meant_0 : decode cX12_meant 0 = .ok (.aload_n 0, 1) := by decide +kernel
theorem dX12_meant_1 : decode cX12_meant 1 = .ok (.iconst 0, 1) := by decide +kernel
theorem dX12_meant_2 : decode cX12_meant 2 = .ok (.putfield 104, 3) := by decide +kernel
theorem dX12_meant_5 : decode cX12_meant 5 = .ok (.aload_n 0, 1) := by decide +kernel
theorem dX12_meant_6 : decode cX12_meant 6 = .ok (.iload_n 1, 1) := by decide +kernel
theorem dX12_meant_7 : decode cX12_meant 7 = .ok (.invokevirtual 292, 3) := by decide +kernel
theorem dX12_meant_10 : decode cX12_meant 10 = .ok (.ifCond .ne 6, 3) := by decide +kernel
theorem dX12_meant_13 : decode cX12_meant 13 = .ok (.bipush (-2), 2) := by decide +kernel
theorem dX12_meant_15 : decode cX12_meant 15 = .ok (.ireturn, 1) := by decide +kernel
set_option maxHeartbeats 4000000 in
set_option maxRecDepth 100000 in
theorem c_X12_meant (l : Launch) (D : va_G) (K : Nat → ClassId) (m0 al ah : Nat) (fm : List Value) (hmn : fm.length = 51) (hm16 : fm[16]? = some (.ref al)) (hm17 : fm[17]? = some (.ref ah)) (fl fh : Nat → Int32) (hfl : ∀ j, fl j = 0) (hfh : ∀ j, fh j = 0) (p0 : Int32) : fn_CI (S := Unit) l D K yX12_meant (fn_ws yX12_meant cX12_meant 2 (some .int)) ({ frames := 12, cells := 0, slots := 0, locals := 300 }) [.ref m0, .int p0] [(m0, .inr (12, fm)), (al, .inl (K 0, 5, .inl fl)), (ah, .inl (K 0, 40, .inl fh))] (fun r _ => r = (-2)) (fun _ => []) 0 0 := by
  refine fn_inI (cc := cX12_meant) (maxL := 2) (ret := (some .int)) (by decide) rfl (Nat.le_of_ble_eq_true rfl) ?_
  intro p e s m below meth c A ls B hA hP hD hS hl
  obtain ⟨hx, hb, hr, hml, hts, hown, hlocks, hin, hK⟩ := B
  have hown : s.vm.findClass RX12 = some m.cls := hown
  have hts := fun w h => hts w (List.mem_cons_of_mem _ h)
  have hl : lv_has ls 2 [(0, .ref m0), (1, .int p0)] := hl
  refine lv_aload_n hx hb dX12_meant_0 rfl (lv_at hl 0 rfl) ?_
  refine lv_iconst (v := 0) hx hb dX12_meant_1 (by decide) ?_
  refine va_put (D := D) (own := RX12) (ci := 12) (v := .int 0) (ty := .int) (C := RX12) (T := TX12) (N := 51) hx hb hts inb_X12 tyX12 tyX12_ok nmX12 hown hK.1 hP hD hS 0 rfl rfl 0 (by decide) (hts _ wd_1234) (fun _ h9 => h9) rfl (by decide +kernel) rfl rfl (fn_kl hmn (by decide)) dX12_meant_2 (fun H locs hP hD hS => ?_)
  have hP : va_P D vwCl [(m0, .inr (12, fm.set 0 (.int 0))), (al, .inl (K 0, 5, .inl fl)), (ah, .inl (K 0, 40, .inl fh))] H := hP
  have hD : va_D A [(m0, .inr (12, fm.set 0 (.int 0))), (al, .inl (K 0, 5, .inl fl)), (ah, .inl (K 0, 40, .inl fh))] := hD
  refine lv_aload_n hx hb dX12_meant_5 rfl (lv_at hl 0 rfl) ?_
  refine lv_iload_n hx hb dX12_meant_6 rfl (lv_at hl 1 rfl) ?_
  refine fn_goi (wc := [(m0, .inr (12, fm.set 0 (.int 0))), (al, .inl (K 0, 5, .inl fl)), (ah, .inl (K 0, 40, .inl fh))]) (wr := []) hK hP hD hS hA [0, 1, 2] [] rfl rfl (by decide) (fun hp => va_runV (C := RX12) (As := [.int p0]) (rest := []) ⟨hx, hb, hml, hown, hts⟩ (c_X12_isNote (l := l) (D := D) (K := K) (m0 := (m0)) (p0 := (p0)) (fm := (fm.set 0 (.int 0))) (hmn := (fn_sl hmn)) (al := (al)) (hm16 := (fn_gs (by decide) hm16)) (ah := (ah)) (hm17 := (fn_gs (by decide) hm17)) (fl := (fl)) (hfl := hfl) (fh := (fh)) (hfh := hfh) _) (cwV 1 hts (fn_ginV (fn_gin wd_1583) wd_1580 wd_1582 wp_123 wd_13) rfl rfl rfl (by decide +kernel) ⟨Nat.le_of_ble_eq_true rfl, Nat.le_of_ble_eq_true rfl⟩) ⟨fn_blind, va_recv hK.1 hP (ci := 12) (q0 := 0) rfl rfl, hp⟩ rfl rfl hl.1 rfl (lv_room (Nat.le_of_ble_eq_true rfl)) dX12_meant_7 ⟨Nat.le_of_ble_eq_true rfl, Nat.le_of_ble_eq_true rfl⟩) (fun r2 u1 H locs hwu1 hP hD hS => ?_)
  have r2_e : r2 = 0 := hwu1
  subst r2_e
  have hP : va_P D vwCl [] H := hP
  have hD : va_D A [] := hD
  refine lv_if_ne (tgt := 16) hx hb dX12_meant_10 (by decide) (fun h9 => absurd rfl h9) (fun _ => ?_)
  refine lv_bipush (v := (-2)) hx hb dX12_meant_13 (by decide) ?_
  exact fn_iret hx hb hr hlocks rfl hP hD hS () (by first | rfl | decide) [] (by decide) rfl dX12_meant_15
theorem dX12_edition_0 : decode cX12_edition 0 = .ok (.aload_n 0, 1) := by decide +kernel
theorem dX12_edition_1 : decode cX12_edition 1 = .ok (.iconst 0, 1) := by decide +kernel
theorem dX12_edition_2 : decode cX12_edition 2 = .ok (.putfield 104, 3) := by decide +kernel
theorem dX12_edition_5 : decode cX12_edition 5 = .ok (.aload_n 0, 1) := by decide +kernel
theorem dX12_edition_6 : decode cX12_edition 6 = .ok (.iload_n 1, 1) := by decide +kernel
theorem dX12_edition_7 : decode cX12_edition 7 = .ok (.invokevirtual 289, 3) := by decide +kernel
theorem dX12_edition_10 : decode cX12_edition 10 = .ok (.ifCond .ne 6, 3) := by decide +kernel
theorem dX12_edition_13 : decode cX12_edition 13 = .ok (.bipush (-2), 2) := by decide +kernel
theorem dX12_edition_15 : decode cX12_edition 15 = .ok (.ireturn, 1) := by decide +kernel
set_option maxHeartbeats 4000000 in
set_option maxRecDepth 100000 in
theorem c_X12_edition (l : Launch) (D : va_G) (K : Nat → ClassId) (m0 al ah : Nat) (fm : List Value) (hmn : fm.length = 51) (hm16 : fm[16]? = some (.ref al)) (hm17 : fm[17]? = some (.ref ah)) (fl fh : Nat → Int32) (hfl : ∀ j, fl j = 0) (hfh : ∀ j, fh j = 0) (p0 p1 : Int32) : fn_CI (S := Unit) l D K yX12_edition (fn_ws yX12_edition cX12_edition 3 (some .int)) ({ frames := 12, cells := 0, slots := 0, locals := 300 }) [.ref m0, .int p0, .int p1] [(m0, .inr (12, fm)), (al, .inl (K 0, 5, .inl fl)), (ah, .inl (K 0, 40, .inl fh))] (fun r _ => r = (-2)) (fun _ => []) 0 0 := by
  refine fn_inI (cc := cX12_edition) (maxL := 3) (ret := (some .int)) (by decide) rfl (Nat.le_of_ble_eq_true rfl) ?_
  intro p e s m below meth c A ls B hA hP hD hS hl
  obtain ⟨hx, hb, hr, hml, hts, hown, hlocks, hin, hK⟩ := B
  have hown : s.vm.findClass RX12 = some m.cls := hown
  have hts := fun w h => hts w (List.mem_cons_of_mem _ h)
  have hl : lv_has ls 3 [(0, .ref m0), (1, .int p0), (2, .int p1)] := hl
  refine lv_aload_n hx hb dX12_edition_0 rfl (lv_at hl 0 rfl) ?_
  refine lv_iconst (v := 0) hx hb dX12_edition_1 (by decide) ?_
  refine va_put (D := D) (own := RX12) (ci := 12) (v := .int 0) (ty := .int) (C := RX12) (T := TX12) (N := 51) hx hb hts inb_X12 tyX12 tyX12_ok nmX12 hown hK.1 hP hD hS 0 rfl rfl 0 (by decide) (hts _ wd_1234) (fun _ h9 => h9) rfl (by decide +kernel) rfl rfl (fn_kl hmn (by decide)) dX12_edition_2 (fun H locs hP hD hS => ?_)
  have hP : va_P D vwCl [(m0, .inr (12, fm.set 0 (.int 0))), (al, .inl (K 0, 5, .inl fl)), (ah, .inl (K 0, 40, .inl fh))] H := hP
  have hD : va_D A [(m0, .inr (12, fm.set 0 (.int 0))), (al, .inl (K 0, 5, .inl fl)), (ah, .inl (K 0, 40, .inl fh))] := hD
  refine lv_aload_n hx hb dX12_edition_5 rfl (lv_at hl 0 rfl) ?_
  refine lv_iload_n hx hb dX12_edition_6 rfl (lv_at hl 1 rfl) ?_
  refine fn_goi (wc := [(m0, .inr (12, fm.set 0 (.int 0))), (al, .inl (K 0, 5, .inl fl)), (ah, .inl (K 0, 40, .inl fh))]) (wr := []) hK hP hD hS hA [0, 1, 2] [] rfl rfl (by decide) (fun hp => va_runV (C := RX12) (As := [.int p0]) (rest := []) ⟨hx, hb, hml, hown, hts⟩ (c_X12_isBook (l := l) (D := D) (K := K) (m0 := (m0)) (p0 := (p0)) (fm := (fm.set 0 (.int 0))) (hmn := (fn_sl hmn)) (al := (al)) (hm16 := (fn_gs (by decide) hm16)) (ah := (ah)) (hm17 := (fn_gs (by decide) hm17)) (fl := (fl)) (hfl := hfl) (fh := (fh)) (hfh := hfh) _) (cwV 1 hts (fn_ginV (fn_gin wd_1571) wd_1568 wd_1570 wp_122 wd_13) rfl rfl rfl (by decide +kernel) ⟨Nat.le_of_ble_eq_true rfl, Nat.le_of_ble_eq_true rfl⟩) ⟨fn_blind, va_recv hK.1 hP (ci := 12) (q0 := 0) rfl rfl, hp⟩ rfl rfl hl.1 rfl (lv_room (Nat.le_of_ble_eq_true rfl)) dX12_edition_7 ⟨Nat.le_of_ble_eq_true rfl, Nat.le_of_ble_eq_true rfl⟩) (fun r2 u1 H locs hwu1 hP hD hS => ?_)
  have r2_e : r2 = 0 := hwu1
  subst r2_e
  have hP : va_P D vwCl [] H := hP
  have hD : va_D A [] := hD
  refine lv_if_ne (tgt := 16) hx hb dX12_edition_10 (by decide) (fun h9 => absurd rfl h9) (fun _ => ?_)
  refine lv_bipush (v := (-2)) hx hb dX12_edition_13 (by decide) ?_
  exact fn_iret hx hb hr hlocks rfl hP hD hS () (by first | rfl | decide) [] (by decide) rfl dX12_edition_15
theorem dX12_tear_0 : decode cX12_tear 0 = .ok (.aload_n 0, 1) := by decide +kernel
theorem dX12_tear_1 : decode cX12_tear 1 = .ok (.iconst 0, 1) := by decide +kernel
theorem dX12_tear_2 : decode cX12_tear 2 = .ok (.putfield 104, 3) := by decide +kernel
theorem dX12_tear_5 : decode cX12_tear 5 = .ok (.aload_n 0, 1) := by decide +kernel
theorem dX12_tear_6 : decode cX12_tear 6 = .ok (.iload_n 1, 1) := by decide +kernel
theorem dX12_tear_7 : decode cX12_tear 7 = .ok (.invokevirtual 289, 3) := by decide +kernel
theorem dX12_tear_10 : decode cX12_tear 10 = .ok (.ifCond .ne 6, 3) := by decide +kernel
theorem dX12_tear_13 : decode cX12_tear 13 = .ok (.bipush (-2), 2) := by decide +kernel
theorem dX12_tear_15 : decode cX12_tear 15 = .ok (.ireturn, 1) := by decide +kernel
set_option maxHeartbeats 4000000 in
set_option maxRecDepth 100000 in
theorem c_X12_tear (l : Launch) (D : va_G) (K : Nat → ClassId) (m0 al ah : Nat) (fm : List Value) (hmn : fm.length = 51) (hm16 : fm[16]? = some (.ref al)) (hm17 : fm[17]? = some (.ref ah)) (fl fh : Nat → Int32) (hfl : ∀ j, fl j = 0) (hfh : ∀ j, fh j = 0) (p0 p1 : Int32) : fn_CI (S := Unit) l D K yX12_tear (fn_ws yX12_tear cX12_tear 4 (some .int)) ({ frames := 12, cells := 0, slots := 0, locals := 300 }) [.ref m0, .int p0, .int p1] [(m0, .inr (12, fm)), (al, .inl (K 0, 5, .inl fl)), (ah, .inl (K 0, 40, .inl fh))] (fun r _ => r = (-2)) (fun _ => []) 0 0 := by
  refine fn_inI (cc := cX12_tear) (maxL := 4) (ret := (some .int)) (by decide) rfl (Nat.le_of_ble_eq_true rfl) ?_
  intro p e s m below meth c A ls B hA hP hD hS hl
  obtain ⟨hx, hb, hr, hml, hts, hown, hlocks, hin, hK⟩ := B
  have hown : s.vm.findClass RX12 = some m.cls := hown
  have hts := fun w h => hts w (List.mem_cons_of_mem _ h)
  have hl : lv_has ls 4 [(0, .ref m0), (1, .int p0), (2, .int p1)] := hl
  refine lv_aload_n hx hb dX12_tear_0 rfl (lv_at hl 0 rfl) ?_
  refine lv_iconst (v := 0) hx hb dX12_tear_1 (by decide) ?_
  refine va_put (D := D) (own := RX12) (ci := 12) (v := .int 0) (ty := .int) (C := RX12) (T := TX12) (N := 51) hx hb hts inb_X12 tyX12 tyX12_ok nmX12 hown hK.1 hP hD hS 0 rfl rfl 0 (by decide) (hts _ wd_1234) (fun _ h9 => h9) rfl (by decide +kernel) rfl rfl (fn_kl hmn (by decide)) dX12_tear_2 (fun H locs hP hD hS => ?_)
  have hP : va_P D vwCl [(m0, .inr (12, fm.set 0 (.int 0))), (al, .inl (K 0, 5, .inl fl)), (ah, .inl (K 0, 40, .inl fh))] H := hP
  have hD : va_D A [(m0, .inr (12, fm.set 0 (.int 0))), (al, .inl (K 0, 5, .inl fl)), (ah, .inl (K 0, 40, .inl fh))] := hD
  refine lv_aload_n hx hb dX12_tear_5 rfl (lv_at hl 0 rfl) ?_
  refine lv_iload_n hx hb dX12_tear_6 rfl (lv_at hl 1 rfl) ?_
  refine fn_goi (wc := [(m0, .inr (12, fm.set 0 (.int 0))), (al, .inl (K 0, 5, .inl fl)), (ah, .inl (K 0, 40, .inl fh))]) (wr := []) hK hP hD hS hA [0, 1, 2] [] rfl rfl (by decide) (fun hp => va_runV (C := RX12) (As := [.int p0]) (rest := []) ⟨hx, hb, hml, hown, hts⟩ (c_X12_isBook (l := l) (D := D) (K := K) (m0 := (m0)) (p0 := (p0)) (fm := (fm.set 0 (.int 0))) (hmn := (fn_sl hmn)) (al := (al)) (hm16 := (fn_gs (by decide) hm16)) (ah := (ah)) (hm17 := (fn_gs (by decide) hm17)) (fl := (fl)) (hfl := hfl) (fh := (fh)) (hfh := hfh) _) (cwV 1 hts (fn_ginV (fn_gin wd_1571) wd_1568 wd_1570 wp_122 wd_13) rfl rfl rfl (by decide +kernel) ⟨Nat.le_of_ble_eq_true rfl, Nat.le_of_ble_eq_true rfl⟩) ⟨fn_blind, va_recv hK.1 hP (ci := 12) (q0 := 0) rfl rfl, hp⟩ rfl rfl hl.1 rfl (lv_room (Nat.le_of_ble_eq_true rfl)) dX12_tear_7 ⟨Nat.le_of_ble_eq_true rfl, Nat.le_of_ble_eq_true rfl⟩) (fun r2 u1 H locs hwu1 hP hD hS => ?_)
  have r2_e : r2 = 0 := hwu1
  subst r2_e
  have hP : va_P D vwCl [] H := hP
  have hD : va_D A [] := hD
  refine lv_if_ne (tgt := 16) hx hb dX12_tear_10 (by decide) (fun h9 => absurd rfl h9) (fun _ => ?_)
  refine lv_bipush (v := (-2)) hx hb dX12_tear_13 (by decide) ?_
  exact fn_iret hx hb hr hlocks rfl hP hD hS () (by first | rfl | decide) [] (by decide) rfl dX12_tear_15
theorem dX12_misprint_0 : decode cX12_misprint 0 = .ok (.aload_n 0, 1) := by decide +kernel
theorem dX12_misprint_1 : decode cX12_misprint 1 = .ok (.iconst 0, 1) := by decide +kernel
theorem dX12_misprint_2 : decode cX12_misprint 2 = .ok (.putfield 104, 3) := by decide +kernel
theorem dX12_misprint_5 : decode cX12_misprint 5 = .ok (.aload_n 0, 1) := by decide +kernel
theorem dX12_misprint_6 : decode cX12_misprint 6 = .ok (.iload_n 1, 1) := by decide +kernel
theorem dX12_misprint_7 : decode cX12_misprint 7 = .ok (.invokevirtual 292, 3) := by decide +kernel
theorem dX12_misprint_10 : decode cX12_misprint 10 = .ok (.ifCond .eq 15, 3) := by decide +kernel
theorem dX12_misprint_25 : decode cX12_misprint 25 = .ok (.bipush (-2), 2) := by decide +kernel
theorem dX12_misprint_27 : decode cX12_misprint 27 = .ok (.ireturn, 1) := by decide +kernel
set_option maxHeartbeats 4000000 in
set_option maxRecDepth 100000 in
theorem c_X12_misprint (l : Launch) (D : va_G) (K : Nat → ClassId) (m0 al ah : Nat) (fm : List Value) (hmn : fm.length = 51) (hm16 : fm[16]? = some (.ref al)) (hm17 : fm[17]? = some (.ref ah)) (fl fh : Nat → Int32) (hfl : ∀ j, fl j = 0) (hfh : ∀ j, fh j = 0) (p0 p1 : Int32) : fn_CI (S := Unit) l D K yX12_misprint (fn_ws yX12_misprint cX12_misprint 3 (some .int)) ({ frames := 12, cells := 0, slots := 0, locals := 300 }) [.ref m0, .int p0, .int p1] [(m0, .inr (12, fm)), (al, .inl (K 0, 5, .inl fl)), (ah, .inl (K 0, 40, .inl fh))] (fun r _ => r = (-2)) (fun _ => []) 0 0 := by
  refine fn_inI (cc := cX12_misprint) (maxL := 3) (ret := (some .int)) (by decide) rfl (Nat.le_of_ble_eq_true rfl) ?_
  intro p e s m below meth c A ls B hA hP hD hS hl
  obtain ⟨hx, hb, hr, hml, hts, hown, hlocks, hin, hK⟩ := B
  have hown : s.vm.findClass RX12 = some m.cls := hown
  have hts := fun w h => hts w (List.mem_cons_of_mem _ h)
  have hl : lv_has ls 3 [(0, .ref m0), (1, .int p0), (2, .int p1)] := hl
  refine lv_aload_n hx hb dX12_misprint_0 rfl (lv_at hl 0 rfl) ?_
  refine lv_iconst (v := 0) hx hb dX12_misprint_1 (by decide) ?_
  refine va_put (D := D) (own := RX12) (ci := 12) (v := .int 0) (ty := .int) (C := RX12) (T := TX12) (N := 51) hx hb hts inb_X12 tyX12 tyX12_ok nmX12 hown hK.1 hP hD hS 0 rfl rfl 0 (by decide) (hts _ wd_1234) (fun _ h9 => h9) rfl (by decide +kernel) rfl rfl (fn_kl hmn (by decide)) dX12_misprint_2 (fun H locs hP hD hS => ?_)
  have hP : va_P D vwCl [(m0, .inr (12, fm.set 0 (.int 0))), (al, .inl (K 0, 5, .inl fl)), (ah, .inl (K 0, 40, .inl fh))] H := hP
  have hD : va_D A [(m0, .inr (12, fm.set 0 (.int 0))), (al, .inl (K 0, 5, .inl fl)), (ah, .inl (K 0, 40, .inl fh))] := hD
  refine lv_aload_n hx hb dX12_misprint_5 rfl (lv_at hl 0 rfl) ?_
  refine lv_iload_n hx hb dX12_misprint_6 rfl (lv_at hl 1 rfl) ?_
  refine fn_goi (wc := [(m0, .inr (12, fm.set 0 (.int 0))), (al, .inl (K 0, 5, .inl fl)), (ah, .inl (K 0, 40, .inl fh))]) (wr := []) hK hP hD hS hA [0, 1, 2] [] rfl rfl (by decide) (fun hp => va_runV (C := RX12) (As := [.int p0]) (rest := []) ⟨hx, hb, hml, hown, hts⟩ (c_X12_isNote (l := l) (D := D) (K := K) (m0 := (m0)) (p0 := (p0)) (fm := (fm.set 0 (.int 0))) (hmn := (fn_sl hmn)) (al := (al)) (hm16 := (fn_gs (by decide) hm16)) (ah := (ah)) (hm17 := (fn_gs (by decide) hm17)) (fl := (fl)) (hfl := hfl) (fh := (fh)) (hfh := hfh) _) (cwV 1 hts (fn_ginV (fn_gin wd_1583) wd_1580 wd_1582 wp_123 wd_13) rfl rfl rfl (by decide +kernel) ⟨Nat.le_of_ble_eq_true rfl, Nat.le_of_ble_eq_true rfl⟩) ⟨fn_blind, va_recv hK.1 hP (ci := 12) (q0 := 0) rfl rfl, hp⟩ rfl rfl hl.1 rfl (lv_room (Nat.le_of_ble_eq_true rfl)) dX12_misprint_7 ⟨Nat.le_of_ble_eq_true rfl, Nat.le_of_ble_eq_true rfl⟩) (fun r2 u1 H locs hwu1 hP hD hS => ?_)
  have r2_e : r2 = 0 := hwu1
  subst r2_e
  have hP : va_P D vwCl [] H := hP
  have hD : va_D A [] := hD
  refine lv_if_eq (tgt := 25) hx hb dX12_misprint_10 (by decide) (fun _ => ?_) (fun h9 => absurd (by decide) h9)
  refine lv_bipush (v := (-2)) hx hb dX12_misprint_25 (by decide) ?_
  exact fn_iret hx hb hr hlocks rfl hP hD hS () (by first | rfl | decide) [] (by decide) rfl dX12_misprint_27
theorem dX12_reach_0 : decode cX12_reach 0 = .ok (.aload_n 0, 1) := by decide +kernel
theorem dX12_reach_1 : decode cX12_reach 1 = .ok (.iconst 0, 1) := by decide +kernel
theorem dX12_reach_2 : decode cX12_reach 2 = .ok (.putfield 104, 3) := by decide +kernel
theorem dX12_reach_5 : decode cX12_reach 5 = .ok (.aload_n 0, 1) := by decide +kernel
theorem dX12_reach_6 : decode cX12_reach 6 = .ok (.iload_n 1, 1) := by decide +kernel
theorem dX12_reach_7 : decode cX12_reach 7 = .ok (.i2l, 1) := by decide +kernel
theorem dX12_reach_8 : decode cX12_reach 8 = .ok (.invokevirtual 262, 3) := by decide +kernel
theorem dX12_reach_11 : decode cX12_reach 11 = .ok (.ifCond .ne 6, 3) := by decide +kernel
theorem dX12_reach_14 : decode cX12_reach 14 = .ok (.bipush (-2), 2) := by decide +kernel
theorem dX12_reach_16 : decode cX12_reach 16 = .ok (.ireturn, 1) := by decide +kernel
set_option maxHeartbeats 4000000 in
set_option maxRecDepth 100000 in
theorem c_X12_reach (l : Launch) (D : va_G) (K : Nat → ClassId) (m0 al ah : Nat) (fm : List Value) (hmn : fm.length = 51) (hm16 : fm[16]? = some (.ref al)) (hm17 : fm[17]? = some (.ref ah)) (fl fh : Nat → Int32) (hfl : ∀ j, fl j = 0) (hfh : ∀ j, fh j = 0) (p0 : Int32) : fn_CI (S := Unit) l D K yX12_reach (fn_ws yX12_reach cX12_reach 2 (some .int)) ({ frames := 12, cells := 0, slots := 0, locals := 300 }) [.ref m0, .int p0] [(m0, .inr (12, fm)), (al, .inl (K 0, 5, .inl fl)), (ah, .inl (K 0, 40, .inl fh))] (fun r _ => r = (-2)) (fun _ => []) 0 0 := by
  refine fn_inI (cc := cX12_reach) (maxL := 2) (ret := (some .int)) (by decide) rfl (Nat.le_of_ble_eq_true rfl) ?_
  intro p e s m below meth c A ls B hA hP hD hS hl
  obtain ⟨hx, hb, hr, hml, hts, hown, hlocks, hin, hK⟩ := B
  have hown : s.vm.findClass RX12 = some m.cls := hown
  have hts := fun w h => hts w (List.mem_cons_of_mem _ h)
  have hl : lv_has ls 2 [(0, .ref m0), (1, .int p0)] := hl
  refine lv_aload_n hx hb dX12_reach_0 rfl (lv_at hl 0 rfl) ?_
  refine lv_iconst (v := 0) hx hb dX12_reach_1 (by decide) ?_
  refine va_put (D := D) (own := RX12) (ci := 12) (v := .int 0) (ty := .int) (C := RX12) (T := TX12) (N := 51) hx hb hts inb_X12 tyX12 tyX12_ok nmX12 hown hK.1 hP hD hS 0 rfl rfl 0 (by decide) (hts _ wd_1234) (fun _ h9 => h9) rfl (by decide +kernel) rfl rfl (fn_kl hmn (by decide)) dX12_reach_2 (fun H locs hP hD hS => ?_)
  have hP : va_P D vwCl [(m0, .inr (12, fm.set 0 (.int 0))), (al, .inl (K 0, 5, .inl fl)), (ah, .inl (K 0, 40, .inl fh))] H := hP
  have hD : va_D A [(m0, .inr (12, fm.set 0 (.int 0))), (al, .inl (K 0, 5, .inl fl)), (ah, .inl (K 0, 40, .inl fh))] := hD
  refine lv_aload_n hx hb dX12_reach_5 rfl (lv_at hl 0 rfl) ?_
  refine lv_iload_n hx hb dX12_reach_6 rfl (lv_at hl 1 rfl) ?_
  refine lv_i2l hx hb dX12_reach_7 rfl ?_
  refine fn_goi (wc := [(m0, .inr (12, fm.set 0 (.int 0))), (al, .inl (K 0, 5, .inl fl)), (ah, .inl (K 0, 40, .inl fh))]) (wr := []) hK hP hD hS hA [0, 1, 2] [] rfl rfl (by decide) (fun hp => va_runV (C := RX12) (As := [.long (Int32.toInt64 p0)]) (rest := []) ⟨hx, hb, hml, hown, hts⟩ (c_X12_isPage (l := l) (D := D) (K := K) (m0 := (m0)) (p0 := ((Int32.toInt64 p0))) (fm := (fm.set 0 (.int 0))) (hmn := (fn_sl hmn)) (al := (al)) (hm16 := (fn_gs (by decide) hm16)) (ah := (ah)) (hm17 := (fn_gs (by decide) hm17)) (fl := (fl)) (hfl := hfl) (fh := (fh)) (hfh := hfh) _) (cwV 1 hts (fn_ginV (fn_gin wd_1543) wd_1540 wd_1542 wp_116 wd_13) rfl rfl rfl (by decide +kernel) ⟨Nat.le_of_ble_eq_true rfl, Nat.le_of_ble_eq_true rfl⟩) ⟨fn_blind, va_recv hK.1 hP (ci := 12) (q0 := 0) rfl rfl, hp⟩ rfl rfl hl.1 rfl (lv_room (Nat.le_of_ble_eq_true rfl)) dX12_reach_8 ⟨Nat.le_of_ble_eq_true rfl, Nat.le_of_ble_eq_true rfl⟩) (fun r2 u1 H locs hwu1 hP hD hS => ?_)
  have r2_e : r2 = 0 := hwu1
  subst r2_e
  have hP : va_P D vwCl [] H := hP
  have hD : va_D A [] := hD
  refine lv_if_ne (tgt := 17) hx hb dX12_reach_11 (by decide) (fun h9 => absurd rfl h9) (fun _ => ?_)
  refine lv_bipush (v := (-2)) hx hb dX12_reach_14 (by decide) ?_
  exact fn_iret hx hb hr hlocks rfl hP hD hS () (by first | rfl | decide) [] (by decide) rfl dX12_reach_16
theorem dX12_upon_0 : decode cX12_upon 0 = .ok (.aload_n 0, 1) := by decide +kernel
theorem dX12_upon_1 : decode cX12_upon 1 = .ok (.iconst 0, 1) := by decide +kernel
theorem dX12_upon_2 : decode cX12_upon 2 = .ok (.putfield 104, 3) := by decide +kernel
theorem dX12_upon_5 : decode cX12_upon 5 = .ok (.aload_n 0, 1) := by decide +kernel
theorem dX12_upon_6 : decode cX12_upon 6 = .ok (.iload_n 1, 1) := by decide +kernel
theorem dX12_upon_7 : decode cX12_upon 7 = .ok (.i2l, 1) := by decide +kernel
theorem dX12_upon_8 : decode cX12_upon 8 = .ok (.invokevirtual 262, 3) := by decide +kernel
theorem dX12_upon_11 : decode cX12_upon 11 = .ok (.ifCond .ne 6, 3) := by decide +kernel
theorem dX12_upon_14 : decode cX12_upon 14 = .ok (.bipush (-2), 2) := by decide +kernel
theorem dX12_upon_16 : decode cX12_upon 16 = .ok (.ireturn, 1) := by decide +kernel
set_option maxHeartbeats 4000000 in
set_option maxRecDepth 100000 in
theorem c_X12_upon (l : Launch) (D : va_G) (K : Nat → ClassId) (m0 al ah : Nat) (fm : List Value) (hmn : fm.length = 51) (hm16 : fm[16]? = some (.ref al)) (hm17 : fm[17]? = some (.ref ah)) (fl fh : Nat → Int32) (hfl : ∀ j, fl j = 0) (hfh : ∀ j, fh j = 0) (p0 : Int32) : fn_CI (S := Unit) l D K yX12_upon (fn_ws yX12_upon cX12_upon 2 (some .int)) ({ frames := 12, cells := 0, slots := 0, locals := 300 }) [.ref m0, .int p0] [(m0, .inr (12, fm)), (al, .inl (K 0, 5, .inl fl)), (ah, .inl (K 0, 40, .inl fh))] (fun r _ => r = (-2)) (fun _ => []) 0 0 := by
  refine fn_inI (cc := cX12_upon) (maxL := 2) (ret := (some .int)) (by decide) rfl (Nat.le_of_ble_eq_true rfl) ?_
  intro p e s m below meth c A ls B hA hP hD hS hl
  obtain ⟨hx, hb, hr, hml, hts, hown, hlocks, hin, hK⟩ := B
  have hown : s.vm.findClass RX12 = some m.cls := hown
  have hts := fun w h => hts w (List.mem_cons_of_mem _ h)
  have hl : lv_has ls 2 [(0, .ref m0), (1, .int p0)] := hl
  refine lv_aload_n hx hb dX12_upon_0 rfl (lv_at hl 0 rfl) ?_
  refine lv_iconst (v := 0) hx hb dX12_upon_1 (by decide) ?_
  refine va_put (D := D) (own := RX12) (ci := 12) (v := .int 0) (ty := .int) (C := RX12) (T := TX12) (N := 51) hx hb hts inb_X12 tyX12 tyX12_ok nmX12 hown hK.1 hP hD hS 0 rfl rfl 0 (by decide) (hts _ wd_1234) (fun _ h9 => h9) rfl (by decide +kernel) rfl rfl (fn_kl hmn (by decide)) dX12_upon_2 (fun H locs hP hD hS => ?_)
  have hP : va_P D vwCl [(m0, .inr (12, fm.set 0 (.int 0))), (al, .inl (K 0, 5, .inl fl)), (ah, .inl (K 0, 40, .inl fh))] H := hP
  have hD : va_D A [(m0, .inr (12, fm.set 0 (.int 0))), (al, .inl (K 0, 5, .inl fl)), (ah, .inl (K 0, 40, .inl fh))] := hD
  refine lv_aload_n hx hb dX12_upon_5 rfl (lv_at hl 0 rfl) ?_
  refine lv_iload_n hx hb dX12_upon_6 rfl (lv_at hl 1 rfl) ?_
  refine lv_i2l hx hb dX12_upon_7 rfl ?_
  refine fn_goi (wc := [(m0, .inr (12, fm.set 0 (.int 0))), (al, .inl (K 0, 5, .inl fl)), (ah, .inl (K 0, 40, .inl fh))]) (wr := []) hK hP hD hS hA [0, 1, 2] [] rfl rfl (by decide) (fun hp => va_runV (C := RX12) (As := [.long (Int32.toInt64 p0)]) (rest := []) ⟨hx, hb, hml, hown, hts⟩ (c_X12_isPage (l := l) (D := D) (K := K) (m0 := (m0)) (p0 := ((Int32.toInt64 p0))) (fm := (fm.set 0 (.int 0))) (hmn := (fn_sl hmn)) (al := (al)) (hm16 := (fn_gs (by decide) hm16)) (ah := (ah)) (hm17 := (fn_gs (by decide) hm17)) (fl := (fl)) (hfl := hfl) (fh := (fh)) (hfh := hfh) _) (cwV 1 hts (fn_ginV (fn_gin wd_1543) wd_1540 wd_1542 wp_116 wd_13) rfl rfl rfl (by decide +kernel) ⟨Nat.le_of_ble_eq_true rfl, Nat.le_of_ble_eq_true rfl⟩) ⟨fn_blind, va_recv hK.1 hP (ci := 12) (q0 := 0) rfl rfl, hp⟩ rfl rfl hl.1 rfl (lv_room (Nat.le_of_ble_eq_true rfl)) dX12_upon_8 ⟨Nat.le_of_ble_eq_true rfl, Nat.le_of_ble_eq_true rfl⟩) (fun r2 u1 H locs hwu1 hP hD hS => ?_)
  have r2_e : r2 = 0 := hwu1
  subst r2_e
  have hP : va_P D vwCl [] H := hP
  have hD : va_D A [] := hD
  refine lv_if_ne (tgt := 17) hx hb dX12_upon_11 (by decide) (fun h9 => absurd rfl h9) (fun _ => ?_)
  refine lv_bipush (v := (-2)) hx hb dX12_upon_14 (by decide) ?_
  exact fn_iret hx hb hr hlocks rfl hP hD hS () (by first | rfl | decide) [] (by decide) rfl dX12_upon_16
theorem dX12_round_0 : decode cX12_round 0 = .ok (.aload_n 0, 1) := by decide +kernel
theorem dX12_round_1 : decode cX12_round 1 = .ok (.iconst 0, 1) := by decide +kernel
theorem dX12_round_2 : decode cX12_round 2 = .ok (.putfield 104, 3) := by decide +kernel
theorem dX12_round_5 : decode cX12_round 5 = .ok (.aload_n 0, 1) := by decide +kernel
theorem dX12_round_6 : decode cX12_round 6 = .ok (.iload_n 1, 1) := by decide +kernel
theorem dX12_round_7 : decode cX12_round 7 = .ok (.i2l, 1) := by decide +kernel
theorem dX12_round_8 : decode cX12_round 8 = .ok (.invokevirtual 262, 3) := by decide +kernel
theorem dX12_round_11 : decode cX12_round 11 = .ok (.ifCond .ne 6, 3) := by decide +kernel
theorem dX12_round_14 : decode cX12_round 14 = .ok (.bipush (-2), 2) := by decide +kernel
theorem dX12_round_16 : decode cX12_round 16 = .ok (.ireturn, 1) := by decide +kernel
set_option maxHeartbeats 4000000 in
set_option maxRecDepth 100000 in
theorem c_X12_round (l : Launch) (D : va_G) (K : Nat → ClassId) (m0 al ah : Nat) (fm : List Value) (hmn : fm.length = 51) (hm16 : fm[16]? = some (.ref al)) (hm17 : fm[17]? = some (.ref ah)) (fl fh : Nat → Int32) (hfl : ∀ j, fl j = 0) (hfh : ∀ j, fh j = 0) (p0 : Int32) : fn_CI (S := Unit) l D K yX12_round (fn_ws yX12_round cX12_round 4 (some .int)) ({ frames := 12, cells := 0, slots := 0, locals := 300 }) [.ref m0, .int p0] [(m0, .inr (12, fm)), (al, .inl (K 0, 5, .inl fl)), (ah, .inl (K 0, 40, .inl fh))] (fun r _ => r = (-2)) (fun _ => []) 0 0 := by
  refine fn_inI (cc := cX12_round) (maxL := 4) (ret := (some .int)) (by decide) rfl (Nat.le_of_ble_eq_true rfl) ?_
  intro p e s m below meth c A ls B hA hP hD hS hl
  obtain ⟨hx, hb, hr, hml, hts, hown, hlocks, hin, hK⟩ := B
  have hown : s.vm.findClass RX12 = some m.cls := hown
  have hts := fun w h => hts w (List.mem_cons_of_mem _ h)
  have hl : lv_has ls 4 [(0, .ref m0), (1, .int p0)] := hl
  refine lv_aload_n hx hb dX12_round_0 rfl (lv_at hl 0 rfl) ?_
  refine lv_iconst (v := 0) hx hb dX12_round_1 (by decide) ?_
  refine va_put (D := D) (own := RX12) (ci := 12) (v := .int 0) (ty := .int) (C := RX12) (T := TX12) (N := 51) hx hb hts inb_X12 tyX12 tyX12_ok nmX12 hown hK.1 hP hD hS 0 rfl rfl 0 (by decide) (hts _ wd_1234) (fun _ h9 => h9) rfl (by decide +kernel) rfl rfl (fn_kl hmn (by decide)) dX12_round_2 (fun H locs hP hD hS => ?_)
  have hP : va_P D vwCl [(m0, .inr (12, fm.set 0 (.int 0))), (al, .inl (K 0, 5, .inl fl)), (ah, .inl (K 0, 40, .inl fh))] H := hP
  have hD : va_D A [(m0, .inr (12, fm.set 0 (.int 0))), (al, .inl (K 0, 5, .inl fl)), (ah, .inl (K 0, 40, .inl fh))] := hD
  refine lv_aload_n hx hb dX12_round_5 rfl (lv_at hl 0 rfl) ?_
  refine lv_iload_n hx hb dX12_round_6 rfl (lv_at hl 1 rfl) ?_
  refine lv_i2l hx hb dX12_round_7 rfl ?_
  refine fn_goi (wc := [(m0, .inr (12, fm.set 0 (.int 0))), (al, .inl (K 0, 5, .inl fl)), (ah, .inl (K 0, 40, .inl fh))]) (wr := []) hK hP hD hS hA [0, 1, 2] [] rfl rfl (by decide) (fun hp => va_runV (C := RX12) (As := [.long (Int32.toInt64 p0)]) (rest := []) ⟨hx, hb, hml, hown, hts⟩ (c_X12_isPage (l := l) (D := D) (K := K) (m0 := (m0)) (p0 := ((Int32.toInt64 p0))) (fm := (fm.set 0 (.int 0))) (hmn := (fn_sl hmn)) (al := (al)) (hm16 := (fn_gs (by decide) hm16)) (ah := (ah)) (hm17 := (fn_gs (by decide) hm17)) (fl := (fl)) (hfl := hfl) (fh := (fh)) (hfh := hfh) _) (cwV 1 hts (fn_ginV (fn_gin wd_1543) wd_1540 wd_1542 wp_116 wd_13) rfl rfl rfl (by decide +kernel) ⟨Nat.le_of_ble_eq_true rfl, Nat.le_of_ble_eq_true rfl⟩) ⟨fn_blind, va_recv hK.1 hP (ci := 12) (q0 := 0) rfl rfl, hp⟩ rfl rfl hl.1 rfl (lv_room (Nat.le_of_ble_eq_true rfl)) dX12_round_8 ⟨Nat.le_of_ble_eq_true rfl, Nat.le_of_ble_eq_true rfl⟩) (fun r2 u1 H locs hwu1 hP hD hS => ?_)
  have r2_e : r2 = 0 := hwu1
  subst r2_e
  have hP : va_P D vwCl [] H := hP
  have hD : va_D A [] := hD
  refine lv_if_ne (tgt := 17) hx hb dX12_round_11 (by decide) (fun h9 => absurd rfl h9) (fun _ => ?_)
  refine lv_bipush (v := (-2)) hx hb dX12_round_14 (by decide) ?_
  exact fn_iret hx hb hr hlocks rfl hP hD hS () (by first | rfl | decide) [] (by decide) rfl dX12_round_16
theorem dX12_ring_0 : decode cX12_ring 0 = .ok (.aload_n 0, 1) := by decide +kernel
theorem dX12_ring_1 : decode cX12_ring 1 = .ok (.iconst 0, 1) := by decide +kernel
theorem dX12_ring_2 : decode cX12_ring 2 = .ok (.putfield 104, 3) := by decide +kernel
theorem dX12_ring_5 : decode cX12_ring 5 = .ok (.aload_n 0, 1) := by decide +kernel
theorem dX12_ring_6 : decode cX12_ring 6 = .ok (.iload_n 1, 1) := by decide +kernel
theorem dX12_ring_7 : decode cX12_ring 7 = .ok (.i2l, 1) := by decide +kernel
theorem dX12_ring_8 : decode cX12_ring 8 = .ok (.invokevirtual 262, 3) := by decide +kernel
theorem dX12_ring_11 : decode cX12_ring 11 = .ok (.ifCond .ne 6, 3) := by decide +kernel
theorem dX12_ring_14 : decode cX12_ring 14 = .ok (.bipush (-2), 2) := by decide +kernel
theorem dX12_ring_16 : decode cX12_ring 16 = .ok (.ireturn, 1) := by decide +kernel
set_option maxHeartbeats 4000000 in
set_option maxRecDepth 100000 in
theorem c_X12_ring (l : Launch) (D : va_G) (K : Nat → ClassId) (m0 al ah : Nat) (fm : List Value) (hmn : fm.length = 51) (hm16 : fm[16]? = some (.ref al)) (hm17 : fm[17]? = some (.ref ah)) (fl fh : Nat → Int32) (hfl : ∀ j, fl j = 0) (hfh : ∀ j, fh j = 0) (p0 : Int32) : fn_CI (S := Unit) l D K yX12_ring (fn_ws yX12_ring cX12_ring 2 (some .int)) ({ frames := 12, cells := 0, slots := 0, locals := 300 }) [.ref m0, .int p0] [(m0, .inr (12, fm)), (al, .inl (K 0, 5, .inl fl)), (ah, .inl (K 0, 40, .inl fh))] (fun r _ => r = (-2)) (fun _ => []) 0 0 := by
  refine fn_inI (cc := cX12_ring) (maxL := 2) (ret := (some .int)) (by decide) rfl (Nat.le_of_ble_eq_true rfl) ?_
  intro p e s m below meth c A ls B hA hP hD hS hl
  obtain ⟨hx, hb, hr, hml, hts, hown, hlocks, hin, hK⟩ := B
  have hown : s.vm.findClass RX12 = some m.cls := hown
  have hts := fun w h => hts w (List.mem_cons_of_mem _ h)
  have hl : lv_has ls 2 [(0, .ref m0), (1, .int p0)] := hl
  refine lv_aload_n hx hb dX12_ring_0 rfl (lv_at hl 0 rfl) ?_
  refine lv_iconst (v := 0) hx hb dX12_ring_1 (by decide) ?_
  refine va_put (D := D) (own := RX12) (ci := 12) (v := .int 0) (ty := .int) (C := RX12) (T := TX12) (N := 51) hx hb hts inb_X12 tyX12 tyX12_ok nmX12 hown hK.1 hP hD hS 0 rfl rfl 0 (by decide) (hts _ wd_1234) (fun _ h9 => h9) rfl (by decide +kernel) rfl rfl (fn_kl hmn (by decide)) dX12_ring_2 (fun H locs hP hD hS => ?_)
  have hP : va_P D vwCl [(m0, .inr (12, fm.set 0 (.int 0))), (al, .inl (K 0, 5, .inl fl)), (ah, .inl (K 0, 40, .inl fh))] H := hP
  have hD : va_D A [(m0, .inr (12, fm.set 0 (.int 0))), (al, .inl (K 0, 5, .inl fl)), (ah, .inl (K 0, 40, .inl fh))] := hD
  refine lv_aload_n hx hb dX12_ring_5 rfl (lv_at hl 0 rfl) ?_
  refine lv_iload_n hx hb dX12_ring_6 rfl (lv_at hl 1 rfl) ?_
  refine lv_i2l hx hb dX12_ring_7 rfl ?_
  refine fn_goi (wc := [(m0, .inr (12, fm.set 0 (.int 0))), (al, .inl (K 0, 5, .inl fl)), (ah, .inl (K 0, 40, .inl fh))]) (wr := []) hK hP hD hS hA [0, 1, 2] [] rfl rfl (by decide) (fun hp => va_runV (C := RX12) (As := [.long (Int32.toInt64 p0)]) (rest := []) ⟨hx, hb, hml, hown, hts⟩ (c_X12_isPage (l := l) (D := D) (K := K) (m0 := (m0)) (p0 := ((Int32.toInt64 p0))) (fm := (fm.set 0 (.int 0))) (hmn := (fn_sl hmn)) (al := (al)) (hm16 := (fn_gs (by decide) hm16)) (ah := (ah)) (hm17 := (fn_gs (by decide) hm17)) (fl := (fl)) (hfl := hfl) (fh := (fh)) (hfh := hfh) _) (cwV 1 hts (fn_ginV (fn_gin wd_1543) wd_1540 wd_1542 wp_116 wd_13) rfl rfl rfl (by decide +kernel) ⟨Nat.le_of_ble_eq_true rfl, Nat.le_of_ble_eq_true rfl⟩) ⟨fn_blind, va_recv hK.1 hP (ci := 12) (q0 := 0) rfl rfl, hp⟩ rfl rfl hl.1 rfl (lv_room (Nat.le_of_ble_eq_true rfl)) dX12_ring_8 ⟨Nat.le_of_ble_eq_true rfl, Nat.le_of_ble_eq_true rfl⟩) (fun r2 u1 H locs hwu1 hP hD hS => ?_)
  have r2_e : r2 = 0 := hwu1
  subst r2_e
  have hP : va_P D vwCl [] H := hP
  have hD : va_D A [] := hD
  refine lv_if_ne (tgt := 17) hx hb dX12_ring_11 (by decide) (fun h9 => absurd rfl h9) (fun _ => ?_)
  refine lv_bipush (v := (-2)) hx hb dX12_ring_14 (by decide) ?_
  exact fn_iret hx hb hr hlocks rfl hP hD hS () (by first | rfl | decide) [] (by decide) rfl dX12_ring_16
theorem dX12_way_0 : decode cX12_way 0 = .ok (.aload_n 0, 1) := by decide +kernel
theorem dX12_way_1 : decode cX12_way 1 = .ok (.iconst 0, 1) := by decide +kernel
theorem dX12_way_2 : decode cX12_way 2 = .ok (.putfield 104, 3) := by decide +kernel
theorem dX12_way_5 : decode cX12_way 5 = .ok (.aload_n 0, 1) := by decide +kernel
theorem dX12_way_6 : decode cX12_way 6 = .ok (.iload_n 1, 1) := by decide +kernel
theorem dX12_way_7 : decode cX12_way 7 = .ok (.i2l, 1) := by decide +kernel
theorem dX12_way_8 : decode cX12_way 8 = .ok (.invokevirtual 262, 3) := by decide +kernel
theorem dX12_way_11 : decode cX12_way 11 = .ok (.ifCond .ne 6, 3) := by decide +kernel
theorem dX12_way_14 : decode cX12_way 14 = .ok (.bipush (-2), 2) := by decide +kernel
theorem dX12_way_16 : decode cX12_way 16 = .ok (.ireturn, 1) := by decide +kernel
set_option maxHeartbeats 4000000 in
set_option maxRecDepth 100000 in
theorem c_X12_way (l : Launch) (D : va_G) (K : Nat → ClassId) (m0 al ah : Nat) (fm : List Value) (hmn : fm.length = 51) (hm16 : fm[16]? = some (.ref al)) (hm17 : fm[17]? = some (.ref ah)) (fl fh : Nat → Int32) (hfl : ∀ j, fl j = 0) (hfh : ∀ j, fh j = 0) (p0 : Int32) : fn_CI (S := Unit) l D K yX12_way (fn_ws yX12_way cX12_way 3 (some .int)) ({ frames := 12, cells := 0, slots := 0, locals := 300 }) [.ref m0, .int p0] [(m0, .inr (12, fm)), (al, .inl (K 0, 5, .inl fl)), (ah, .inl (K 0, 40, .inl fh))] (fun r _ => r = (-2)) (fun _ => []) 0 0 := by
  refine fn_inI (cc := cX12_way) (maxL := 3) (ret := (some .int)) (by decide) rfl (Nat.le_of_ble_eq_true rfl) ?_
  intro p e s m below meth c A ls B hA hP hD hS hl
  obtain ⟨hx, hb, hr, hml, hts, hown, hlocks, hin, hK⟩ := B
  have hown : s.vm.findClass RX12 = some m.cls := hown
  have hts := fun w h => hts w (List.mem_cons_of_mem _ h)
  have hl : lv_has ls 3 [(0, .ref m0), (1, .int p0)] := hl
  refine lv_aload_n hx hb dX12_way_0 rfl (lv_at hl 0 rfl) ?_
  refine lv_iconst (v := 0) hx hb dX12_way_1 (by decide) ?_
  refine va_put (D := D) (own := RX12) (ci := 12) (v := .int 0) (ty := .int) (C := RX12) (T := TX12) (N := 51) hx hb hts inb_X12 tyX12 tyX12_ok nmX12 hown hK.1 hP hD hS 0 rfl rfl 0 (by decide) (hts _ wd_1234) (fun _ h9 => h9) rfl (by decide +kernel) rfl rfl (fn_kl hmn (by decide)) dX12_way_2 (fun H locs hP hD hS => ?_)
  have hP : va_P D vwCl [(m0, .inr (12, fm.set 0 (.int 0))), (al, .inl (K 0, 5, .inl fl)), (ah, .inl (K 0, 40, .inl fh))] H := hP
  have hD : va_D A [(m0, .inr (12, fm.set 0 (.int 0))), (al, .inl (K 0, 5, .inl fl)), (ah, .inl (K 0, 40, .inl fh))] := hD
  refine lv_aload_n hx hb dX12_way_5 rfl (lv_at hl 0 rfl) ?_
  refine lv_iload_n hx hb dX12_way_6 rfl (lv_at hl 1 rfl) ?_
  refine lv_i2l hx hb dX12_way_7 rfl ?_
  refine fn_goi (wc := [(m0, .inr (12, fm.set 0 (.int 0))), (al, .inl (K 0, 5, .inl fl)), (ah, .inl (K 0, 40, .inl fh))]) (wr := []) hK hP hD hS hA [0, 1, 2] [] rfl rfl (by decide) (fun hp => va_runV (C := RX12) (As := [.long (Int32.toInt64 p0)]) (rest := []) ⟨hx, hb, hml, hown, hts⟩ (c_X12_isPage (l := l) (D := D) (K := K) (m0 := (m0)) (p0 := ((Int32.toInt64 p0))) (fm := (fm.set 0 (.int 0))) (hmn := (fn_sl hmn)) (al := (al)) (hm16 := (fn_gs (by decide) hm16)) (ah := (ah)) (hm17 := (fn_gs (by decide) hm17)) (fl := (fl)) (hfl := hfl) (fh := (fh)) (hfh := hfh) _) (cwV 1 hts (fn_ginV (fn_gin wd_1543) wd_1540 wd_1542 wp_116 wd_13) rfl rfl rfl (by decide +kernel) ⟨Nat.le_of_ble_eq_true rfl, Nat.le_of_ble_eq_true rfl⟩) ⟨fn_blind, va_recv hK.1 hP (ci := 12) (q0 := 0) rfl rfl, hp⟩ rfl rfl hl.1 rfl (lv_room (Nat.le_of_ble_eq_true rfl)) dX12_way_8 ⟨Nat.le_of_ble_eq_true rfl, Nat.le_of_ble_eq_true rfl⟩) (fun r2 u1 H locs hwu1 hP hD hS => ?_)
  have r2_e : r2 = 0 := hwu1
  subst r2_e
  have hP : va_P D vwCl [] H := hP
  have hD : va_D A [] := hD
  refine lv_if_ne (tgt := 17) hx hb dX12_way_11 (by decide) (fun h9 => absurd rfl h9) (fun _ => ?_)
  refine lv_bipush (v := (-2)) hx hb dX12_way_14 (by decide) ?_
  exact fn_iret hx hb hr hlocks rfl hP hD hS () (by first | rfl | decide) [] (by decide) rfl dX12_way_16
theorem dX12_step_0 : decode cX12_step 0 = .ok (.aload_n 0, 1) := by decide +kernel
theorem dX12_step_1 : decode cX12_step 1 = .ok (.iconst 0, 1) := by decide +kernel
theorem dX12_step_2 : decode cX12_step 2 = .ok (.putfield 104, 3) := by decide +kernel
theorem dX12_step_5 : decode cX12_step 5 = .ok (.aload_n 0, 1) := by decide +kernel
theorem dX12_step_6 : decode cX12_step 6 = .ok (.iload_n 1, 1) := by decide +kernel
theorem dX12_step_7 : decode cX12_step 7 = .ok (.i2l, 1) := by decide +kernel
theorem dX12_step_8 : decode cX12_step 8 = .ok (.invokevirtual 262, 3) := by decide +kernel
theorem dX12_step_11 : decode cX12_step 11 = .ok (.ifCond .ne 6, 3) := by decide +kernel
theorem dX12_step_14 : decode cX12_step 14 = .ok (.bipush (-2), 2) := by decide +kernel
theorem dX12_step_16 : decode cX12_step 16 = .ok (.ireturn, 1) := by decide +kernel
set_option maxHeartbeats 4000000 in
set_option maxRecDepth 100000 in
theorem c_X12_step (l : Launch) (D : va_G) (K : Nat → ClassId) (m0 al ah : Nat) (fm : List Value) (hmn : fm.length = 51) (hm16 : fm[16]? = some (.ref al)) (hm17 : fm[17]? = some (.ref ah)) (fl fh : Nat → Int32) (hfl : ∀ j, fl j = 0) (hfh : ∀ j, fh j = 0) (p0 p1 : Int32) : fn_CI (S := Unit) l D K yX12_step (fn_ws yX12_step cX12_step 7 (some .int)) ({ frames := 12, cells := 0, slots := 0, locals := 300 }) [.ref m0, .int p0, .int p1] [(m0, .inr (12, fm)), (al, .inl (K 0, 5, .inl fl)), (ah, .inl (K 0, 40, .inl fh))] (fun r _ => r = (-2)) (fun _ => []) 0 0 := by
  refine fn_inI (cc := cX12_step) (maxL := 7) (ret := (some .int)) (by decide) rfl (Nat.le_of_ble_eq_true rfl) ?_
  intro p e s m below meth c A ls B hA hP hD hS hl
  obtain ⟨hx, hb, hr, hml, hts, hown, hlocks, hin, hK⟩ := B
  have hown : s.vm.findClass RX12 = some m.cls := hown
  have hts := fun w h => hts w (List.mem_cons_of_mem _ h)
  have hl : lv_has ls 7 [(0, .ref m0), (1, .int p0), (2, .int p1)] := hl
  refine lv_aload_n hx hb dX12_step_0 rfl (lv_at hl 0 rfl) ?_
  refine lv_iconst (v := 0) hx hb dX12_step_1 (by decide) ?_
  refine va_put (D := D) (own := RX12) (ci := 12) (v := .int 0) (ty := .int) (C := RX12) (T := TX12) (N := 51) hx hb hts inb_X12 tyX12 tyX12_ok nmX12 hown hK.1 hP hD hS 0 rfl rfl 0 (by decide) (hts _ wd_1234) (fun _ h9 => h9) rfl (by decide +kernel) rfl rfl (fn_kl hmn (by decide)) dX12_step_2 (fun H locs hP hD hS => ?_)
  have hP : va_P D vwCl [(m0, .inr (12, fm.set 0 (.int 0))), (al, .inl (K 0, 5, .inl fl)), (ah, .inl (K 0, 40, .inl fh))] H := hP
  have hD : va_D A [(m0, .inr (12, fm.set 0 (.int 0))), (al, .inl (K 0, 5, .inl fl)), (ah, .inl (K 0, 40, .inl fh))] := hD
  refine lv_aload_n hx hb dX12_step_5 rfl (lv_at hl 0 rfl) ?_
  refine lv_iload_n hx hb dX12_step_6 rfl (lv_at hl 1 rfl) ?_
  refine lv_i2l hx hb dX12_step_7 rfl ?_
  refine fn_goi (wc := [(m0, .inr (12, fm.set 0 (.int 0))), (al, .inl (K 0, 5, .inl fl)), (ah, .inl (K 0, 40, .inl fh))]) (wr := []) hK hP hD hS hA [0, 1, 2] [] rfl rfl (by decide) (fun hp => va_runV (C := RX12) (As := [.long (Int32.toInt64 p0)]) (rest := []) ⟨hx, hb, hml, hown, hts⟩ (c_X12_isPage (l := l) (D := D) (K := K) (m0 := (m0)) (p0 := ((Int32.toInt64 p0))) (fm := (fm.set 0 (.int 0))) (hmn := (fn_sl hmn)) (al := (al)) (hm16 := (fn_gs (by decide) hm16)) (ah := (ah)) (hm17 := (fn_gs (by decide) hm17)) (fl := (fl)) (hfl := hfl) (fh := (fh)) (hfh := hfh) _) (cwV 1 hts (fn_ginV (fn_gin wd_1543) wd_1540 wd_1542 wp_116 wd_13) rfl rfl rfl (by decide +kernel) ⟨Nat.le_of_ble_eq_true rfl, Nat.le_of_ble_eq_true rfl⟩) ⟨fn_blind, va_recv hK.1 hP (ci := 12) (q0 := 0) rfl rfl, hp⟩ rfl rfl hl.1 rfl (lv_room (Nat.le_of_ble_eq_true rfl)) dX12_step_8 ⟨Nat.le_of_ble_eq_true rfl, Nat.le_of_ble_eq_true rfl⟩) (fun r2 u1 H locs hwu1 hP hD hS => ?_)
  have r2_e : r2 = 0 := hwu1
  subst r2_e
  have hP : va_P D vwCl [] H := hP
  have hD : va_D A [] := hD
  refine lv_if_ne (tgt := 17) hx hb dX12_step_11 (by decide) (fun h9 => absurd rfl h9) (fun _ => ?_)
  refine lv_bipush (v := (-2)) hx hb dX12_step_14 (by decide) ?_
  exact fn_iret hx hb hr hlocks rfl hP hD hS () (by first | rfl | decide) [] (by decide) rfl dX12_step_16
theorem dX12_depth_0 : decode cX12_depth 0 = .ok (.aload_n 0, 1) := by decide +kernel
theorem dX12_depth_1 : decode cX12_depth 1 = .ok (.iconst 0, 1) := by decide +kernel
theorem dX12_depth_2 : decode cX12_depth 2 = .ok (.putfield 104, 3) := by decide +kernel
theorem dX12_depth_5 : decode cX12_depth 5 = .ok (.aload_n 0, 1) := by decide +kernel
theorem dX12_depth_6 : decode cX12_depth 6 = .ok (.iload_n 1, 1) := by decide +kernel
theorem dX12_depth_7 : decode cX12_depth 7 = .ok (.i2l, 1) := by decide +kernel
theorem dX12_depth_8 : decode cX12_depth 8 = .ok (.invokevirtual 262, 3) := by decide +kernel
theorem dX12_depth_11 : decode cX12_depth 11 = .ok (.ifCond .ne 6, 3) := by decide +kernel
theorem dX12_depth_14 : decode cX12_depth 14 = .ok (.bipush (-2), 2) := by decide +kernel
theorem dX12_depth_16 : decode cX12_depth 16 = .ok (.ireturn, 1) := by decide +kernel
set_option maxHeartbeats 4000000 in
set_option maxRecDepth 100000 in
theorem c_X12_depth (l : Launch) (D : va_G) (K : Nat → ClassId) (m0 al ah : Nat) (fm : List Value) (hmn : fm.length = 51) (hm16 : fm[16]? = some (.ref al)) (hm17 : fm[17]? = some (.ref ah)) (fl fh : Nat → Int32) (hfl : ∀ j, fl j = 0) (hfh : ∀ j, fh j = 0) (p0 : Int32) : fn_CI (S := Unit) l D K yX12_depth (fn_ws yX12_depth cX12_depth 2 (some .int)) ({ frames := 12, cells := 0, slots := 0, locals := 300 }) [.ref m0, .int p0] [(m0, .inr (12, fm)), (al, .inl (K 0, 5, .inl fl)), (ah, .inl (K 0, 40, .inl fh))] (fun r _ => r = (-2)) (fun _ => []) 0 0 := by
  refine fn_inI (cc := cX12_depth) (maxL := 2) (ret := (some .int)) (by decide) rfl (Nat.le_of_ble_eq_true rfl) ?_
  intro p e s m below meth c A ls B hA hP hD hS hl
  obtain ⟨hx, hb, hr, hml, hts, hown, hlocks, hin, hK⟩ := B
  have hown : s.vm.findClass RX12 = some m.cls := hown
  have hts := fun w h => hts w (List.mem_cons_of_mem _ h)
  have hl : lv_has ls 2 [(0, .ref m0), (1, .int p0)] := hl
  refine lv_aload_n hx hb dX12_depth_0 rfl (lv_at hl 0 rfl) ?_
  refine lv_iconst (v := 0) hx hb dX12_depth_1 (by decide) ?_
  refine va_put (D := D) (own := RX12) (ci := 12) (v := .int 0) (ty := .int) (C := RX12) (T := TX12) (N := 51) hx hb hts inb_X12 tyX12 tyX12_ok nmX12 hown hK.1 hP hD hS 0 rfl rfl 0 (by decide) (hts _ wd_1234) (fun _ h9 => h9) rfl (by decide +kernel) rfl rfl (fn_kl hmn (by decide)) dX12_depth_2 (fun H locs hP hD hS => ?_)
  have hP : va_P D vwCl [(m0, .inr (12, fm.set 0 (.int 0))), (al, .inl (K 0, 5, .inl fl)), (ah, .inl (K 0, 40, .inl fh))] H := hP
  have hD : va_D A [(m0, .inr (12, fm.set 0 (.int 0))), (al, .inl (K 0, 5, .inl fl)), (ah, .inl (K 0, 40, .inl fh))] := hD
  refine lv_aload_n hx hb dX12_depth_5 rfl (lv_at hl 0 rfl) ?_
  refine lv_iload_n hx hb dX12_depth_6 rfl (lv_at hl 1 rfl) ?_
  refine lv_i2l hx hb dX12_depth_7 rfl ?_
  refine fn_goi (wc := [(m0, .inr (12, fm.set 0 (.int 0))), (al, .inl (K 0, 5, .inl fl)), (ah, .inl (K 0, 40, .inl fh))]) (wr := []) hK hP hD hS hA [0, 1, 2] [] rfl rfl (by decide) (fun hp => va_runV (C := RX12) (As := [.long (Int32.toInt64 p0)]) (rest := []) ⟨hx, hb, hml, hown, hts⟩ (c_X12_isPage (l := l) (D := D) (K := K) (m0 := (m0)) (p0 := ((Int32.toInt64 p0))) (fm := (fm.set 0 (.int 0))) (hmn := (fn_sl hmn)) (al := (al)) (hm16 := (fn_gs (by decide) hm16)) (ah := (ah)) (hm17 := (fn_gs (by decide) hm17)) (fl := (fl)) (hfl := hfl) (fh := (fh)) (hfh := hfh) _) (cwV 1 hts (fn_ginV (fn_gin wd_1543) wd_1540 wd_1542 wp_116 wd_13) rfl rfl rfl (by decide +kernel) ⟨Nat.le_of_ble_eq_true rfl, Nat.le_of_ble_eq_true rfl⟩) ⟨fn_blind, va_recv hK.1 hP (ci := 12) (q0 := 0) rfl rfl, hp⟩ rfl rfl hl.1 rfl (lv_room (Nat.le_of_ble_eq_true rfl)) dX12_depth_8 ⟨Nat.le_of_ble_eq_true rfl, Nat.le_of_ble_eq_true rfl⟩) (fun r2 u1 H locs hwu1 hP hD hS => ?_)
  have r2_e : r2 = 0 := hwu1
  subst r2_e
  have hP : va_P D vwCl [] H := hP
  have hD : va_D A [] := hD
  refine lv_if_ne (tgt := 17) hx hb dX12_depth_11 (by decide) (fun h9 => absurd rfl h9) (fun _ => ?_)
  refine lv_bipush (v := (-2)) hx hb dX12_depth_14 (by decide) ?_
  exact fn_iret hx hb hr hlocks rfl hP hD hS () (by first | rfl | decide) [] (by decide) rfl dX12_depth_16
theorem dX12_needs_0 : decode cX12_needs 0 = .ok (.aload_n 0, 1) := by decide +kernel
theorem dX12_needs_1 : decode cX12_needs 1 = .ok (.iconst 0, 1) := by decide +kernel
theorem dX12_needs_2 : decode cX12_needs 2 = .ok (.putfield 104, 3) := by decide +kernel
theorem dX12_needs_5 : decode cX12_needs 5 = .ok (.aload_n 0, 1) := by decide +kernel
theorem dX12_needs_6 : decode cX12_needs 6 = .ok (.iload_n 1, 1) := by decide +kernel
theorem dX12_needs_7 : decode cX12_needs 7 = .ok (.i2l, 1) := by decide +kernel
theorem dX12_needs_8 : decode cX12_needs 8 = .ok (.invokevirtual 262, 3) := by decide +kernel
theorem dX12_needs_11 : decode cX12_needs 11 = .ok (.ifCond .ne 6, 3) := by decide +kernel
theorem dX12_needs_14 : decode cX12_needs 14 = .ok (.bipush (-2), 2) := by decide +kernel
theorem dX12_needs_16 : decode cX12_needs 16 = .ok (.ireturn, 1) := by decide +kernel
set_option maxHeartbeats 4000000 in
set_option maxRecDepth 100000 in
theorem c_X12_needs (l : Launch) (D : va_G) (K : Nat → ClassId) (m0 al ah : Nat) (fm : List Value) (hmn : fm.length = 51) (hm16 : fm[16]? = some (.ref al)) (hm17 : fm[17]? = some (.ref ah)) (fl fh : Nat → Int32) (hfl : ∀ j, fl j = 0) (hfh : ∀ j, fh j = 0) (p0 : Int32) : fn_CI (S := Unit) l D K yX12_needs (fn_ws yX12_needs cX12_needs 4 (some .int)) ({ frames := 12, cells := 0, slots := 0, locals := 300 }) [.ref m0, .int p0] [(m0, .inr (12, fm)), (al, .inl (K 0, 5, .inl fl)), (ah, .inl (K 0, 40, .inl fh))] (fun r _ => r = (-2)) (fun _ => []) 0 0 := by
  refine fn_inI (cc := cX12_needs) (maxL := 4) (ret := (some .int)) (by decide) rfl (Nat.le_of_ble_eq_true rfl) ?_
  intro p e s m below meth c A ls B hA hP hD hS hl
  obtain ⟨hx, hb, hr, hml, hts, hown, hlocks, hin, hK⟩ := B
  have hown : s.vm.findClass RX12 = some m.cls := hown
  have hts := fun w h => hts w (List.mem_cons_of_mem _ h)
  have hl : lv_has ls 4 [(0, .ref m0), (1, .int p0)] := hl
  refine lv_aload_n hx hb dX12_needs_0 rfl (lv_at hl 0 rfl) ?_
  refine lv_iconst (v := 0) hx hb dX12_needs_1 (by decide) ?_
  refine va_put (D := D) (own := RX12) (ci := 12) (v := .int 0) (ty := .int) (C := RX12) (T := TX12) (N := 51) hx hb hts inb_X12 tyX12 tyX12_ok nmX12 hown hK.1 hP hD hS 0 rfl rfl 0 (by decide) (hts _ wd_1234) (fun _ h9 => h9) rfl (by decide +kernel) rfl rfl (fn_kl hmn (by decide)) dX12_needs_2 (fun H locs hP hD hS => ?_)
  have hP : va_P D vwCl [(m0, .inr (12, fm.set 0 (.int 0))), (al, .inl (K 0, 5, .inl fl)), (ah, .inl (K 0, 40, .inl fh))] H := hP
  have hD : va_D A [(m0, .inr (12, fm.set 0 (.int 0))), (al, .inl (K 0, 5, .inl fl)), (ah, .inl (K 0, 40, .inl fh))] := hD
  refine lv_aload_n hx hb dX12_needs_5 rfl (lv_at hl 0 rfl) ?_
  refine lv_iload_n hx hb dX12_needs_6 rfl (lv_at hl 1 rfl) ?_
  refine lv_i2l hx hb dX12_needs_7 rfl ?_
  refine fn_goi (wc := [(m0, .inr (12, fm.set 0 (.int 0))), (al, .inl (K 0, 5, .inl fl)), (ah, .inl (K 0, 40, .inl fh))]) (wr := []) hK hP hD hS hA [0, 1, 2] [] rfl rfl (by decide) (fun hp => va_runV (C := RX12) (As := [.long (Int32.toInt64 p0)]) (rest := []) ⟨hx, hb, hml, hown, hts⟩ (c_X12_isPage (l := l) (D := D) (K := K) (m0 := (m0)) (p0 := ((Int32.toInt64 p0))) (fm := (fm.set 0 (.int 0))) (hmn := (fn_sl hmn)) (al := (al)) (hm16 := (fn_gs (by decide) hm16)) (ah := (ah)) (hm17 := (fn_gs (by decide) hm17)) (fl := (fl)) (hfl := hfl) (fh := (fh)) (hfh := hfh) _) (cwV 1 hts (fn_ginV (fn_gin wd_1543) wd_1540 wd_1542 wp_116 wd_13) rfl rfl rfl (by decide +kernel) ⟨Nat.le_of_ble_eq_true rfl, Nat.le_of_ble_eq_true rfl⟩) ⟨fn_blind, va_recv hK.1 hP (ci := 12) (q0 := 0) rfl rfl, hp⟩ rfl rfl hl.1 rfl (lv_room (Nat.le_of_ble_eq_true rfl)) dX12_needs_8 ⟨Nat.le_of_ble_eq_true rfl, Nat.le_of_ble_eq_true rfl⟩) (fun r2 u1 H locs hwu1 hP hD hS => ?_)
  have r2_e : r2 = 0 := hwu1
  subst r2_e
  have hP : va_P D vwCl [] H := hP
  have hD : va_D A [] := hD
  refine lv_if_ne (tgt := 17) hx hb dX12_needs_11 (by decide) (fun h9 => absurd rfl h9) (fun _ => ?_)
  refine lv_bipush (v := (-2)) hx hb dX12_needs_14 (by decide) ?_
  exact fn_iret hx hb hr hlocks rfl hP hD hS () (by first | rfl | decide) [] (by decide) rfl dX12_needs_16
theorem dX12_loss_0 : decode cX12_loss 0 = .ok (.aload_n 0, 1) := by decide +kernel
theorem dX12_loss_1 : decode cX12_loss 1 = .ok (.iconst 0, 1) := by decide +kernel
theorem dX12_loss_2 : decode cX12_loss 2 = .ok (.putfield 104, 3) := by decide +kernel
theorem dX12_loss_5 : decode cX12_loss 5 = .ok (.aload_n 0, 1) := by decide +kernel
theorem dX12_loss_6 : decode cX12_loss 6 = .ok (.iload_n 1, 1) := by decide +kernel
theorem dX12_loss_7 : decode cX12_loss 7 = .ok (.i2l, 1) := by decide +kernel
theorem dX12_loss_8 : decode cX12_loss 8 = .ok (.invokevirtual 262, 3) := by decide +kernel
theorem dX12_loss_11 : decode cX12_loss 11 = .ok (.ifCond .ne 6, 3) := by decide +kernel
theorem dX12_loss_14 : decode cX12_loss 14 = .ok (.bipush (-2), 2) := by decide +kernel
theorem dX12_loss_16 : decode cX12_loss 16 = .ok (.ireturn, 1) := by decide +kernel
set_option maxHeartbeats 4000000 in
set_option maxRecDepth 100000 in
theorem c_X12_loss (l : Launch) (D : va_G) (K : Nat → ClassId) (m0 al ah : Nat) (fm : List Value) (hmn : fm.length = 51) (hm16 : fm[16]? = some (.ref al)) (hm17 : fm[17]? = some (.ref ah)) (fl fh : Nat → Int32) (hfl : ∀ j, fl j = 0) (hfh : ∀ j, fh j = 0) (p0 : Int32) : fn_CI (S := Unit) l D K yX12_loss (fn_ws yX12_loss cX12_loss 2 (some .int)) ({ frames := 12, cells := 0, slots := 0, locals := 300 }) [.ref m0, .int p0] [(m0, .inr (12, fm)), (al, .inl (K 0, 5, .inl fl)), (ah, .inl (K 0, 40, .inl fh))] (fun r _ => r = (-2)) (fun _ => []) 0 0 := by
  refine fn_inI (cc := cX12_loss) (maxL := 2) (ret := (some .int)) (by decide) rfl (Nat.le_of_ble_eq_true rfl) ?_
  intro p e s m below meth c A ls B hA hP hD hS hl
  obtain ⟨hx, hb, hr, hml, hts, hown, hlocks, hin, hK⟩ := B
  have hown : s.vm.findClass RX12 = some m.cls := hown
  have hts := fun w h => hts w (List.mem_cons_of_mem _ h)
  have hl : lv_has ls 2 [(0, .ref m0), (1, .int p0)] := hl
  refine lv_aload_n hx hb dX12_loss_0 rfl (lv_at hl 0 rfl) ?_
  refine lv_iconst (v := 0) hx hb dX12_loss_1 (by decide) ?_
  refine va_put (D := D) (own := RX12) (ci := 12) (v := .int 0) (ty := .int) (C := RX12) (T := TX12) (N := 51) hx hb hts inb_X12 tyX12 tyX12_ok nmX12 hown hK.1 hP hD hS 0 rfl rfl 0 (by decide) (hts _ wd_1234) (fun _ h9 => h9) rfl (by decide +kernel) rfl rfl (fn_kl hmn (by decide)) dX12_loss_2 (fun H locs hP hD hS => ?_)
  have hP : va_P D vwCl [(m0, .inr (12, fm.set 0 (.int 0))), (al, .inl (K 0, 5, .inl fl)), (ah, .inl (K 0, 40, .inl fh))] H := hP
  have hD : va_D A [(m0, .inr (12, fm.set 0 (.int 0))), (al, .inl (K 0, 5, .inl fl)), (ah, .inl (K 0, 40, .inl fh))] := hD
  refine lv_aload_n hx hb dX12_loss_5 rfl (lv_at hl 0 rfl) ?_
  refine lv_iload_n hx hb dX12_loss_6 rfl (lv_at hl 1 rfl) ?_
  refine lv_i2l hx hb dX12_loss_7 rfl ?_
  refine fn_goi (wc := [(m0, .inr (12, fm.set 0 (.int 0))), (al, .inl (K 0, 5, .inl fl)), (ah, .inl (K 0, 40, .inl fh))]) (wr := []) hK hP hD hS hA [0, 1, 2] [] rfl rfl (by decide) (fun hp => va_runV (C := RX12) (As := [.long (Int32.toInt64 p0)]) (rest := []) ⟨hx, hb, hml, hown, hts⟩ (c_X12_isPage (l := l) (D := D) (K := K) (m0 := (m0)) (p0 := ((Int32.toInt64 p0))) (fm := (fm.set 0 (.int 0))) (hmn := (fn_sl hmn)) (al := (al)) (hm16 := (fn_gs (by decide) hm16)) (ah := (ah)) (hm17 := (fn_gs (by decide) hm17)) (fl := (fl)) (hfl := hfl) (fh := (fh)) (hfh := hfh) _) (cwV 1 hts (fn_ginV (fn_gin wd_1543) wd_1540 wd_1542 wp_116 wd_13) rfl rfl rfl (by decide +kernel) ⟨Nat.le_of_ble_eq_true rfl, Nat.le_of_ble_eq_true rfl⟩) ⟨fn_blind, va_recv hK.1 hP (ci := 12) (q0 := 0) rfl rfl, hp⟩ rfl rfl hl.1 rfl (lv_room (Nat.le_of_ble_eq_true rfl)) dX12_loss_8 ⟨Nat.le_of_ble_eq_true rfl, Nat.le_of_ble_eq_true rfl⟩) (fun r2 u1 H locs hwu1 hP hD hS => ?_)
  have r2_e : r2 = 0 := hwu1
  subst r2_e
  have hP : va_P D vwCl [] H := hP
  have hD : va_D A [] := hD
  refine lv_if_ne (tgt := 17) hx hb dX12_loss_11 (by decide) (fun h9 => absurd rfl h9) (fun _ => ?_)
  refine lv_bipush (v := (-2)) hx hb dX12_loss_14 (by decide) ?_
  exact fn_iret hx hb hr hlocks rfl hP hD hS () (by first | rfl | decide) [] (by decide) rfl dX12_loss_16
theorem dX12_torn_0 : decode cX12_torn 0 = .ok (.aload_n 0, 1) := by decide +kernel
theorem dX12_torn_1 : decode cX12_torn 1 = .ok (.iconst 0, 1) := by decide +kernel
theorem dX12_torn_2 : decode cX12_torn 2 = .ok (.putfield 104, 3) := by decide +kernel
theorem dX12_torn_5 : decode cX12_torn 5 = .ok (.aload_n 0, 1) := by decide +kernel
theorem dX12_torn_6 : decode cX12_torn 6 = .ok (.iload_n 1, 1) := by decide +kernel
theorem dX12_torn_7 : decode cX12_torn 7 = .ok (.i2l, 1) := by decide +kernel
theorem dX12_torn_8 : decode cX12_torn 8 = .ok (.invokevirtual 262, 3) := by decide +kernel
theorem dX12_torn_11 : decode cX12_torn 11 = .ok (.ifCond .ne 6, 3) := by decide +kernel
theorem dX12_torn_14 : decode cX12_torn 14 = .ok (.bipush (-2), 2) := by decide +kernel
theorem dX12_torn_16 : decode cX12_torn 16 = .ok (.ireturn, 1) := by decide +kernel
set_option maxHeartbeats 4000000 in
set_option maxRecDepth 100000 in
theorem c_X12_torn (l : Launch) (D : va_G) (K : Nat → ClassId) (m0 al ah : Nat) (fm : List Value) (hmn : fm.length = 51) (hm16 : fm[16]? = some (.ref al)) (hm17 : fm[17]? = some (.ref ah)) (fl fh : Nat → Int32) (hfl : ∀ j, fl j = 0) (hfh : ∀ j, fh j = 0) (p0 : Int32) : fn_CI (S := Unit) l D K yX12_torn (fn_ws yX12_torn cX12_torn 2 (some .int)) ({ frames := 12, cells := 0, slots := 0, locals := 300 }) [.ref m0, .int p0] [(m0, .inr (12, fm)), (al, .inl (K 0, 5, .inl fl)), (ah, .inl (K 0, 40, .inl fh))] (fun r _ => r = (-2)) (fun _ => []) 0 0 := by
  refine fn_inI (cc := cX12_torn) (maxL := 2) (ret := (some .int)) (by decide) rfl (Nat.le_of_ble_eq_true rfl) ?_
  intro p e s m below meth c A ls B hA hP hD hS hl
  obtain ⟨hx, hb, hr, hml, hts, hown, hlocks, hin, hK⟩ := B
  have hown : s.vm.findClass RX12 = some m.cls := hown
  have hts := fun w h => hts w (List.mem_cons_of_mem _ h)
  have hl : lv_has ls 2 [(0, .ref m0), (1, .int p0)] := hl
  refine lv_aload_n hx hb dX12_torn_0 rfl (lv_at hl 0 rfl) ?_
  refine lv_iconst (v := 0) hx hb dX12_torn_1 (by decide) ?_
  refine va_put (D := D) (own := RX12) (ci := 12) (v := .int 0) (ty := .int) (C := RX12) (T := TX12) (N := 51) hx hb hts inb_X12 tyX12 tyX12_ok nmX12 hown hK.1 hP hD hS 0 rfl rfl 0 (by decide) (hts _ wd_1234) (fun _ h9 => h9) rfl (by decide +kernel) rfl rfl (fn_kl hmn (by decide)) dX12_torn_2 (fun H locs hP hD hS => ?_)
  have hP : va_P D vwCl [(m0, .inr (12, fm.set 0 (.int 0))), (al, .inl (K 0, 5, .inl fl)), (ah, .inl (K 0, 40, .inl fh))] H := hP
  have hD : va_D A [(m0, .inr (12, fm.set 0 (.int 0))), (al, .inl (K 0, 5, .inl fl)), (ah, .inl (K 0, 40, .inl fh))] := hD
  refine lv_aload_n hx hb dX12_torn_5 rfl (lv_at hl 0 rfl) ?_
  refine lv_iload_n hx hb dX12_torn_6 rfl (lv_at hl 1 rfl) ?_
  refine lv_i2l hx hb dX12_torn_7 rfl ?_
  refine fn_goi (wc := [(m0, .inr (12, fm.set 0 (.int 0))), (al, .inl (K 0, 5, .inl fl)), (ah, .inl (K 0, 40, .inl fh))]) (wr := []) hK hP hD hS hA [0, 1, 2] [] rfl rfl (by decide) (fun hp => va_runV (C := RX12) (As := [.long (Int32.toInt64 p0)]) (rest := []) ⟨hx, hb, hml, hown, hts⟩ (c_X12_isPage (l := l) (D := D) (K := K) (m0 := (m0)) (p0 := ((Int32.toInt64 p0))) (fm := (fm.set 0 (.int 0))) (hmn := (fn_sl hmn)) (al := (al)) (hm16 := (fn_gs (by decide) hm16)) (ah := (ah)) (hm17 := (fn_gs (by decide) hm17)) (fl := (fl)) (hfl := hfl) (fh := (fh)) (hfh := hfh) _) (cwV 1 hts (fn_ginV (fn_gin wd_1543) wd_1540 wd_1542 wp_116 wd_13) rfl rfl rfl (by decide +kernel) ⟨Nat.le_of_ble_eq_true rfl, Nat.le_of_ble_eq_true rfl⟩) ⟨fn_blind, va_recv hK.1 hP (ci := 12) (q0 := 0) rfl rfl, hp⟩ rfl rfl hl.1 rfl (lv_room (Nat.le_of_ble_eq_true rfl)) dX12_torn_8 ⟨Nat.le_of_ble_eq_true rfl, Nat.le_of_ble_eq_true rfl⟩) (fun r2 u1 H locs hwu1 hP hD hS => ?_)
  have r2_e : r2 = 0 := hwu1
  subst r2_e
  have hP : va_P D vwCl [] H := hP
  have hD : va_D A [] := hD
  refine lv_if_ne (tgt := 17) hx hb dX12_torn_11 (by decide) (fun h9 => absurd rfl h9) (fun _ => ?_)
  refine lv_bipush (v := (-2)) hx hb dX12_torn_14 (by decide) ?_
  exact fn_iret hx hb hr hlocks rfl hP hD hS () (by first | rfl | decide) [] (by decide) rfl dX12_torn_16
theorem dX12_cut__0 : decode cX12_cut_ 0 = .ok (.aload_n 0, 1) := by decide +kernel
theorem dX12_cut__1 : decode cX12_cut_ 1 = .ok (.iconst 0, 1) := by decide +kernel
theorem dX12_cut__2 : decode cX12_cut_ 2 = .ok (.putfield 104, 3) := by decide +kernel
theorem dX12_cut__5 : decode cX12_cut_ 5 = .ok (.aload_n 0, 1) := by decide +kernel
theorem dX12_cut__6 : decode cX12_cut_ 6 = .ok (.iload_n 1, 1) := by decide +kernel
theorem dX12_cut__7 : decode cX12_cut_ 7 = .ok (.i2l, 1) := by decide +kernel
theorem dX12_cut__8 : decode cX12_cut_ 8 = .ok (.invokevirtual 262, 3) := by decide +kernel
theorem dX12_cut__11 : decode cX12_cut_ 11 = .ok (.ifCond .ne 6, 3) := by decide +kernel
theorem dX12_cut__14 : decode cX12_cut_ 14 = .ok (.bipush (-2), 2) := by decide +kernel
theorem dX12_cut__16 : decode cX12_cut_ 16 = .ok (.ireturn, 1) := by decide +kernel
set_option maxHeartbeats 4000000 in
set_option maxRecDepth 100000 in
theorem c_X12_cut_ (l : Launch) (D : va_G) (K : Nat → ClassId) (m0 al ah : Nat) (fm : List Value) (hmn : fm.length = 51) (hm16 : fm[16]? = some (.ref al)) (hm17 : fm[17]? = some (.ref ah)) (fl fh : Nat → Int32) (hfl : ∀ j, fl j = 0) (hfh : ∀ j, fh j = 0) (p0 : Int32) : fn_CI (S := Unit) l D K yX12_cut_ (fn_ws yX12_cut_ cX12_cut_ 3 (some .int)) ({ frames := 12, cells := 0, slots := 0, locals := 300 }) [.ref m0, .int p0] [(m0, .inr (12, fm)), (al, .inl (K 0, 5, .inl fl)), (ah, .inl (K 0, 40, .inl fh))] (fun r _ => r = (-2)) (fun _ => []) 0 0 := by
  refine fn_inI (cc := cX12_cut_) (maxL := 3) (ret := (some .int)) (by decide) rfl (Nat.le_of_ble_eq_true rfl) ?_
  intro p e s m below meth c A ls B hA hP hD hS hl
  obtain ⟨hx, hb, hr, hml, hts, hown, hlocks, hin, hK⟩ := B
  have hown : s.vm.findClass RX12 = some m.cls := hown
  have hts := fun w h => hts w (List.mem_cons_of_mem _ h)
  have hl : lv_has ls 3 [(0, .ref m0), (1, .int p0)] := hl
  refine lv_aload_n hx hb dX12_cut__0 rfl (lv_at hl 0 rfl) ?_
  refine lv_iconst (v := 0) hx hb dX12_cut__1 (by decide) ?_
  refine va_put (D := D) (own := RX12) (ci := 12) (v := .int 0) (ty := .int) (C := RX12) (T := TX12) (N := 51) hx hb hts inb_X12 tyX12 tyX12_ok nmX12 hown hK.1 hP hD hS 0 rfl rfl 0 (by decide) (hts _ wd_1234) (fun _ h9 => h9) rfl (by decide +kernel) rfl rfl (fn_kl hmn (by decide)) dX12_cut__2 (fun H locs hP hD hS => ?_)
  have hP : va_P D vwCl [(m0, .inr (12, fm.set 0 (.int 0))), (al, .inl (K 0, 5, .inl fl)), (ah, .inl (K 0, 40, .inl fh))] H := hP
  have hD : va_D A [(m0, .inr (12, fm.set 0 (.int 0))), (al, .inl (K 0, 5, .inl fl)), (ah, .inl (K 0, 40, .inl fh))] := hD
  refine lv_aload_n hx hb dX12_cut__5 rfl (lv_at hl 0 rfl) ?_
  refine lv_iload_n hx hb dX12_cut__6 rfl (lv_at hl 1 rfl) ?_
  refine lv_i2l hx hb dX12_cut__7 rfl ?_
  refine fn_goi (wc := [(m0, .inr (12, fm.set 0 (.int 0))), (al, .inl (K 0, 5, .inl fl)), (ah, .inl (K 0, 40, .inl fh))]) (wr := []) hK hP hD hS hA [0, 1, 2] [] rfl rfl (by decide) (fun hp => va_runV (C := RX12) (As := [.long (Int32.toInt64 p0)]) (rest := []) ⟨hx, hb, hml, hown, hts⟩ (c_X12_isPage (l := l) (D := D) (K := K) (m0 := (m0)) (p0 := ((Int32.toInt64 p0))) (fm := (fm.set 0 (.int 0))) (hmn := (fn_sl hmn)) (al := (al)) (hm16 := (fn_gs (by decide) hm16)) (ah := (ah)) (hm17 := (fn_gs (by decide) hm17)) (fl := (fl)) (hfl := hfl) (fh := (fh)) (hfh := hfh) _) (cwV 1 hts (fn_ginV (fn_gin wd_1543) wd_1540 wd_1542 wp_116 wd_13) rfl rfl rfl (by decide +kernel) ⟨Nat.le_of_ble_eq_true rfl, Nat.le_of_ble_eq_true rfl⟩) ⟨fn_blind, va_recv hK.1 hP (ci := 12) (q0 := 0) rfl rfl, hp⟩ rfl rfl hl.1 rfl (lv_room (Nat.le_of_ble_eq_true rfl)) dX12_cut__8 ⟨Nat.le_of_ble_eq_true rfl, Nat.le_of_ble_eq_true rfl⟩) (fun r2 u1 H locs hwu1 hP hD hS => ?_)
  have r2_e : r2 = 0 := hwu1
  subst r2_e
  have hP : va_P D vwCl [] H := hP
  have hD : va_D A [] := hD
  refine lv_if_ne (tgt := 17) hx hb dX12_cut__11 (by decide) (fun h9 => absurd rfl h9) (fun _ => ?_)
  refine lv_bipush (v := (-2)) hx hb dX12_cut__14 (by decide) ?_
  exact fn_iret hx hb hr hlocks rfl hP hD hS () (by first | rfl | decide) [] (by decide) rfl dX12_cut__16
theorem dX12_leaves_0 : decode cX12_leaves 0 = .ok (.aload_n 0, 1) := by decide +kernel
theorem dX12_leaves_1 : decode cX12_leaves 1 = .ok (.iconst 0, 1) := by decide +kernel
theorem dX12_leaves_2 : decode cX12_leaves 2 = .ok (.putfield 104, 3) := by decide +kernel
theorem dX12_leaves_5 : decode cX12_leaves 5 = .ok (.aload_n 0, 1) := by decide +kernel
theorem dX12_leaves_6 : decode cX12_leaves 6 = .ok (.iload_n 1, 1) := by decide +kernel
theorem dX12_leaves_7 : decode cX12_leaves 7 = .ok (.i2l, 1) := by decide +kernel
theorem dX12_leaves_8 : decode cX12_leaves 8 = .ok (.invokevirtual 262, 3) := by decide +kernel
theorem dX12_leaves_11 : decode cX12_leaves 11 = .ok (.ifCond .eq 12, 3) := by decide +kernel
theorem dX12_leaves_23 : decode cX12_leaves 23 = .ok (.bipush (-2), 2) := by decide +kernel
theorem dX12_leaves_25 : decode cX12_leaves 25 = .ok (.ireturn, 1) := by decide +kernel
set_option maxHeartbeats 4000000 in
set_option maxRecDepth 100000 in
theorem c_X12_leaves (l : Launch) (D : va_G) (K : Nat → ClassId) (m0 al ah : Nat) (fm : List Value) (hmn : fm.length = 51) (hm16 : fm[16]? = some (.ref al)) (hm17 : fm[17]? = some (.ref ah)) (fl fh : Nat → Int32) (hfl : ∀ j, fl j = 0) (hfh : ∀ j, fh j = 0) (p0 p1 : Int32) : fn_CI (S := Unit) l D K yX12_leaves (fn_ws yX12_leaves cX12_leaves 3 (some .int)) ({ frames := 12, cells := 0, slots := 0, locals := 300 }) [.ref m0, .int p0, .int p1] [(m0, .inr (12, fm)), (al, .inl (K 0, 5, .inl fl)), (ah, .inl (K 0, 40, .inl fh))] (fun r _ => r = (-2)) (fun _ => []) 0 0 := by
  refine fn_inI (cc := cX12_leaves) (maxL := 3) (ret := (some .int)) (by decide) rfl (Nat.le_of_ble_eq_true rfl) ?_
  intro p e s m below meth c A ls B hA hP hD hS hl
  obtain ⟨hx, hb, hr, hml, hts, hown, hlocks, hin, hK⟩ := B
  have hown : s.vm.findClass RX12 = some m.cls := hown
  have hts := fun w h => hts w (List.mem_cons_of_mem _ h)
  have hl : lv_has ls 3 [(0, .ref m0), (1, .int p0), (2, .int p1)] := hl
  refine lv_aload_n hx hb dX12_leaves_0 rfl (lv_at hl 0 rfl) ?_
  refine lv_iconst (v := 0) hx hb dX12_leaves_1 (by decide) ?_
  refine va_put (D := D) (own := RX12) (ci := 12) (v := .int 0) (ty := .int) (C := RX12) (T := TX12) (N := 51) hx hb hts inb_X12 tyX12 tyX12_ok nmX12 hown hK.1 hP hD hS 0 rfl rfl 0 (by decide) (hts _ wd_1234) (fun _ h9 => h9) rfl (by decide +kernel) rfl rfl (fn_kl hmn (by decide)) dX12_leaves_2 (fun H locs hP hD hS => ?_)
  have hP : va_P D vwCl [(m0, .inr (12, fm.set 0 (.int 0))), (al, .inl (K 0, 5, .inl fl)), (ah, .inl (K 0, 40, .inl fh))] H := hP
  have hD : va_D A [(m0, .inr (12, fm.set 0 (.int 0))), (al, .inl (K 0, 5, .inl fl)), (ah, .inl (K 0, 40, .inl fh))] := hD
  refine lv_aload_n hx hb dX12_leaves_5 rfl (lv_at hl 0 rfl) ?_
  refine lv_iload_n hx hb dX12_leaves_6 rfl (lv_at hl 1 rfl) ?_
  refine lv_i2l hx hb dX12_leaves_7 rfl ?_
  refine fn_goi (wc := [(m0, .inr (12, fm.set 0 (.int 0))), (al, .inl (K 0, 5, .inl fl)), (ah, .inl (K 0, 40, .inl fh))]) (wr := []) hK hP hD hS hA [0, 1, 2] [] rfl rfl (by decide) (fun hp => va_runV (C := RX12) (As := [.long (Int32.toInt64 p0)]) (rest := []) ⟨hx, hb, hml, hown, hts⟩ (c_X12_isPage (l := l) (D := D) (K := K) (m0 := (m0)) (p0 := ((Int32.toInt64 p0))) (fm := (fm.set 0 (.int 0))) (hmn := (fn_sl hmn)) (al := (al)) (hm16 := (fn_gs (by decide) hm16)) (ah := (ah)) (hm17 := (fn_gs (by decide) hm17)) (fl := (fl)) (hfl := hfl) (fh := (fh)) (hfh := hfh) _) (cwV 1 hts (fn_ginV (fn_gin wd_1543) wd_1540 wd_1542 wp_116 wd_13) rfl rfl rfl (by decide +kernel) ⟨Nat.le_of_ble_eq_true rfl, Nat.le_of_ble_eq_true rfl⟩) ⟨fn_blind, va_recv hK.1 hP (ci := 12) (q0 := 0) rfl rfl, hp⟩ rfl rfl hl.1 rfl (lv_room (Nat.le_of_ble_eq_true rfl)) dX12_leaves_8 ⟨Nat.le_of_ble_eq_true rfl, Nat.le_of_ble_eq_true rfl⟩) (fun r2 u1 H locs hwu1 hP hD hS => ?_)
  have r2_e : r2 = 0 := hwu1
  subst r2_e
  have hP : va_P D vwCl [] H := hP
  have hD : va_D A [] := hD
  refine lv_if_eq (tgt := 23) hx hb dX12_leaves_11 (by decide) (fun _ => ?_) (fun h9 => absurd (by decide) h9)
  refine lv_bipush (v := (-2)) hx hb dX12_leaves_23 (by decide) ?_
  exact fn_iret hx hb hr hlocks rfl hP hD hS () (by first | rfl | decide) [] (by decide) rfl dX12_leaves_25
theorem dX12_worth_0 : decode cX12_worth 0 = .ok (.aload_n 0, 1) := by decide +kernel
theorem dX12_worth_1 : decode cX12_worth 1 = .ok (.iconst 0, 1) := by decide +kernel
theorem dX12_worth_2 : decode cX12_worth 2 = .ok (.putfield 104, 3) := by decide +kernel
theorem dX12_worth_5 : decode cX12_worth 5 = .ok (.aload_n 0, 1) := by decide +kernel
theorem dX12_worth_6 : decode cX12_worth 6 = .ok (.iload_n 1, 1) := by decide +kernel
theorem dX12_worth_7 : decode cX12_worth 7 = .ok (.i2l, 1) := by decide +kernel
theorem dX12_worth_8 : decode cX12_worth 8 = .ok (.invokevirtual 262, 3) := by decide +kernel
theorem dX12_worth_11 : decode cX12_worth 11 = .ok (.ifCond .eq 15, 3) := by decide +kernel
theorem dX12_worth_26 : decode cX12_worth 26 = .ok (.bipush (-2), 2) := by decide +kernel
theorem dX12_worth_28 : decode cX12_worth 28 = .ok (.ireturn, 1) := by decide +kernel
set_option maxHeartbeats 4000000 in
set_option maxRecDepth 100000 in
theorem c_X12_worth (l : Launch) (D : va_G) (K : Nat → ClassId) (m0 al ah : Nat) (fm : List Value) (hmn : fm.length = 51) (hm16 : fm[16]? = some (.ref al)) (hm17 : fm[17]? = some (.ref ah)) (fl fh : Nat → Int32) (hfl : ∀ j, fl j = 0) (hfh : ∀ j, fh j = 0) (p0 p1 : Int32) : fn_CI (S := Unit) l D K yX12_worth (fn_ws yX12_worth cX12_worth 3 (some .int)) ({ frames := 12, cells := 0, slots := 0, locals := 300 }) [.ref m0, .int p0, .int p1] [(m0, .inr (12, fm)), (al, .inl (K 0, 5, .inl fl)), (ah, .inl (K 0, 40, .inl fh))] (fun r _ => r = (-2)) (fun _ => []) 0 0 := by
  refine fn_inI (cc := cX12_worth) (maxL := 3) (ret := (some .int)) (by decide) rfl (Nat.le_of_ble_eq_true rfl) ?_
  intro p e s m below meth c A ls B hA hP hD hS hl
  obtain ⟨hx, hb, hr, hml, hts, hown, hlocks, hin, hK⟩ := B
  have hown : s.vm.findClass RX12 = some m.cls := hown
  have hts := fun w h => hts w (List.mem_cons_of_mem _ h)
  have hl : lv_has ls 3 [(0, .ref m0), (1, .int p0), (2, .int p1)] := hl
  refine lv_aload_n hx hb dX12_worth_0 rfl (lv_at hl 0 rfl) ?_
  refine lv_iconst (v := 0) hx hb dX12_worth_1 (by decide) ?_
  refine va_put (D := D) (own := RX12) (ci := 12) (v := .int 0) (ty := .int) (C := RX12) (T := TX12) (N := 51) hx hb hts inb_X12 tyX12 tyX12_ok nmX12 hown hK.1 hP hD hS 0 rfl rfl 0 (by decide) (hts _ wd_1234) (fun _ h9 => h9) rfl (by decide +kernel) rfl rfl (fn_kl hmn (by decide)) dX12_worth_2 (fun H locs hP hD hS => ?_)
  have hP : va_P D vwCl [(m0, .inr (12, fm.set 0 (.int 0))), (al, .inl (K 0, 5, .inl fl)), (ah, .inl (K 0, 40, .inl fh))] H := hP
  have hD : va_D A [(m0, .inr (12, fm.set 0 (.int 0))), (al, .inl (K 0, 5, .inl fl)), (ah, .inl (K 0, 40, .inl fh))] := hD
  refine lv_aload_n hx hb dX12_worth_5 rfl (lv_at hl 0 rfl) ?_
  refine lv_iload_n hx hb dX12_worth_6 rfl (lv_at hl 1 rfl) ?_
  refine lv_i2l hx hb dX12_worth_7 rfl ?_
  refine fn_goi (wc := [(m0, .inr (12, fm.set 0 (.int 0))), (al, .inl (K 0, 5, .inl fl)), (ah, .inl (K 0, 40, .inl fh))]) (wr := []) hK hP hD hS hA [0, 1, 2] [] rfl rfl (by decide) (fun hp => va_runV (C := RX12) (As := [.long (Int32.toInt64 p0)]) (rest := []) ⟨hx, hb, hml, hown, hts⟩ (c_X12_isPage (l := l) (D := D) (K := K) (m0 := (m0)) (p0 := ((Int32.toInt64 p0))) (fm := (fm.set 0 (.int 0))) (hmn := (fn_sl hmn)) (al := (al)) (hm16 := (fn_gs (by decide) hm16)) (ah := (ah)) (hm17 := (fn_gs (by decide) hm17)) (fl := (fl)) (hfl := hfl) (fh := (fh)) (hfh := hfh) _) (cwV 1 hts (fn_ginV (fn_gin wd_1543) wd_1540 wd_1542 wp_116 wd_13) rfl rfl rfl (by decide +kernel) ⟨Nat.le_of_ble_eq_true rfl, Nat.le_of_ble_eq_true rfl⟩) ⟨fn_blind, va_recv hK.1 hP (ci := 12) (q0 := 0) rfl rfl, hp⟩ rfl rfl hl.1 rfl (lv_room (Nat.le_of_ble_eq_true rfl)) dX12_worth_8 ⟨Nat.le_of_ble_eq_true rfl, Nat.le_of_ble_eq_true rfl⟩) (fun r2 u1 H locs hwu1 hP hD hS => ?_)
  have r2_e : r2 = 0 := hwu1
  subst r2_e
  have hP : va_P D vwCl [] H := hP
  have hD : va_D A [] := hD
  refine lv_if_eq (tgt := 26) hx hb dX12_worth_11 (by decide) (fun _ => ?_) (fun h9 => absurd (by decide) h9)
  refine lv_bipush (v := (-2)) hx hb dX12_worth_26 (by decide) ?_
  exact fn_iret hx hb hr hlocks rfl hP hD hS () (by first | rfl | decide) [] (by decide) rfl dX12_worth_28
theorem dX12_astray_0 : decode cX12_astray 0 = .ok (.aload_n 0, 1) := by decide +kernel
theorem dX12_astray_1 : decode cX12_astray 1 = .ok (.iconst 0, 1) := by decide +kernel
theorem dX12_astray_2 : decode cX12_astray 2 = .ok (.putfield 104, 3) := by decide +kernel
theorem dX12_astray_5 : decode cX12_astray 5 = .ok (.aload_n 0, 1) := by decide +kernel
theorem dX12_astray_6 : decode cX12_astray 6 = .ok (.invokevirtual 267, 3) := by decide +kernel
theorem dX12_astray_9 : decode cX12_astray 9 = .ok (.ifCond .ne 6, 3) := by decide +kernel
theorem dX12_astray_12 : decode cX12_astray 12 = .ok (.bipush (-2), 2) := by decide +kernel
theorem dX12_astray_14 : decode cX12_astray 14 = .ok (.ireturn, 1) := by decide +kernel
set_option maxHeartbeats 4000000 in
set_option maxRecDepth 100000 in
theorem c_X12_astray (l : Launch) (D : va_G) (K : Nat → ClassId) (m0 al ah : Nat) (fm : List Value) (hmn : fm.length = 51) (hm16 : fm[16]? = some (.ref al)) (hm17 : fm[17]? = some (.ref ah)) (fl fh : Nat → Int32) (hfl : ∀ j, fl j = 0) (hfh : ∀ j, fh j = 0) : fn_CI (S := Unit) l D K yX12_astray (fn_ws yX12_astray cX12_astray 3 (some .int)) ({ frames := 12, cells := 0, slots := 0, locals := 300 }) [.ref m0] [(m0, .inr (12, fm)), (al, .inl (K 0, 5, .inl fl)), (ah, .inl (K 0, 40, .inl fh))] (fun r _ => r = (-2)) (fun _ => []) 0 0 := by
  refine fn_inI (cc := cX12_astray) (maxL := 3) (ret := (some .int)) (by decide) rfl (Nat.le_of_ble_eq_true rfl) ?_
  intro p e s m below meth c A ls B hA hP hD hS hl
  obtain ⟨hx, hb, hr, hml, hts, hown, hlocks, hin, hK⟩ := B
  have hown : s.vm.findClass RX12 = some m.cls := hown
  have hts := fun w h => hts w (List.mem_cons_of_mem _ h)
  have hl : lv_has ls 3 [(0, .ref m0)] := hl
  refine lv_aload_n hx hb dX12_astray_0 rfl (lv_at hl 0 rfl) ?_
  refine lv_iconst (v := 0) hx hb dX12_astray_1 (by decide) ?_
  refine va_put (D := D) (own := RX12) (ci := 12) (v := .int 0) (ty := .int) (C := RX12) (T := TX12) (N := 51) hx hb hts inb_X12 tyX12 tyX12_ok nmX12 hown hK.1 hP hD hS 0 rfl rfl 0 (by decide) (hts _ wd_1234) (fun _ h9 => h9) rfl (by decide +kernel) rfl rfl (fn_kl hmn (by decide)) dX12_astray_2 (fun H locs hP hD hS => ?_)
  have hP : va_P D vwCl [(m0, .inr (12, fm.set 0 (.int 0))), (al, .inl (K 0, 5, .inl fl)), (ah, .inl (K 0, 40, .inl fh))] H := hP
  have hD : va_D A [(m0, .inr (12, fm.set 0 (.int 0))), (al, .inl (K 0, 5, .inl fl)), (ah, .inl (K 0, 40, .inl fh))] := hD
  refine lv_aload_n hx hb dX12_astray_5 rfl (lv_at hl 0 rfl) ?_
  refine fn_goi (wc := [(m0, .inr (12, fm.set 0 (.int 0))), (al, .inl (K 0, 5, .inl fl)), (ah, .inl (K 0, 40, .inl fh))]) (wr := []) hK hP hD hS hA [0, 1, 2] [] rfl rfl (by decide) (fun hp => va_runV (C := RX12) (As := []) (rest := []) ⟨hx, hb, hml, hown, hts⟩ (c_X12_isTown (l := l) (D := D) (K := K) (m0 := (m0)) (fm := (fm.set 0 (.int 0))) (hmn := (fn_sl hmn)) (al := (al)) (hm16 := (fn_gs (by decide) hm16)) (ah := (ah)) (hm17 := (fn_gs (by decide) hm17)) (fl := (fl)) (hfl := hfl) (fh := (fh)) (hfh := hfh) _) (cwV 0 hts (fn_ginV (fn_gin wd_1599) wd_1596 wd_1598 wp_124 wd_13) rfl rfl rfl (by decide +kernel) ⟨Nat.le_of_ble_eq_true rfl, Nat.le_of_ble_eq_true rfl⟩) ⟨fn_blind, va_recv hK.1 hP (ci := 12) (q0 := 0) rfl rfl, hp⟩ rfl rfl hl.1 rfl (lv_room (Nat.le_of_ble_eq_true rfl)) dX12_astray_6 ⟨Nat.le_of_ble_eq_true rfl, Nat.le_of_ble_eq_true rfl⟩) (fun r2 u1 H locs hwu1 hP hD hS => ?_)
  have r2_e : r2 = 0 := hwu1
  subst r2_e
  have hP : va_P D vwCl [] H := hP
  have hD : va_D A [] := hD
  refine lv_if_ne (tgt := 15) hx hb dX12_astray_9 (by decide) (fun h9 => absurd rfl h9) (fun _ => ?_)
  refine lv_bipush (v := (-2)) hx hb dX12_astray_12 (by decide) ?_
  exact fn_iret hx hb hr hlocks rfl hP hD hS () (by first | rfl | decide) [] (by decide) rfl dX12_astray_14
theorem dX12_undo_0 : decode cX12_undo 0 = .ok (.aload_n 0, 1) := by decide +kernel
theorem dX12_undo_1 : decode cX12_undo 1 = .ok (.iconst 0, 1) := by decide +kernel
theorem dX12_undo_2 : decode cX12_undo 2 = .ok (.putfield 104, 3) := by decide +kernel
theorem dX12_undo_5 : decode cX12_undo 5 = .ok (.aload_n 0, 1) := by decide +kernel
theorem dX12_undo_6 : decode cX12_undo 6 = .ok (.invokevirtual 267, 3) := by decide +kernel
theorem dX12_undo_9 : decode cX12_undo 9 = .ok (.ifCond .ne 6, 3) := by decide +kernel
theorem dX12_undo_12 : decode cX12_undo 12 = .ok (.bipush (-2), 2) := by decide +kernel
theorem dX12_undo_14 : decode cX12_undo 14 = .ok (.ireturn, 1) := by decide +kernel
set_option maxHeartbeats 4000000 in
set_option maxRecDepth 100000 in
theorem c_X12_undo (l : Launch) (D : va_G) (K : Nat → ClassId) (m0 al ah : Nat) (fm : List Value) (hmn : fm.length = 51) (hm16 : fm[16]? = some (.ref al)) (hm17 : fm[17]? = some (.ref ah)) (fl fh : Nat → Int32) (hfl : ∀ j, fl j = 0) (hfh : ∀ j, fh j = 0) : fn_CI (S := Unit) l D K yX12_undo (fn_ws yX12_undo cX12_undo 1 (some .int)) ({ frames := 12, cells := 0, slots := 0, locals := 300 }) [.ref m0] [(m0, .inr (12, fm)), (al, .inl (K 0, 5, .inl fl)), (ah, .inl (K 0, 40, .inl fh))] (fun r _ => r = (-2)) (fun _ => []) 0 0 := by
  refine fn_inI (cc := cX12_undo) (maxL := 1) (ret := (some .int)) (by decide) rfl (Nat.le_of_ble_eq_true rfl) ?_
  intro p e s m below meth c A ls B hA hP hD hS hl
  obtain ⟨hx, hb, hr, hml, hts, hown, hlocks, hin, hK⟩ := B
  have hown : s.vm.findClass RX12 = some m.cls := hown
  have hts := fun w h => hts w (List.mem_cons_of_mem _ h)
  have hl : lv_has ls 1 [(0, .ref m0)] := hl
  refine lv_aload_n hx hb dX12_undo_0 rfl (lv_at hl 0 rfl) ?_
  refine lv_iconst (v := 0) hx hb dX12_undo_1 (by decide) ?_
  refine va_put (D := D) (own := RX12) (ci := 12) (v := .int 0) (ty := .int) (C := RX12) (T := TX12) (N := 51) hx hb hts inb_X12 tyX12 tyX12_ok nmX12 hown hK.1 hP hD hS 0 rfl rfl 0 (by decide) (hts _ wd_1234) (fun _ h9 => h9) rfl (by decide +kernel) rfl rfl (fn_kl hmn (by decide)) dX12_undo_2 (fun H locs hP hD hS => ?_)
  have hP : va_P D vwCl [(m0, .inr (12, fm.set 0 (.int 0))), (al, .inl (K 0, 5, .inl fl)), (ah, .inl (K 0, 40, .inl fh))] H := hP
  have hD : va_D A [(m0, .inr (12, fm.set 0 (.int 0))), (al, .inl (K 0, 5, .inl fl)), (ah, .inl (K 0, 40, .inl fh))] := hD
  refine lv_aload_n hx hb dX12_undo_5 rfl (lv_at hl 0 rfl) ?_
  refine fn_goi (wc := [(m0, .inr (12, fm.set 0 (.int 0))), (al, .inl (K 0, 5, .inl fl)), (ah, .inl (K 0, 40, .inl fh))]) (wr := []) hK hP hD hS hA [0, 1, 2] [] rfl rfl (by decide) (fun hp => va_runV (C := RX12) (As := []) (rest := []) ⟨hx, hb, hml, hown, hts⟩ (c_X12_isTown (l := l) (D := D) (K := K) (m0 := (m0)) (fm := (fm.set 0 (.int 0))) (hmn := (fn_sl hmn)) (al := (al)) (hm16 := (fn_gs (by decide) hm16)) (ah := (ah)) (hm17 := (fn_gs (by decide) hm17)) (fl := (fl)) (hfl := hfl) (fh := (fh)) (hfh := hfh) _) (cwV 0 hts (fn_ginV (fn_gin wd_1599) wd_1596 wd_1598 wp_124 wd_13) rfl rfl rfl (by decide +kernel) ⟨Nat.le_of_ble_eq_true rfl, Nat.le_of_ble_eq_true rfl⟩) ⟨fn_blind, va_recv hK.1 hP (ci := 12) (q0 := 0) rfl rfl, hp⟩ rfl rfl hl.1 rfl (lv_room (Nat.le_of_ble_eq_true rfl)) dX12_undo_6 ⟨Nat.le_of_ble_eq_true rfl, Nat.le_of_ble_eq_true rfl⟩) (fun r2 u1 H locs hwu1 hP hD hS => ?_)
  have r2_e : r2 = 0 := hwu1
  subst r2_e
  have hP : va_P D vwCl [] H := hP
  have hD : va_D A [] := hD
  refine lv_if_ne (tgt := 15) hx hb dX12_undo_9 (by decide) (fun h9 => absurd rfl h9) (fun _ => ?_)
  refine lv_bipush (v := (-2)) hx hb dX12_undo_12 (by decide) ?_
  exact fn_iret hx hb hr hlocks rfl hP hD hS () (by first | rfl | decide) [] (by decide) rfl dX12_undo_14
theorem dX12_anew_0 : decode cX12_anew 0 = .ok (.aload_n 0, 1) := by decide +kernel
theorem dX12_anew_1 : decode cX12_anew 1 = .ok (.iconst 0, 1) := by decide +kernel
theorem dX12_anew_2 : decode cX12_anew 2 = .ok (.putfield 104, 3) := by decide +kernel
theorem dX12_anew_5 : decode cX12_anew 5 = .ok (.aload_n 0, 1) := by decide +kernel
theorem dX12_anew_6 : decode cX12_anew 6 = .ok (.invokevirtual 267, 3) := by decide +kernel
theorem dX12_anew_9 : decode cX12_anew 9 = .ok (.ifCond .ne 6, 3) := by decide +kernel
theorem dX12_anew_12 : decode cX12_anew 12 = .ok (.bipush (-2), 2) := by decide +kernel
theorem dX12_anew_14 : decode cX12_anew 14 = .ok (.ireturn, 1) := by decide +kernel
set_option maxHeartbeats 4000000 in
set_option maxRecDepth 100000 in
theorem c_X12_anew (l : Launch) (D : va_G) (K : Nat → ClassId) (m0 al ah : Nat) (fm : List Value) (hmn : fm.length = 51) (hm16 : fm[16]? = some (.ref al)) (hm17 : fm[17]? = some (.ref ah)) (fl fh : Nat → Int32) (hfl : ∀ j, fl j = 0) (hfh : ∀ j, fh j = 0) : fn_CI (S := Unit) l D K yX12_anew (fn_ws yX12_anew cX12_anew 2 (some .int)) ({ frames := 12, cells := 0, slots := 0, locals := 300 }) [.ref m0] [(m0, .inr (12, fm)), (al, .inl (K 0, 5, .inl fl)), (ah, .inl (K 0, 40, .inl fh))] (fun r _ => r = (-2)) (fun _ => []) 0 0 := by
  refine fn_inI (cc := cX12_anew) (maxL := 2) (ret := (some .int)) (by decide) rfl (Nat.le_of_ble_eq_true rfl) ?_
  intro p e s m below meth c A ls B hA hP hD hS hl
  obtain ⟨hx, hb, hr, hml, hts, hown, hlocks, hin, hK⟩ := B
  have hown : s.vm.findClass RX12 = some m.cls := hown
  have hts := fun w h => hts w (List.mem_cons_of_mem _ h)
  have hl : lv_has ls 2 [(0, .ref m0)] := hl
  refine lv_aload_n hx hb dX12_anew_0 rfl (lv_at hl 0 rfl) ?_
  refine lv_iconst (v := 0) hx hb dX12_anew_1 (by decide) ?_
  refine va_put (D := D) (own := RX12) (ci := 12) (v := .int 0) (ty := .int) (C := RX12) (T := TX12) (N := 51) hx hb hts inb_X12 tyX12 tyX12_ok nmX12 hown hK.1 hP hD hS 0 rfl rfl 0 (by decide) (hts _ wd_1234) (fun _ h9 => h9) rfl (by decide +kernel) rfl rfl (fn_kl hmn (by decide)) dX12_anew_2 (fun H locs hP hD hS => ?_)
  have hP : va_P D vwCl [(m0, .inr (12, fm.set 0 (.int 0))), (al, .inl (K 0, 5, .inl fl)), (ah, .inl (K 0, 40, .inl fh))] H := hP
  have hD : va_D A [(m0, .inr (12, fm.set 0 (.int 0))), (al, .inl (K 0, 5, .inl fl)), (ah, .inl (K 0, 40, .inl fh))] := hD
  refine lv_aload_n hx hb dX12_anew_5 rfl (lv_at hl 0 rfl) ?_
  refine fn_goi (wc := [(m0, .inr (12, fm.set 0 (.int 0))), (al, .inl (K 0, 5, .inl fl)), (ah, .inl (K 0, 40, .inl fh))]) (wr := []) hK hP hD hS hA [0, 1, 2] [] rfl rfl (by decide) (fun hp => va_runV (C := RX12) (As := []) (rest := []) ⟨hx, hb, hml, hown, hts⟩ (c_X12_isTown (l := l) (D := D) (K := K) (m0 := (m0)) (fm := (fm.set 0 (.int 0))) (hmn := (fn_sl hmn)) (al := (al)) (hm16 := (fn_gs (by decide) hm16)) (ah := (ah)) (hm17 := (fn_gs (by decide) hm17)) (fl := (fl)) (hfl := hfl) (fh := (fh)) (hfh := hfh) _) (cwV 0 hts (fn_ginV (fn_gin wd_1599) wd_1596 wd_1598 wp_124 wd_13) rfl rfl rfl (by decide +kernel) ⟨Nat.le_of_ble_eq_true rfl, Nat.le_of_ble_eq_true rfl⟩) ⟨fn_blind, va_recv hK.1 hP (ci := 12) (q0 := 0) rfl rfl, hp⟩ rfl rfl hl.1 rfl (lv_room (Nat.le_of_ble_eq_true rfl)) dX12_anew_6 ⟨Nat.le_of_ble_eq_true rfl, Nat.le_of_ble_eq_true rfl⟩) (fun r2 u1 H locs hwu1 hP hD hS => ?_)
  have r2_e : r2 = 0 := hwu1
  subst r2_e
  have hP : va_P D vwCl [] H := hP
  have hD : va_D A [] := hD
  refine lv_if_ne (tgt := 15) hx hb dX12_anew_9 (by decide) (fun h9 => absurd rfl h9) (fun _ => ?_)
  refine lv_bipush (v := (-2)) hx hb dX12_anew_12 (by decide) ?_
  exact fn_iret hx hb hr hlocks rfl hP hD hS () (by first | rfl | decide) [] (by decide) rfl dX12_anew_14
theorem dX12_rings_0 : decode cX12_rings 0 = .ok (.aload_n 0, 1) := by decide +kernel
theorem dX12_rings_1 : decode cX12_rings 1 = .ok (.iconst 0, 1) := by decide +kernel
theorem dX12_rings_2 : decode cX12_rings 2 = .ok (.putfield 104, 3) := by decide +kernel
theorem dX12_rings_5 : decode cX12_rings 5 = .ok (.aload_n 0, 1) := by decide +kernel
theorem dX12_rings_6 : decode cX12_rings 6 = .ok (.invokevirtual 267, 3) := by decide +kernel
theorem dX12_rings_9 : decode cX12_rings 9 = .ok (.ifCond .ne 6, 3) := by decide +kernel
theorem dX12_rings_12 : decode cX12_rings 12 = .ok (.bipush (-2), 2) := by decide +kernel
theorem dX12_rings_14 : decode cX12_rings 14 = .ok (.ireturn, 1) := by decide +kernel
set_option maxHeartbeats 4000000 in
set_option maxRecDepth 100000 in
theorem c_X12_rings (l : Launch) (D : va_G) (K : Nat → ClassId) (m0 al ah : Nat) (fm : List Value) (hmn : fm.length = 51) (hm16 : fm[16]? = some (.ref al)) (hm17 : fm[17]? = some (.ref ah)) (fl fh : Nat → Int32) (hfl : ∀ j, fl j = 0) (hfh : ∀ j, fh j = 0) : fn_CI (S := Unit) l D K yX12_rings (fn_ws yX12_rings cX12_rings 3 (some .int)) ({ frames := 12, cells := 0, slots := 0, locals := 300 }) [.ref m0] [(m0, .inr (12, fm)), (al, .inl (K 0, 5, .inl fl)), (ah, .inl (K 0, 40, .inl fh))] (fun r _ => r = (-2)) (fun _ => []) 0 0 := by
  refine fn_inI (cc := cX12_rings) (maxL := 3) (ret := (some .int)) (by decide) rfl (Nat.le_of_ble_eq_true rfl) ?_
  intro p e s m below meth c A ls B hA hP hD hS hl
  obtain ⟨hx, hb, hr, hml, hts, hown, hlocks, hin, hK⟩ := B
  have hown : s.vm.findClass RX12 = some m.cls := hown
  have hts := fun w h => hts w (List.mem_cons_of_mem _ h)
  have hl : lv_has ls 3 [(0, .ref m0)] := hl
  refine lv_aload_n hx hb dX12_rings_0 rfl (lv_at hl 0 rfl) ?_
  refine lv_iconst (v := 0) hx hb dX12_rings_1 (by decide) ?_
  refine va_put (D := D) (own := RX12) (ci := 12) (v := .int 0) (ty := .int) (C := RX12) (T := TX12) (N := 51) hx hb hts inb_X12 tyX12 tyX12_ok nmX12 hown hK.1 hP hD hS 0 rfl rfl 0 (by decide) (hts _ wd_1234) (fun _ h9 => h9) rfl (by decide +kernel) rfl rfl (fn_kl hmn (by decide)) dX12_rings_2 (fun H locs hP hD hS => ?_)
  have hP : va_P D vwCl [(m0, .inr (12, fm.set 0 (.int 0))), (al, .inl (K 0, 5, .inl fl)), (ah, .inl (K 0, 40, .inl fh))] H := hP
  have hD : va_D A [(m0, .inr (12, fm.set 0 (.int 0))), (al, .inl (K 0, 5, .inl fl)), (ah, .inl (K 0, 40, .inl fh))] := hD
  refine lv_aload_n hx hb dX12_rings_5 rfl (lv_at hl 0 rfl) ?_
  refine fn_goi (wc := [(m0, .inr (12, fm.set 0 (.int 0))), (al, .inl (K 0, 5, .inl fl)), (ah, .inl (K 0, 40, .inl fh))]) (wr := []) hK hP hD hS hA [0, 1, 2] [] rfl rfl (by decide) (fun hp => va_runV (C := RX12) (As := []) (rest := []) ⟨hx, hb, hml, hown, hts⟩ (c_X12_isTown (l := l) (D := D) (K := K) (m0 := (m0)) (fm := (fm.set 0 (.int 0))) (hmn := (fn_sl hmn)) (al := (al)) (hm16 := (fn_gs (by decide) hm16)) (ah := (ah)) (hm17 := (fn_gs (by decide) hm17)) (fl := (fl)) (hfl := hfl) (fh := (fh)) (hfh := hfh) _) (cwV 0 hts (fn_ginV (fn_gin wd_1599) wd_1596 wd_1598 wp_124 wd_13) rfl rfl rfl (by decide +kernel) ⟨Nat.le_of_ble_eq_true rfl, Nat.le_of_ble_eq_true rfl⟩) ⟨fn_blind, va_recv hK.1 hP (ci := 12) (q0 := 0) rfl rfl, hp⟩ rfl rfl hl.1 rfl (lv_room (Nat.le_of_ble_eq_true rfl)) dX12_rings_6 ⟨Nat.le_of_ble_eq_true rfl, Nat.le_of_ble_eq_true rfl⟩) (fun r2 u1 H locs hwu1 hP hD hS => ?_)
  have r2_e : r2 = 0 := hwu1
  subst r2_e
  have hP : va_P D vwCl [] H := hP
  have hD : va_D A [] := hD
  refine lv_if_ne (tgt := 15) hx hb dX12_rings_9 (by decide) (fun h9 => absurd rfl h9) (fun _ => ?_)
  refine lv_bipush (v := (-2)) hx hb dX12_rings_12 (by decide) ?_
  exact fn_iret hx hb hr hlocks rfl hP hD hS () (by first | rfl | decide) [] (by decide) rfl dX12_rings_14
theorem dX12_deepest_0 : decode cX12_deepest 0 = .ok (.aload_n 0, 1) := by decide +kernel
theorem dX12_deepest_1 : decode cX12_deepest 1 = .ok (.iconst 0, 1) := by decide +kernel
theorem dX12_deepest_2 : decode cX12_deepest 2 = .ok (.putfield 104, 3) := by decide +kernel
theorem dX12_deepest_5 : decode cX12_deepest 5 = .ok (.aload_n 0, 1) := by decide +kernel
theorem dX12_deepest_6 : decode cX12_deepest 6 = .ok (.invokevirtual 267, 3) := by decide +kernel
theorem dX12_deepest_9 : decode cX12_deepest 9 = .ok (.ifCond .ne 6, 3) := by decide +kernel
theorem dX12_deepest_12 : decode cX12_deepest 12 = .ok (.bipush (-2), 2) := by decide +kernel
theorem dX12_deepest_14 : decode cX12_deepest 14 = .ok (.ireturn, 1) := by decide +kernel
set_option maxHeartbeats 4000000 in
set_option maxRecDepth 100000 in
theorem c_X12_deepest (l : Launch) (D : va_G) (K : Nat → ClassId) (m0 al ah : Nat) (fm : List Value) (hmn : fm.length = 51) (hm16 : fm[16]? = some (.ref al)) (hm17 : fm[17]? = some (.ref ah)) (fl fh : Nat → Int32) (hfl : ∀ j, fl j = 0) (hfh : ∀ j, fh j = 0) : fn_CI (S := Unit) l D K yX12_deepest (fn_ws yX12_deepest cX12_deepest 5 (some .int)) ({ frames := 12, cells := 0, slots := 0, locals := 300 }) [.ref m0] [(m0, .inr (12, fm)), (al, .inl (K 0, 5, .inl fl)), (ah, .inl (K 0, 40, .inl fh))] (fun r _ => r = (-2)) (fun _ => []) 0 0 := by
  refine fn_inI (cc := cX12_deepest) (maxL := 5) (ret := (some .int)) (by decide) rfl (Nat.le_of_ble_eq_true rfl) ?_
  intro p e s m below meth c A ls B hA hP hD hS hl
  obtain ⟨hx, hb, hr, hml, hts, hown, hlocks, hin, hK⟩ := B
  have hown : s.vm.findClass RX12 = some m.cls := hown
  have hts := fun w h => hts w (List.mem_cons_of_mem _ h)
  have hl : lv_has ls 5 [(0, .ref m0)] := hl
  refine lv_aload_n hx hb dX12_deepest_0 rfl (lv_at hl 0 rfl) ?_
  refine lv_iconst (v := 0) hx hb dX12_deepest_1 (by decide) ?_
  refine va_put (D := D) (own := RX12) (ci := 12) (v := .int 0) (ty := .int) (C := RX12) (T := TX12) (N := 51) hx hb hts inb_X12 tyX12 tyX12_ok nmX12 hown hK.1 hP hD hS 0 rfl rfl 0 (by decide) (hts _ wd_1234) (fun _ h9 => h9) rfl (by decide +kernel) rfl rfl (fn_kl hmn (by decide)) dX12_deepest_2 (fun H locs hP hD hS => ?_)
  have hP : va_P D vwCl [(m0, .inr (12, fm.set 0 (.int 0))), (al, .inl (K 0, 5, .inl fl)), (ah, .inl (K 0, 40, .inl fh))] H := hP
  have hD : va_D A [(m0, .inr (12, fm.set 0 (.int 0))), (al, .inl (K 0, 5, .inl fl)), (ah, .inl (K 0, 40, .inl fh))] := hD
  refine lv_aload_n hx hb dX12_deepest_5 rfl (lv_at hl 0 rfl) ?_
  refine fn_goi (wc := [(m0, .inr (12, fm.set 0 (.int 0))), (al, .inl (K 0, 5, .inl fl)), (ah, .inl (K 0, 40, .inl fh))]) (wr := []) hK hP hD hS hA [0, 1, 2] [] rfl rfl (by decide) (fun hp => va_runV (C := RX12) (As := []) (rest := []) ⟨hx, hb, hml, hown, hts⟩ (c_X12_isTown (l := l) (D := D) (K := K) (m0 := (m0)) (fm := (fm.set 0 (.int 0))) (hmn := (fn_sl hmn)) (al := (al)) (hm16 := (fn_gs (by decide) hm16)) (ah := (ah)) (hm17 := (fn_gs (by decide) hm17)) (fl := (fl)) (hfl := hfl) (fh := (fh)) (hfh := hfh) _) (cwV 0 hts (fn_ginV (fn_gin wd_1599) wd_1596 wd_1598 wp_124 wd_13) rfl rfl rfl (by decide +kernel) ⟨Nat.le_of_ble_eq_true rfl, Nat.le_of_ble_eq_true rfl⟩) ⟨fn_blind, va_recv hK.1 hP (ci := 12) (q0 := 0) rfl rfl, hp⟩ rfl rfl hl.1 rfl (lv_room (Nat.le_of_ble_eq_true rfl)) dX12_deepest_6 ⟨Nat.le_of_ble_eq_true rfl, Nat.le_of_ble_eq_true rfl⟩) (fun r2 u1 H locs hwu1 hP hD hS => ?_)
  have r2_e : r2 = 0 := hwu1
  subst r2_e
  have hP : va_P D vwCl [] H := hP
  have hD : va_D A [] := hD
  refine lv_if_ne (tgt := 15) hx hb dX12_deepest_9 (by decide) (fun h9 => absurd rfl h9) (fun _ => ?_)
  refine lv_bipush (v := (-2)) hx hb dX12_deepest_12 (by decide) ?_
  exact fn_iret hx hb hr hlocks rfl hP hD hS () (by first | rfl | decide) [] (by decide) rfl dX12_deepest_14
theorem dX12_grounded_0 : decode cX12_grounded 0 = .ok (.aload_n 0, 1) := by decide +kernel
theorem dX12_grounded_1 : decode cX12_grounded 1 = .ok (.iconst 0, 1) := by decide +kernel
theorem dX12_grounded_2 : decode cX12_grounded 2 = .ok (.putfield 104, 3) := by decide +kernel
theorem dX12_grounded_5 : decode cX12_grounded 5 = .ok (.aload_n 0, 1) := by decide +kernel
theorem dX12_grounded_6 : decode cX12_grounded 6 = .ok (.invokevirtual 267, 3) := by decide +kernel
theorem dX12_grounded_9 : decode cX12_grounded 9 = .ok (.ifCond .ne 6, 3) := by decide +kernel
theorem dX12_grounded_12 : decode cX12_grounded 12 = .ok (.bipush (-2), 2) := by decide +kernel
theorem dX12_grounded_14 : decode cX12_grounded 14 = .ok (.ireturn, 1) := by decide +kernel
set_option maxHeartbeats 4000000 in
set_option maxRecDepth 100000 in
theorem c_X12_grounded (l : Launch) (D : va_G) (K : Nat → ClassId) (m0 al ah : Nat) (fm : List Value) (hmn : fm.length = 51) (hm16 : fm[16]? = some (.ref al)) (hm17 : fm[17]? = some (.ref ah)) (fl fh : Nat → Int32) (hfl : ∀ j, fl j = 0) (hfh : ∀ j, fh j = 0) : fn_CI (S := Unit) l D K yX12_grounded (fn_ws yX12_grounded cX12_grounded 1 (some .int)) ({ frames := 12, cells := 0, slots := 0, locals := 300 }) [.ref m0] [(m0, .inr (12, fm)), (al, .inl (K 0, 5, .inl fl)), (ah, .inl (K 0, 40, .inl fh))] (fun r _ => r = (-2)) (fun _ => []) 0 0 := by
  refine fn_inI (cc := cX12_grounded) (maxL := 1) (ret := (some .int)) (by decide) rfl (Nat.le_of_ble_eq_true rfl) ?_
  intro p e s m below meth c A ls B hA hP hD hS hl
  obtain ⟨hx, hb, hr, hml, hts, hown, hlocks, hin, hK⟩ := B
  have hown : s.vm.findClass RX12 = some m.cls := hown
  have hts := fun w h => hts w (List.mem_cons_of_mem _ h)
  have hl : lv_has ls 1 [(0, .ref m0)] := hl
  refine lv_aload_n hx hb dX12_grounded_0 rfl (lv_at hl 0 rfl) ?_
  refine lv_iconst (v := 0) hx hb dX12_grounded_1 (by decide) ?_
  refine va_put (D := D) (own := RX12) (ci := 12) (v := .int 0) (ty := .int) (C := RX12) (T := TX12) (N := 51) hx hb hts inb_X12 tyX12 tyX12_ok nmX12 hown hK.1 hP hD hS 0 rfl rfl 0 (by decide) (hts _ wd_1234) (fun _ h9 => h9) rfl (by decide +kernel) rfl rfl (fn_kl hmn (by decide)) dX12_grounded_2 (fun H locs hP hD hS => ?_)
  have hP : va_P D vwCl [(m0, .inr (12, fm.set 0 (.int 0))), (al, .inl (K 0, 5, .inl fl)), (ah, .inl (K 0, 40, .inl fh))] H := hP
  have hD : va_D A [(m0, .inr (12, fm.set 0 (.int 0))), (al, .inl (K 0, 5, .inl fl)), (ah, .inl (K 0, 40, .inl fh))] := hD
  refine lv_aload_n hx hb dX12_grounded_5 rfl (lv_at hl 0 rfl) ?_
  refine fn_goi (wc := [(m0, .inr (12, fm.set 0 (.int 0))), (al, .inl (K 0, 5, .inl fl)), (ah, .inl (K 0, 40, .inl fh))]) (wr := []) hK hP hD hS hA [0, 1, 2] [] rfl rfl (by decide) (fun hp => va_runV (C := RX12) (As := []) (rest := []) ⟨hx, hb, hml, hown, hts⟩ (c_X12_isTown (l := l) (D := D) (K := K) (m0 := (m0)) (fm := (fm.set 0 (.int 0))) (hmn := (fn_sl hmn)) (al := (al)) (hm16 := (fn_gs (by decide) hm16)) (ah := (ah)) (hm17 := (fn_gs (by decide) hm17)) (fl := (fl)) (hfl := hfl) (fh := (fh)) (hfh := hfh) _) (cwV 0 hts (fn_ginV (fn_gin wd_1599) wd_1596 wd_1598 wp_124 wd_13) rfl rfl rfl (by decide +kernel) ⟨Nat.le_of_ble_eq_true rfl, Nat.le_of_ble_eq_true rfl⟩) ⟨fn_blind, va_recv hK.1 hP (ci := 12) (q0 := 0) rfl rfl, hp⟩ rfl rfl hl.1 rfl (lv_room (Nat.le_of_ble_eq_true rfl)) dX12_grounded_6 ⟨Nat.le_of_ble_eq_true rfl, Nat.le_of_ble_eq_true rfl⟩) (fun r2 u1 H locs hwu1 hP hD hS => ?_)
  have r2_e : r2 = 0 := hwu1
  subst r2_e
  have hP : va_P D vwCl [] H := hP
  have hD : va_D A [] := hD
  refine lv_if_ne (tgt := 15) hx hb dX12_grounded_9 (by decide) (fun h9 => absurd rfl h9) (fun _ => ?_)
  refine lv_bipush (v := (-2)) hx hb dX12_grounded_12 (by decide) ?_
  exact fn_iret hx hb hr hlocks rfl hP hD hS () (by first | rfl | decide) [] (by decide) rfl dX12_grounded_14
theorem dX12_key_0 : decode cX12_key 0 = .ok (.aload_n 0, 1) := by decide +kernel
theorem dX12_key_1 : decode cX12_key 1 = .ok (.iconst 0, 1) := by decide +kernel
theorem dX12_key_2 : decode cX12_key 2 = .ok (.putfield 104, 3) := by decide +kernel
theorem dX12_key_5 : decode cX12_key 5 = .ok (.aload_n 0, 1) := by decide +kernel
theorem dX12_key_6 : decode cX12_key 6 = .ok (.invokevirtual 267, 3) := by decide +kernel
theorem dX12_key_9 : decode cX12_key 9 = .ok (.ifCond .ne 6, 3) := by decide +kernel
theorem dX12_key_12 : decode cX12_key 12 = .ok (.bipush (-2), 2) := by decide +kernel
theorem dX12_key_14 : decode cX12_key 14 = .ok (.ireturn, 1) := by decide +kernel
set_option maxHeartbeats 4000000 in
set_option maxRecDepth 100000 in
theorem c_X12_key (l : Launch) (D : va_G) (K : Nat → ClassId) (m0 al ah : Nat) (fm : List Value) (hmn : fm.length = 51) (hm16 : fm[16]? = some (.ref al)) (hm17 : fm[17]? = some (.ref ah)) (fl fh : Nat → Int32) (hfl : ∀ j, fl j = 0) (hfh : ∀ j, fh j = 0) : fn_CI (S := Unit) l D K yX12_key (fn_ws yX12_key cX12_key 5 (some .int)) ({ frames := 12, cells := 0, slots := 0, locals := 300 }) [.ref m0] [(m0, .inr (12, fm)), (al, .inl (K 0, 5, .inl fl)), (ah, .inl (K 0, 40, .inl fh))] (fun r _ => r = (-2)) (fun _ => []) 0 0 := by
  refine fn_inI (cc := cX12_key) (maxL := 5) (ret := (some .int)) (by decide) rfl (Nat.le_of_ble_eq_true rfl) ?_
  intro p e s m below meth c A ls B hA hP hD hS hl
  obtain ⟨hx, hb, hr, hml, hts, hown, hlocks, hin, hK⟩ := B
  have hown : s.vm.findClass RX12 = some m.cls := hown
  have hts := fun w h => hts w (List.mem_cons_of_mem _ h)
  have hl : lv_has ls 5 [(0, .ref m0)] := hl
  refine lv_aload_n hx hb dX12_key_0 rfl (lv_at hl 0 rfl) ?_
  refine lv_iconst (v := 0) hx hb dX12_key_1 (by decide) ?_
  refine va_put (D := D) (own := RX12) (ci := 12) (v := .int 0) (ty := .int) (C := RX12) (T := TX12) (N := 51) hx hb hts inb_X12 tyX12 tyX12_ok nmX12 hown hK.1 hP hD hS 0 rfl rfl 0 (by decide) (hts _ wd_1234) (fun _ h9 => h9) rfl (by decide +kernel) rfl rfl (fn_kl hmn (by decide)) dX12_key_2 (fun H locs hP hD hS => ?_)
  have hP : va_P D vwCl [(m0, .inr (12, fm.set 0 (.int 0))), (al, .inl (K 0, 5, .inl fl)), (ah, .inl (K 0, 40, .inl fh))] H := hP
  have hD : va_D A [(m0, .inr (12, fm.set 0 (.int 0))), (al, .inl (K 0, 5, .inl fl)), (ah, .inl (K 0, 40, .inl fh))] := hD
  refine lv_aload_n hx hb dX12_key_5 rfl (lv_at hl 0 rfl) ?_
  refine fn_goi (wc := [(m0, .inr (12, fm.set 0 (.int 0))), (al, .inl (K 0, 5, .inl fl)), (ah, .inl (K 0, 40, .inl fh))]) (wr := []) hK hP hD hS hA [0, 1, 2] [] rfl rfl (by decide) (fun hp => va_runV (C := RX12) (As := []) (rest := []) ⟨hx, hb, hml, hown, hts⟩ (c_X12_isTown (l := l) (D := D) (K := K) (m0 := (m0)) (fm := (fm.set 0 (.int 0))) (hmn := (fn_sl hmn)) (al := (al)) (hm16 := (fn_gs (by decide) hm16)) (ah := (ah)) (hm17 := (fn_gs (by decide) hm17)) (fl := (fl)) (hfl := hfl) (fh := (fh)) (hfh := hfh) _) (cwV 0 hts (fn_ginV (fn_gin wd_1599) wd_1596 wd_1598 wp_124 wd_13) rfl rfl rfl (by decide +kernel) ⟨Nat.le_of_ble_eq_true rfl, Nat.le_of_ble_eq_true rfl⟩) ⟨fn_blind, va_recv hK.1 hP (ci := 12) (q0 := 0) rfl rfl, hp⟩ rfl rfl hl.1 rfl (lv_room (Nat.le_of_ble_eq_true rfl)) dX12_key_6 ⟨Nat.le_of_ble_eq_true rfl, Nat.le_of_ble_eq_true rfl⟩) (fun r2 u1 H locs hwu1 hP hD hS => ?_)
  have r2_e : r2 = 0 := hwu1
  subst r2_e
  have hP : va_P D vwCl [] H := hP
  have hD : va_D A [] := hD
  refine lv_if_ne (tgt := 15) hx hb dX12_key_9 (by decide) (fun h9 => absurd rfl h9) (fun _ => ?_)
  refine lv_bipush (v := (-2)) hx hb dX12_key_12 (by decide) ?_
  exact fn_iret hx hb hr hlocks rfl hP hD hS () (by first | rfl | decide) [] (by decide) rfl dX12_key_14
theorem dX12_ways_0 : decode cX12_ways 0 = .ok (.aload_n 0, 1) := by decide +kernel
theorem dX12_ways_1 : decode cX12_ways 1 = .ok (.iconst 0, 1) := by decide +kernel
theorem dX12_ways_2 : decode cX12_ways 2 = .ok (.putfield 104, 3) := by decide +kernel
theorem dX12_ways_5 : decode cX12_ways 5 = .ok (.aload_n 0, 1) := by decide +kernel
theorem dX12_ways_6 : decode cX12_ways 6 = .ok (.invokevirtual 267, 3) := by decide +kernel
theorem dX12_ways_9 : decode cX12_ways 9 = .ok (.ifCond .ne 6, 3) := by decide +kernel
theorem dX12_ways_12 : decode cX12_ways 12 = .ok (.bipush (-2), 2) := by decide +kernel
theorem dX12_ways_14 : decode cX12_ways 14 = .ok (.ireturn, 1) := by decide +kernel
set_option maxHeartbeats 4000000 in
set_option maxRecDepth 100000 in
theorem c_X12_ways (l : Launch) (D : va_G) (K : Nat → ClassId) (m0 al ah : Nat) (fm : List Value) (hmn : fm.length = 51) (hm16 : fm[16]? = some (.ref al)) (hm17 : fm[17]? = some (.ref ah)) (fl fh : Nat → Int32) (hfl : ∀ j, fl j = 0) (hfh : ∀ j, fh j = 0) : fn_CI (S := Unit) l D K yX12_ways (fn_ws yX12_ways cX12_ways 1 (some .int)) ({ frames := 12, cells := 0, slots := 0, locals := 300 }) [.ref m0] [(m0, .inr (12, fm)), (al, .inl (K 0, 5, .inl fl)), (ah, .inl (K 0, 40, .inl fh))] (fun r _ => r = (-2)) (fun _ => []) 0 0 := by
  refine fn_inI (cc := cX12_ways) (maxL := 1) (ret := (some .int)) (by decide) rfl (Nat.le_of_ble_eq_true rfl) ?_
  intro p e s m below meth c A ls B hA hP hD hS hl
  obtain ⟨hx, hb, hr, hml, hts, hown, hlocks, hin, hK⟩ := B
  have hown : s.vm.findClass RX12 = some m.cls := hown
  have hts := fun w h => hts w (List.mem_cons_of_mem _ h)
  have hl : lv_has ls 1 [(0, .ref m0)] := hl
  refine lv_aload_n hx hb dX12_ways_0 rfl (lv_at hl 0 rfl) ?_
  refine lv_iconst (v := 0) hx hb dX12_ways_1 (by decide) ?_
  refine va_put (D := D) (own := RX12) (ci := 12) (v := .int 0) (ty := .int) (C := RX12) (T := TX12) (N := 51) hx hb hts inb_X12 tyX12 tyX12_ok nmX12 hown hK.1 hP hD hS 0 rfl rfl 0 (by decide) (hts _ wd_1234) (fun _ h9 => h9) rfl (by decide +kernel) rfl rfl (fn_kl hmn (by decide)) dX12_ways_2 (fun H locs hP hD hS => ?_)
  have hP : va_P D vwCl [(m0, .inr (12, fm.set 0 (.int 0))), (al, .inl (K 0, 5, .inl fl)), (ah, .inl (K 0, 40, .inl fh))] H := hP
  have hD : va_D A [(m0, .inr (12, fm.set 0 (.int 0))), (al, .inl (K 0, 5, .inl fl)), (ah, .inl (K 0, 40, .inl fh))] := hD
  refine lv_aload_n hx hb dX12_ways_5 rfl (lv_at hl 0 rfl) ?_
  refine fn_goi (wc := [(m0, .inr (12, fm.set 0 (.int 0))), (al, .inl (K 0, 5, .inl fl)), (ah, .inl (K 0, 40, .inl fh))]) (wr := []) hK hP hD hS hA [0, 1, 2] [] rfl rfl (by decide) (fun hp => va_runV (C := RX12) (As := []) (rest := []) ⟨hx, hb, hml, hown, hts⟩ (c_X12_isTown (l := l) (D := D) (K := K) (m0 := (m0)) (fm := (fm.set 0 (.int 0))) (hmn := (fn_sl hmn)) (al := (al)) (hm16 := (fn_gs (by decide) hm16)) (ah := (ah)) (hm17 := (fn_gs (by decide) hm17)) (fl := (fl)) (hfl := hfl) (fh := (fh)) (hfh := hfh) _) (cwV 0 hts (fn_ginV (fn_gin wd_1599) wd_1596 wd_1598 wp_124 wd_13) rfl rfl rfl (by decide +kernel) ⟨Nat.le_of_ble_eq_true rfl, Nat.le_of_ble_eq_true rfl⟩) ⟨fn_blind, va_recv hK.1 hP (ci := 12) (q0 := 0) rfl rfl, hp⟩ rfl rfl hl.1 rfl (lv_room (Nat.le_of_ble_eq_true rfl)) dX12_ways_6 ⟨Nat.le_of_ble_eq_true rfl, Nat.le_of_ble_eq_true rfl⟩) (fun r2 u1 H locs hwu1 hP hD hS => ?_)
  have r2_e : r2 = 0 := hwu1
  subst r2_e
  have hP : va_P D vwCl [] H := hP
  have hD : va_D A [] := hD
  refine lv_if_ne (tgt := 15) hx hb dX12_ways_9 (by decide) (fun h9 => absurd rfl h9) (fun _ => ?_)
  refine lv_bipush (v := (-2)) hx hb dX12_ways_12 (by decide) ?_
  exact fn_iret hx hb hr hlocks rfl hP hD hS () (by first | rfl | decide) [] (by decide) rfl dX12_ways_14
theorem dX12_mostly_0 : decode cX12_mostly 0 = .ok (.aload_n 0, 1) := by decide +kernel
theorem dX12_mostly_1 : decode cX12_mostly 1 = .ok (.iconst 0, 1) := by decide +kernel
theorem dX12_mostly_2 : decode cX12_mostly 2 = .ok (.putfield 104, 3) := by decide +kernel
theorem dX12_mostly_5 : decode cX12_mostly 5 = .ok (.aload_n 0, 1) := by decide +kernel
theorem dX12_mostly_6 : decode cX12_mostly 6 = .ok (.invokevirtual 267, 3) := by decide +kernel
theorem dX12_mostly_9 : decode cX12_mostly 9 = .ok (.ifCond .ne 6, 3) := by decide +kernel
theorem dX12_mostly_12 : decode cX12_mostly 12 = .ok (.bipush (-2), 2) := by decide +kernel
theorem dX12_mostly_14 : decode cX12_mostly 14 = .ok (.ireturn, 1) := by decide +kernel
set_option maxHeartbeats 4000000 in
set_option maxRecDepth 100000 in
theorem c_X12_mostly (l : Launch) (D : va_G) (K : Nat → ClassId) (m0 al ah : Nat) (fm : List Value) (hmn : fm.length = 51) (hm16 : fm[16]? = some (.ref al)) (hm17 : fm[17]? = some (.ref ah)) (fl fh : Nat → Int32) (hfl : ∀ j, fl j = 0) (hfh : ∀ j, fh j = 0) : fn_CI (S := Unit) l D K yX12_mostly (fn_ws yX12_mostly cX12_mostly 1 (some .int)) ({ frames := 12, cells := 0, slots := 0, locals := 300 }) [.ref m0] [(m0, .inr (12, fm)), (al, .inl (K 0, 5, .inl fl)), (ah, .inl (K 0, 40, .inl fh))] (fun r _ => r = (-2)) (fun _ => []) 0 0 := by
  refine fn_inI (cc := cX12_mostly) (maxL := 1) (ret := (some .int)) (by decide) rfl (Nat.le_of_ble_eq_true rfl) ?_
  intro p e s m below meth c A ls B hA hP hD hS hl
  obtain ⟨hx, hb, hr, hml, hts, hown, hlocks, hin, hK⟩ := B
  have hown : s.vm.findClass RX12 = some m.cls := hown
  have hts := fun w h => hts w (List.mem_cons_of_mem _ h)
  have hl : lv_has ls 1 [(0, .ref m0)] := hl
  refine lv_aload_n hx hb dX12_mostly_0 rfl (lv_at hl 0 rfl) ?_
  refine lv_iconst (v := 0) hx hb dX12_mostly_1 (by decide) ?_
  refine va_put (D := D) (own := RX12) (ci := 12) (v := .int 0) (ty := .int) (C := RX12) (T := TX12) (N := 51) hx hb hts inb_X12 tyX12 tyX12_ok nmX12 hown hK.1 hP hD hS 0 rfl rfl 0 (by decide) (hts _ wd_1234) (fun _ h9 => h9) rfl (by decide +kernel) rfl rfl (fn_kl hmn (by decide)) dX12_mostly_2 (fun H locs hP hD hS => ?_)
  have hP : va_P D vwCl [(m0, .inr (12, fm.set 0 (.int 0))), (al, .inl (K 0, 5, .inl fl)), (ah, .inl (K 0, 40, .inl fh))] H := hP
  have hD : va_D A [(m0, .inr (12, fm.set 0 (.int 0))), (al, .inl (K 0, 5, .inl fl)), (ah, .inl (K 0, 40, .inl fh))] := hD
  refine lv_aload_n hx hb dX12_mostly_5 rfl (lv_at hl 0 rfl) ?_
  refine fn_goi (wc := [(m0, .inr (12, fm.set 0 (.int 0))), (al, .inl (K 0, 5, .inl fl)), (ah, .inl (K 0, 40, .inl fh))]) (wr := []) hK hP hD hS hA [0, 1, 2] [] rfl rfl (by decide) (fun hp => va_runV (C := RX12) (As := []) (rest := []) ⟨hx, hb, hml, hown, hts⟩ (c_X12_isTown (l := l) (D := D) (K := K) (m0 := (m0)) (fm := (fm.set 0 (.int 0))) (hmn := (fn_sl hmn)) (al := (al)) (hm16 := (fn_gs (by decide) hm16)) (ah := (ah)) (hm17 := (fn_gs (by decide) hm17)) (fl := (fl)) (hfl := hfl) (fh := (fh)) (hfh := hfh) _) (cwV 0 hts (fn_ginV (fn_gin wd_1599) wd_1596 wd_1598 wp_124 wd_13) rfl rfl rfl (by decide +kernel) ⟨Nat.le_of_ble_eq_true rfl, Nat.le_of_ble_eq_true rfl⟩) ⟨fn_blind, va_recv hK.1 hP (ci := 12) (q0 := 0) rfl rfl, hp⟩ rfl rfl hl.1 rfl (lv_room (Nat.le_of_ble_eq_true rfl)) dX12_mostly_6 ⟨Nat.le_of_ble_eq_true rfl, Nat.le_of_ble_eq_true rfl⟩) (fun r2 u1 H locs hwu1 hP hD hS => ?_)
  have r2_e : r2 = 0 := hwu1
  subst r2_e
  have hP : va_P D vwCl [] H := hP
  have hD : va_D A [] := hD
  refine lv_if_ne (tgt := 15) hx hb dX12_mostly_9 (by decide) (fun h9 => absurd rfl h9) (fun _ => ?_)
  refine lv_bipush (v := (-2)) hx hb dX12_mostly_12 (by decide) ?_
  exact fn_iret hx hb hr hlocks rfl hP hD hS () (by first | rfl | decide) [] (by decide) rfl dX12_mostly_14
theorem dX12_most_0 : decode cX12_most 0 = .ok (.aload_n 0, 1) := by decide +kernel
theorem dX12_most_1 : decode cX12_most 1 = .ok (.iconst 0, 1) := by decide +kernel
theorem dX12_most_2 : decode cX12_most 2 = .ok (.putfield 104, 3) := by decide +kernel
theorem dX12_most_5 : decode cX12_most 5 = .ok (.aload_n 0, 1) := by decide +kernel
theorem dX12_most_6 : decode cX12_most 6 = .ok (.invokevirtual 267, 3) := by decide +kernel
theorem dX12_most_9 : decode cX12_most 9 = .ok (.ifCond .ne 6, 3) := by decide +kernel
theorem dX12_most_12 : decode cX12_most 12 = .ok (.bipush (-2), 2) := by decide +kernel
theorem dX12_most_14 : decode cX12_most 14 = .ok (.ireturn, 1) := by decide +kernel
set_option maxHeartbeats 4000000 in
set_option maxRecDepth 100000 in
theorem c_X12_most (l : Launch) (D : va_G) (K : Nat → ClassId) (m0 al ah : Nat) (fm : List Value) (hmn : fm.length = 51) (hm16 : fm[16]? = some (.ref al)) (hm17 : fm[17]? = some (.ref ah)) (fl fh : Nat → Int32) (hfl : ∀ j, fl j = 0) (hfh : ∀ j, fh j = 0) : fn_CI (S := Unit) l D K yX12_most (fn_ws yX12_most cX12_most 1 (some .int)) ({ frames := 12, cells := 0, slots := 0, locals := 300 }) [.ref m0] [(m0, .inr (12, fm)), (al, .inl (K 0, 5, .inl fl)), (ah, .inl (K 0, 40, .inl fh))] (fun r _ => r = (-2)) (fun _ => []) 0 0 := by
  refine fn_inI (cc := cX12_most) (maxL := 1) (ret := (some .int)) (by decide) rfl (Nat.le_of_ble_eq_true rfl) ?_
  intro p e s m below meth c A ls B hA hP hD hS hl
  obtain ⟨hx, hb, hr, hml, hts, hown, hlocks, hin, hK⟩ := B
  have hown : s.vm.findClass RX12 = some m.cls := hown
  have hts := fun w h => hts w (List.mem_cons_of_mem _ h)
  have hl : lv_has ls 1 [(0, .ref m0)] := hl
  refine lv_aload_n hx hb dX12_most_0 rfl (lv_at hl 0 rfl) ?_
  refine lv_iconst (v := 0) hx hb dX12_most_1 (by decide) ?_
  refine va_put (D := D) (own := RX12) (ci := 12) (v := .int 0) (ty := .int) (C := RX12) (T := TX12) (N := 51) hx hb hts inb_X12 tyX12 tyX12_ok nmX12 hown hK.1 hP hD hS 0 rfl rfl 0 (by decide) (hts _ wd_1234) (fun _ h9 => h9) rfl (by decide +kernel) rfl rfl (fn_kl hmn (by decide)) dX12_most_2 (fun H locs hP hD hS => ?_)
  have hP : va_P D vwCl [(m0, .inr (12, fm.set 0 (.int 0))), (al, .inl (K 0, 5, .inl fl)), (ah, .inl (K 0, 40, .inl fh))] H := hP
  have hD : va_D A [(m0, .inr (12, fm.set 0 (.int 0))), (al, .inl (K 0, 5, .inl fl)), (ah, .inl (K 0, 40, .inl fh))] := hD
  refine lv_aload_n hx hb dX12_most_5 rfl (lv_at hl 0 rfl) ?_
  refine fn_goi (wc := [(m0, .inr (12, fm.set 0 (.int 0))), (al, .inl (K 0, 5, .inl fl)), (ah, .inl (K 0, 40, .inl fh))]) (wr := []) hK hP hD hS hA [0, 1, 2] [] rfl rfl (by decide) (fun hp => va_runV (C := RX12) (As := []) (rest := []) ⟨hx, hb, hml, hown, hts⟩ (c_X12_isTown (l := l) (D := D) (K := K) (m0 := (m0)) (fm := (fm.set 0 (.int 0))) (hmn := (fn_sl hmn)) (al := (al)) (hm16 := (fn_gs (by decide) hm16)) (ah := (ah)) (hm17 := (fn_gs (by decide) hm17)) (fl := (fl)) (hfl := hfl) (fh := (fh)) (hfh := hfh) _) (cwV 0 hts (fn_ginV (fn_gin wd_1599) wd_1596 wd_1598 wp_124 wd_13) rfl rfl rfl (by decide +kernel) ⟨Nat.le_of_ble_eq_true rfl, Nat.le_of_ble_eq_true rfl⟩) ⟨fn_blind, va_recv hK.1 hP (ci := 12) (q0 := 0) rfl rfl, hp⟩ rfl rfl hl.1 rfl (lv_room (Nat.le_of_ble_eq_true rfl)) dX12_most_6 ⟨Nat.le_of_ble_eq_true rfl, Nat.le_of_ble_eq_true rfl⟩) (fun r2 u1 H locs hwu1 hP hD hS => ?_)
  have r2_e : r2 = 0 := hwu1
  subst r2_e
  have hP : va_P D vwCl [] H := hP
  have hD : va_D A [] := hD
  refine lv_if_ne (tgt := 15) hx hb dX12_most_9 (by decide) (fun h9 => absurd rfl h9) (fun _ => ?_)
  refine lv_bipush (v := (-2)) hx hb dX12_most_12 (by decide) ?_
  exact fn_iret hx hb hr hlocks rfl hP hD hS () (by first | rfl | decide) [] (by decide) rfl dX12_most_14
theorem dX12_sure_0 : decode cX12_sure 0 = .ok (.aload_n 0, 1) := by decide +kernel
theorem dX12_sure_1 : decode cX12_sure 1 = .ok (.iconst 0, 1) := by decide +kernel
theorem dX12_sure_2 : decode cX12_sure 2 = .ok (.putfield 104, 3) := by decide +kernel
theorem dX12_sure_5 : decode cX12_sure 5 = .ok (.aload_n 0, 1) := by decide +kernel
theorem dX12_sure_6 : decode cX12_sure 6 = .ok (.invokevirtual 267, 3) := by decide +kernel
theorem dX12_sure_9 : decode cX12_sure 9 = .ok (.ifCond .eq 13, 3) := by decide +kernel
theorem dX12_sure_22 : decode cX12_sure 22 = .ok (.bipush (-2), 2) := by decide +kernel
theorem dX12_sure_24 : decode cX12_sure 24 = .ok (.ireturn, 1) := by decide +kernel
set_option maxHeartbeats 4000000 in
set_option maxRecDepth 100000 in
theorem c_X12_sure (l : Launch) (D : va_G) (K : Nat → ClassId) (m0 al ah : Nat) (fm : List Value) (hmn : fm.length = 51) (hm16 : fm[16]? = some (.ref al)) (hm17 : fm[17]? = some (.ref ah)) (fl fh : Nat → Int32) (hfl : ∀ j, fl j = 0) (hfh : ∀ j, fh j = 0) (p0 : Int32) : fn_CI (S := Unit) l D K yX12_sure (fn_ws yX12_sure cX12_sure 2 (some .int)) ({ frames := 12, cells := 0, slots := 0, locals := 300 }) [.ref m0, .int p0] [(m0, .inr (12, fm)), (al, .inl (K 0, 5, .inl fl)), (ah, .inl (K 0, 40, .inl fh))] (fun r _ => r = (-2)) (fun _ => []) 0 0 := by
  refine fn_inI (cc := cX12_sure) (maxL := 2) (ret := (some .int)) (by decide) rfl (Nat.le_of_ble_eq_true rfl) ?_
  intro p e s m below meth c A ls B hA hP hD hS hl
  obtain ⟨hx, hb, hr, hml, hts, hown, hlocks, hin, hK⟩ := B
  have hown : s.vm.findClass RX12 = some m.cls := hown
  have hts := fun w h => hts w (List.mem_cons_of_mem _ h)
  have hl : lv_has ls 2 [(0, .ref m0), (1, .int p0)] := hl
  refine lv_aload_n hx hb dX12_sure_0 rfl (lv_at hl 0 rfl) ?_
  refine lv_iconst (v := 0) hx hb dX12_sure_1 (by decide) ?_
  refine va_put (D := D) (own := RX12) (ci := 12) (v := .int 0) (ty := .int) (C := RX12) (T := TX12) (N := 51) hx hb hts inb_X12 tyX12 tyX12_ok nmX12 hown hK.1 hP hD hS 0 rfl rfl 0 (by decide) (hts _ wd_1234) (fun _ h9 => h9) rfl (by decide +kernel) rfl rfl (fn_kl hmn (by decide)) dX12_sure_2 (fun H locs hP hD hS => ?_)
  have hP : va_P D vwCl [(m0, .inr (12, fm.set 0 (.int 0))), (al, .inl (K 0, 5, .inl fl)), (ah, .inl (K 0, 40, .inl fh))] H := hP
  have hD : va_D A [(m0, .inr (12, fm.set 0 (.int 0))), (al, .inl (K 0, 5, .inl fl)), (ah, .inl (K 0, 40, .inl fh))] := hD
  refine lv_aload_n hx hb dX12_sure_5 rfl (lv_at hl 0 rfl) ?_
  refine fn_goi (wc := [(m0, .inr (12, fm.set 0 (.int 0))), (al, .inl (K 0, 5, .inl fl)), (ah, .inl (K 0, 40, .inl fh))]) (wr := []) hK hP hD hS hA [0, 1, 2] [] rfl rfl (by decide) (fun hp => va_runV (C := RX12) (As := []) (rest := []) ⟨hx, hb, hml, hown, hts⟩ (c_X12_isTown (l := l) (D := D) (K := K) (m0 := (m0)) (fm := (fm.set 0 (.int 0))) (hmn := (fn_sl hmn)) (al := (al)) (hm16 := (fn_gs (by decide) hm16)) (ah := (ah)) (hm17 := (fn_gs (by decide) hm17)) (fl := (fl)) (hfl := hfl) (fh := (fh)) (hfh := hfh) _) (cwV 0 hts (fn_ginV (fn_gin wd_1599) wd_1596 wd_1598 wp_124 wd_13) rfl rfl rfl (by decide +kernel) ⟨Nat.le_of_ble_eq_true rfl, Nat.le_of_ble_eq_true rfl⟩) ⟨fn_blind, va_recv hK.1 hP (ci := 12) (q0 := 0) rfl rfl, hp⟩ rfl rfl hl.1 rfl (lv_room (Nat.le_of_ble_eq_true rfl)) dX12_sure_6 ⟨Nat.le_of_ble_eq_true rfl, Nat.le_of_ble_eq_true rfl⟩) (fun r2 u1 H locs hwu1 hP hD hS => ?_)
  have r2_e : r2 = 0 := hwu1
  subst r2_e
  have hP : va_P D vwCl [] H := hP
  have hD : va_D A [] := hD
  refine lv_if_eq (tgt := 22) hx hb dX12_sure_9 (by decide) (fun _ => ?_) (fun h9 => absurd (by decide) h9)
  refine lv_bipush (v := (-2)) hx hb dX12_sure_22 (by decide) ?_
  exact fn_iret hx hb hr hlocks rfl hP hD hS () (by first | rfl | decide) [] (by decide) rfl dX12_sure_24
theorem dX12_sends_0 : decode cX12_sends 0 = .ok (.aload_n 0, 1) := by decide +kernel
theorem dX12_sends_1 : decode cX12_sends 1 = .ok (.iconst 0, 1) := by decide +kernel
theorem dX12_sends_2 : decode cX12_sends 2 = .ok (.putfield 104, 3) := by decide +kernel
theorem dX12_sends_5 : decode cX12_sends 5 = .ok (.aload_n 0, 1) := by decide +kernel
theorem dX12_sends_6 : decode cX12_sends 6 = .ok (.invokevirtual 267, 3) := by decide +kernel
theorem dX12_sends_9 : decode cX12_sends 9 = .ok (.ifCond .ne 6, 3) := by decide +kernel
theorem dX12_sends_12 : decode cX12_sends 12 = .ok (.bipush (-2), 2) := by decide +kernel
theorem dX12_sends_14 : decode cX12_sends 14 = .ok (.ireturn, 1) := by decide +kernel
set_option maxHeartbeats 4000000 in
set_option maxRecDepth 100000 in
theorem c_X12_sends (l : Launch) (D : va_G) (K : Nat → ClassId) (m0 al ah : Nat) (fm : List Value) (hmn : fm.length = 51) (hm16 : fm[16]? = some (.ref al)) (hm17 : fm[17]? = some (.ref ah)) (fl fh : Nat → Int32) (hfl : ∀ j, fl j = 0) (hfh : ∀ j, fh j = 0) : fn_CI (S := Unit) l D K yX12_sends (fn_ws yX12_sends cX12_sends 1 (some .int)) ({ frames := 12, cells := 0, slots := 0, locals := 300 }) [.ref m0] [(m0, .inr (12, fm)), (al, .inl (K 0, 5, .inl fl)), (ah, .inl (K 0, 40, .inl fh))] (fun r _ => r = (-2)) (fun _ => []) 0 0 := by
  refine fn_inI (cc := cX12_sends) (maxL := 1) (ret := (some .int)) (by decide) rfl (Nat.le_of_ble_eq_true rfl) ?_
  intro p e s m below meth c A ls B hA hP hD hS hl
  obtain ⟨hx, hb, hr, hml, hts, hown, hlocks, hin, hK⟩ := B
  have hown : s.vm.findClass RX12 = some m.cls := hown
  have hts := fun w h => hts w (List.mem_cons_of_mem _ h)
  have hl : lv_has ls 1 [(0, .ref m0)] := hl
  refine lv_aload_n hx hb dX12_sends_0 rfl (lv_at hl 0 rfl) ?_
  refine lv_iconst (v := 0) hx hb dX12_sends_1 (by decide) ?_
  refine va_put (D := D) (own := RX12) (ci := 12) (v := .int 0) (ty := .int) (C := RX12) (T := TX12) (N := 51) hx hb hts inb_X12 tyX12 tyX12_ok nmX12 hown hK.1 hP hD hS 0 rfl rfl 0 (by decide) (hts _ wd_1234) (fun _ h9 => h9) rfl (by decide +kernel) rfl rfl (fn_kl hmn (by decide)) dX12_sends_2 (fun H locs hP hD hS => ?_)
  have hP : va_P D vwCl [(m0, .inr (12, fm.set 0 (.int 0))), (al, .inl (K 0, 5, .inl fl)), (ah, .inl (K 0, 40, .inl fh))] H := hP
  have hD : va_D A [(m0, .inr (12, fm.set 0 (.int 0))), (al, .inl (K 0, 5, .inl fl)), (ah, .inl (K 0, 40, .inl fh))] := hD
  refine lv_aload_n hx hb dX12_sends_5 rfl (lv_at hl 0 rfl) ?_
  refine fn_goi (wc := [(m0, .inr (12, fm.set 0 (.int 0))), (al, .inl (K 0, 5, .inl fl)), (ah, .inl (K 0, 40, .inl fh))]) (wr := []) hK hP hD hS hA [0, 1, 2] [] rfl rfl (by decide) (fun hp => va_runV (C := RX12) (As := []) (rest := []) ⟨hx, hb, hml, hown, hts⟩ (c_X12_isTown (l := l) (D := D) (K := K) (m0 := (m0)) (fm := (fm.set 0 (.int 0))) (hmn := (fn_sl hmn)) (al := (al)) (hm16 := (fn_gs (by decide) hm16)) (ah := (ah)) (hm17 := (fn_gs (by decide) hm17)) (fl := (fl)) (hfl := hfl) (fh := (fh)) (hfh := hfh) _) (cwV 0 hts (fn_ginV (fn_gin wd_1599) wd_1596 wd_1598 wp_124 wd_13) rfl rfl rfl (by decide +kernel) ⟨Nat.le_of_ble_eq_true rfl, Nat.le_of_ble_eq_true rfl⟩) ⟨fn_blind, va_recv hK.1 hP (ci := 12) (q0 := 0) rfl rfl, hp⟩ rfl rfl hl.1 rfl (lv_room (Nat.le_of_ble_eq_true rfl)) dX12_sends_6 ⟨Nat.le_of_ble_eq_true rfl, Nat.le_of_ble_eq_true rfl⟩) (fun r2 u1 H locs hwu1 hP hD hS => ?_)
  have r2_e : r2 = 0 := hwu1
  subst r2_e
  have hP : va_P D vwCl [] H := hP
  have hD : va_D A [] := hD
  refine lv_if_ne (tgt := 15) hx hb dX12_sends_9 (by decide) (fun h9 => absurd rfl h9) (fun _ => ?_)
  refine lv_bipush (v := (-2)) hx hb dX12_sends_12 (by decide) ?_
  exact fn_iret hx hb hr hlocks rfl hP hD hS () (by first | rfl | decide) [] (by decide) rfl dX12_sends_14
theorem dX12_orders_0 : decode cX12_orders 0 = .ok (.aload_n 0, 1) := by decide +kernel
theorem dX12_orders_1 : decode cX12_orders 1 = .ok (.iconst 0, 1) := by decide +kernel
theorem dX12_orders_2 : decode cX12_orders 2 = .ok (.putfield 104, 3) := by decide +kernel
theorem dX12_orders_5 : decode cX12_orders 5 = .ok (.aload_n 0, 1) := by decide +kernel
theorem dX12_orders_6 : decode cX12_orders 6 = .ok (.invokevirtual 267, 3) := by decide +kernel
theorem dX12_orders_9 : decode cX12_orders 9 = .ok (.ifCond .ne 6, 3) := by decide +kernel
theorem dX12_orders_12 : decode cX12_orders 12 = .ok (.bipush (-2), 2) := by decide +kernel
theorem dX12_orders_14 : decode cX12_orders 14 = .ok (.ireturn, 1) := by decide +kernel
set_option maxHeartbeats 4000000 in
set_option maxRecDepth 100000 in
theorem c_X12_orders (l : Launch) (D : va_G) (K : Nat → ClassId) (m0 al ah : Nat) (fm : List Value) (hmn : fm.length = 51) (hm16 : fm[16]? = some (.ref al)) (hm17 : fm[17]? = some (.ref ah)) (fl fh : Nat → Int32) (hfl : ∀ j, fl j = 0) (hfh : ∀ j, fh j = 0) : fn_CI (S := Unit) l D K yX12_orders (fn_ws yX12_orders cX12_orders 1 (some .int)) ({ frames := 12, cells := 0, slots := 0, locals := 300 }) [.ref m0] [(m0, .inr (12, fm)), (al, .inl (K 0, 5, .inl fl)), (ah, .inl (K 0, 40, .inl fh))] (fun r _ => r = (-2)) (fun _ => []) 0 0 := by
  refine fn_inI (cc := cX12_orders) (maxL := 1) (ret := (some .int)) (by decide) rfl (Nat.le_of_ble_eq_true rfl) ?_
  intro p e s m below meth c A ls B hA hP hD hS hl
  obtain ⟨hx, hb, hr, hml, hts, hown, hlocks, hin, hK⟩ := B
  have hown : s.vm.findClass RX12 = some m.cls := hown
  have hts := fun w h => hts w (List.mem_cons_of_mem _ h)
  have hl : lv_has ls 1 [(0, .ref m0)] := hl
  refine lv_aload_n hx hb dX12_orders_0 rfl (lv_at hl 0 rfl) ?_
  refine lv_iconst (v := 0) hx hb dX12_orders_1 (by decide) ?_
  refine va_put (D := D) (own := RX12) (ci := 12) (v := .int 0) (ty := .int) (C := RX12) (T := TX12) (N := 51) hx hb hts inb_X12 tyX12 tyX12_ok nmX12 hown hK.1 hP hD hS 0 rfl rfl 0 (by decide) (hts _ wd_1234) (fun _ h9 => h9) rfl (by decide +kernel) rfl rfl (fn_kl hmn (by decide)) dX12_orders_2 (fun H locs hP hD hS => ?_)
  have hP : va_P D vwCl [(m0, .inr (12, fm.set 0 (.int 0))), (al, .inl (K 0, 5, .inl fl)), (ah, .inl (K 0, 40, .inl fh))] H := hP
  have hD : va_D A [(m0, .inr (12, fm.set 0 (.int 0))), (al, .inl (K 0, 5, .inl fl)), (ah, .inl (K 0, 40, .inl fh))] := hD
  refine lv_aload_n hx hb dX12_orders_5 rfl (lv_at hl 0 rfl) ?_
  refine fn_goi (wc := [(m0, .inr (12, fm.set 0 (.int 0))), (al, .inl (K 0, 5, .inl fl)), (ah, .inl (K 0, 40, .inl fh))]) (wr := []) hK hP hD hS hA [0, 1, 2] [] rfl rfl (by decide) (fun hp => va_runV (C := RX12) (As := []) (rest := []) ⟨hx, hb, hml, hown, hts⟩ (c_X12_isTown (l := l) (D := D) (K := K) (m0 := (m0)) (fm := (fm.set 0 (.int 0))) (hmn := (fn_sl hmn)) (al := (al)) (hm16 := (fn_gs (by decide) hm16)) (ah := (ah)) (hm17 := (fn_gs (by decide) hm17)) (fl := (fl)) (hfl := hfl) (fh := (fh)) (hfh := hfh) _) (cwV 0 hts (fn_ginV (fn_gin wd_1599) wd_1596 wd_1598 wp_124 wd_13) rfl rfl rfl (by decide +kernel) ⟨Nat.le_of_ble_eq_true rfl, Nat.le_of_ble_eq_true rfl⟩) ⟨fn_blind, va_recv hK.1 hP (ci := 12) (q0 := 0) rfl rfl, hp⟩ rfl rfl hl.1 rfl (lv_room (Nat.le_of_ble_eq_true rfl)) dX12_orders_6 ⟨Nat.le_of_ble_eq_true rfl, Nat.le_of_ble_eq_true rfl⟩) (fun r2 u1 H locs hwu1 hP hD hS => ?_)
  have r2_e : r2 = 0 := hwu1
  subst r2_e
  have hP : va_P D vwCl [] H := hP
  have hD : va_D A [] := hD
  refine lv_if_ne (tgt := 15) hx hb dX12_orders_9 (by decide) (fun h9 => absurd rfl h9) (fun _ => ?_)
  refine lv_bipush (v := (-2)) hx hb dX12_orders_12 (by decide) ?_
  exact fn_iret hx hb hr hlocks rfl hP hD hS () (by first | rfl | decide) [] (by decide) rfl dX12_orders_14
theorem dX12_earliest_0 : decode cX12_earliest 0 = .ok (.aload_n 0, 1) := by decide +kernel
theorem dX12_earliest_1 : decode cX12_earliest 1 = .ok (.iconst 0, 1) := by decide +kernel
theorem dX12_earliest_2 : decode cX12_earliest 2 = .ok (.putfield 104, 3) := by decide +kernel
theorem dX12_earliest_5 : decode cX12_earliest 5 = .ok (.aload_n 0, 1) := by decide +kernel
theorem dX12_earliest_6 : decode cX12_earliest 6 = .ok (.invokevirtual 267, 3) := by decide +kernel
theorem dX12_earliest_9 : decode cX12_earliest 9 = .ok (.ifCond .ne 6, 3) := by decide +kernel
theorem dX12_earliest_12 : decode cX12_earliest 12 = .ok (.bipush (-2), 2) := by decide +kernel
theorem dX12_earliest_14 : decode cX12_earliest 14 = .ok (.ireturn, 1) := by decide +kernel
set_option maxHeartbeats 4000000 in
set_option maxRecDepth 100000 in
theorem c_X12_earliest (l : Launch) (D : va_G) (K : Nat → ClassId) (m0 al ah : Nat) (fm : List Value) (hmn : fm.length = 51) (hm16 : fm[16]? = some (.ref al)) (hm17 : fm[17]? = some (.ref ah)) (fl fh : Nat → Int32) (hfl : ∀ j, fl j = 0) (hfh : ∀ j, fh j = 0) (p0 : Int32) : fn_CI (S := Unit) l D K yX12_earliest (fn_ws yX12_earliest cX12_earliest 2 (some .int)) ({ frames := 12, cells := 0, slots := 0, locals := 300 }) [.ref m0, .int p0] [(m0, .inr (12, fm)), (al, .inl (K 0, 5, .inl fl)), (ah, .inl (K 0, 40, .inl fh))] (fun r _ => r = (-2)) (fun _ => []) 0 0 := by
  refine fn_inI (cc := cX12_earliest) (maxL := 2) (ret := (some .int)) (by decide) rfl (Nat.le_of_ble_eq_true rfl) ?_
  intro p e s m below meth c A ls B hA hP hD hS hl
  obtain ⟨hx, hb, hr, hml, hts, hown, hlocks, hin, hK⟩ := B
  have hown : s.vm.findClass RX12 = some m.cls := hown
  have hts := fun w h => hts w (List.mem_cons_of_mem _ h)
  have hl : lv_has ls 2 [(0, .ref m0), (1, .int p0)] := hl
  refine lv_aload_n hx hb dX12_earliest_0 rfl (lv_at hl 0 rfl) ?_
  refine lv_iconst (v := 0) hx hb dX12_earliest_1 (by decide) ?_
  refine va_put (D := D) (own := RX12) (ci := 12) (v := .int 0) (ty := .int) (C := RX12) (T := TX12) (N := 51) hx hb hts inb_X12 tyX12 tyX12_ok nmX12 hown hK.1 hP hD hS 0 rfl rfl 0 (by decide) (hts _ wd_1234) (fun _ h9 => h9) rfl (by decide +kernel) rfl rfl (fn_kl hmn (by decide)) dX12_earliest_2 (fun H locs hP hD hS => ?_)
  have hP : va_P D vwCl [(m0, .inr (12, fm.set 0 (.int 0))), (al, .inl (K 0, 5, .inl fl)), (ah, .inl (K 0, 40, .inl fh))] H := hP
  have hD : va_D A [(m0, .inr (12, fm.set 0 (.int 0))), (al, .inl (K 0, 5, .inl fl)), (ah, .inl (K 0, 40, .inl fh))] := hD
  refine lv_aload_n hx hb dX12_earliest_5 rfl (lv_at hl 0 rfl) ?_
  refine fn_goi (wc := [(m0, .inr (12, fm.set 0 (.int 0))), (al, .inl (K 0, 5, .inl fl)), (ah, .inl (K 0, 40, .inl fh))]) (wr := []) hK hP hD hS hA [0, 1, 2] [] rfl rfl (by decide) (fun hp => va_runV (C := RX12) (As := []) (rest := []) ⟨hx, hb, hml, hown, hts⟩ (c_X12_isTown (l := l) (D := D) (K := K) (m0 := (m0)) (fm := (fm.set 0 (.int 0))) (hmn := (fn_sl hmn)) (al := (al)) (hm16 := (fn_gs (by decide) hm16)) (ah := (ah)) (hm17 := (fn_gs (by decide) hm17)) (fl := (fl)) (hfl := hfl) (fh := (fh)) (hfh := hfh) _) (cwV 0 hts (fn_ginV (fn_gin wd_1599) wd_1596 wd_1598 wp_124 wd_13) rfl rfl rfl (by decide +kernel) ⟨Nat.le_of_ble_eq_true rfl, Nat.le_of_ble_eq_true rfl⟩) ⟨fn_blind, va_recv hK.1 hP (ci := 12) (q0 := 0) rfl rfl, hp⟩ rfl rfl hl.1 rfl (lv_room (Nat.le_of_ble_eq_true rfl)) dX12_earliest_6 ⟨Nat.le_of_ble_eq_true rfl, Nat.le_of_ble_eq_true rfl⟩) (fun r2 u1 H locs hwu1 hP hD hS => ?_)
  have r2_e : r2 = 0 := hwu1
  subst r2_e
  have hP : va_P D vwCl [] H := hP
  have hD : va_D A [] := hD
  refine lv_if_ne (tgt := 15) hx hb dX12_earliest_9 (by decide) (fun h9 => absurd rfl h9) (fun _ => ?_)
  refine lv_bipush (v := (-2)) hx hb dX12_earliest_12 (by decide) ?_
  exact fn_iret hx hb hr hlocks rfl hP hD hS () (by first | rfl | decide) [] (by decide) rfl dX12_earliest_14
theorem dX12_rest_0 : decode cX12_rest 0 = .ok (.aload_n 0, 1) := by decide +kernel
theorem dX12_rest_1 : decode cX12_rest 1 = .ok (.iconst 0, 1) := by decide +kernel
theorem dX12_rest_2 : decode cX12_rest 2 = .ok (.putfield 104, 3) := by decide +kernel
theorem dX12_rest_5 : decode cX12_rest 5 = .ok (.aload_n 0, 1) := by decide +kernel
theorem dX12_rest_6 : decode cX12_rest 6 = .ok (.invokevirtual 267, 3) := by decide +kernel
theorem dX12_rest_9 : decode cX12_rest 9 = .ok (.ifCond .ne 6, 3) := by decide +kernel
theorem dX12_rest_12 : decode cX12_rest 12 = .ok (.bipush (-2), 2) := by decide +kernel
theorem dX12_rest_14 : decode cX12_rest 14 = .ok (.ireturn, 1) := by decide +kernel
set_option maxHeartbeats 4000000 in
set_option maxRecDepth 100000 in
theorem c_X12_rest (l : Launch) (D : va_G) (K : Nat → ClassId) (m0 al ah : Nat) (fm : List Value) (hmn : fm.length = 51) (hm16 : fm[16]? = some (.ref al)) (hm17 : fm[17]? = some (.ref ah)) (fl fh : Nat → Int32) (hfl : ∀ j, fl j = 0) (hfh : ∀ j, fh j = 0) : fn_CI (S := Unit) l D K yX12_rest (fn_ws yX12_rest cX12_rest 2 (some .int)) ({ frames := 12, cells := 0, slots := 0, locals := 300 }) [.ref m0] [(m0, .inr (12, fm)), (al, .inl (K 0, 5, .inl fl)), (ah, .inl (K 0, 40, .inl fh))] (fun r _ => r = (-2)) (fun _ => []) 0 0 := by
  refine fn_inI (cc := cX12_rest) (maxL := 2) (ret := (some .int)) (by decide) rfl (Nat.le_of_ble_eq_true rfl) ?_
  intro p e s m below meth c A ls B hA hP hD hS hl
  obtain ⟨hx, hb, hr, hml, hts, hown, hlocks, hin, hK⟩ := B
  have hown : s.vm.findClass RX12 = some m.cls := hown
  have hts := fun w h => hts w (List.mem_cons_of_mem _ h)
  have hl : lv_has ls 2 [(0, .ref m0)] := hl
  refine lv_aload_n hx hb dX12_rest_0 rfl (lv_at hl 0 rfl) ?_
  refine lv_iconst (v := 0) hx hb dX12_rest_1 (by decide) ?_
  refine va_put (D := D) (own := RX12) (ci := 12) (v := .int 0) (ty := .int) (C := RX12) (T := TX12) (N := 51) hx hb hts inb_X12 tyX12 tyX12_ok nmX12 hown hK.1 hP hD hS 0 rfl rfl 0 (by decide) (hts _ wd_1234) (fun _ h9 => h9) rfl (by decide +kernel) rfl rfl (fn_kl hmn (by decide)) dX12_rest_2 (fun H locs hP hD hS => ?_)
  have hP : va_P D vwCl [(m0, .inr (12, fm.set 0 (.int 0))), (al, .inl (K 0, 5, .inl fl)), (ah, .inl (K 0, 40, .inl fh))] H := hP
  have hD : va_D A [(m0, .inr (12, fm.set 0 (.int 0))), (al, .inl (K 0, 5, .inl fl)), (ah, .inl (K 0, 40, .inl fh))] := hD
  refine lv_aload_n hx hb dX12_rest_5 rfl (lv_at hl 0 rfl) ?_
  refine fn_goi (wc := [(m0, .inr (12, fm.set 0 (.int 0))), (al, .inl (K 0, 5, .inl fl)), (ah, .inl (K 0, 40, .inl fh))]) (wr := []) hK hP hD hS hA [0, 1, 2] [] rfl rfl (by decide) (fun hp => va_runV (C := RX12) (As := []) (rest := []) ⟨hx, hb, hml, hown, hts⟩ (c_X12_isTown (l := l) (D := D) (K := K) (m0 := (m0)) (fm := (fm.set 0 (.int 0))) (hmn := (fn_sl hmn)) (al := (al)) (hm16 := (fn_gs (by decide) hm16)) (ah := (ah)) (hm17 := (fn_gs (by decide) hm17)) (fl := (fl)) (hfl := hfl) (fh := (fh)) (hfh := hfh) _) (cwV 0 hts (fn_ginV (fn_gin wd_1599) wd_1596 wd_1598 wp_124 wd_13) rfl rfl rfl (by decide +kernel) ⟨Nat.le_of_ble_eq_true rfl, Nat.le_of_ble_eq_true rfl⟩) ⟨fn_blind, va_recv hK.1 hP (ci := 12) (q0 := 0) rfl rfl, hp⟩ rfl rfl hl.1 rfl (lv_room (Nat.le_of_ble_eq_true rfl)) dX12_rest_6 ⟨Nat.le_of_ble_eq_true rfl, Nat.le_of_ble_eq_true rfl⟩) (fun r2 u1 H locs hwu1 hP hD hS => ?_)
  have r2_e : r2 = 0 := hwu1
  subst r2_e
  have hP : va_P D vwCl [] H := hP
  have hD : va_D A [] := hD
  refine lv_if_ne (tgt := 15) hx hb dX12_rest_9 (by decide) (fun h9 => absurd rfl h9) (fun _ => ?_)
  refine lv_bipush (v := (-2)) hx hb dX12_rest_12 (by decide) ?_
  exact fn_iret hx hb hr hlocks rfl hP hD hS () (by first | rfl | decide) [] (by decide) rfl dX12_rest_14
theorem dX12_saint_0 : decode cX12_saint 0 = .ok (.aload_n 0, 1) := by decide +kernel
theorem dX12_saint_1 : decode cX12_saint 1 = .ok (.iconst 0, 1) := by decide +kernel
theorem dX12_saint_2 : decode cX12_saint 2 = .ok (.putfield 104, 3) := by decide +kernel
theorem dX12_saint_5 : decode cX12_saint 5 = .ok (.aload_n 0, 1) := by decide +kernel
theorem dX12_saint_6 : decode cX12_saint 6 = .ok (.invokevirtual 267, 3) := by decide +kernel
theorem dX12_saint_9 : decode cX12_saint 9 = .ok (.ifCond .eq 15, 3) := by decide +kernel
theorem dX12_saint_24 : decode cX12_saint 24 = .ok (.bipush (-2), 2) := by decide +kernel
theorem dX12_saint_26 : decode cX12_saint 26 = .ok (.ireturn, 1) := by decide +kernel
set_option maxHeartbeats 4000000 in
set_option maxRecDepth 100000 in
theorem c_X12_saint (l : Launch) (D : va_G) (K : Nat → ClassId) (m0 al ah : Nat) (fm : List Value) (hmn : fm.length = 51) (hm16 : fm[16]? = some (.ref al)) (hm17 : fm[17]? = some (.ref ah)) (fl fh : Nat → Int32) (hfl : ∀ j, fl j = 0) (hfh : ∀ j, fh j = 0) (p0 : Int32) : fn_CI (S := Unit) l D K yX12_saint (fn_ws yX12_saint cX12_saint 4 (some .int)) ({ frames := 12, cells := 0, slots := 0, locals := 300 }) [.ref m0, .int p0] [(m0, .inr (12, fm)), (al, .inl (K 0, 5, .inl fl)), (ah, .inl (K 0, 40, .inl fh))] (fun r _ => r = (-2)) (fun _ => []) 0 0 := by
  refine fn_inI (cc := cX12_saint) (maxL := 4) (ret := (some .int)) (by decide) rfl (Nat.le_of_ble_eq_true rfl) ?_
  intro p e s m below meth c A ls B hA hP hD hS hl
  obtain ⟨hx, hb, hr, hml, hts, hown, hlocks, hin, hK⟩ := B
  have hown : s.vm.findClass RX12 = some m.cls := hown
  have hts := fun w h => hts w (List.mem_cons_of_mem _ h)
  have hl : lv_has ls 4 [(0, .ref m0), (1, .int p0)] := hl
  refine lv_aload_n hx hb dX12_saint_0 rfl (lv_at hl 0 rfl) ?_
  refine lv_iconst (v := 0) hx hb dX12_saint_1 (by decide) ?_
  refine va_put (D := D) (own := RX12) (ci := 12) (v := .int 0) (ty := .int) (C := RX12) (T := TX12) (N := 51) hx hb hts inb_X12 tyX12 tyX12_ok nmX12 hown hK.1 hP hD hS 0 rfl rfl 0 (by decide) (hts _ wd_1234) (fun _ h9 => h9) rfl (by decide +kernel) rfl rfl (fn_kl hmn (by decide)) dX12_saint_2 (fun H locs hP hD hS => ?_)
  have hP : va_P D vwCl [(m0, .inr (12, fm.set 0 (.int 0))), (al, .inl (K 0, 5, .inl fl)), (ah, .inl (K 0, 40, .inl fh))] H := hP
  have hD : va_D A [(m0, .inr (12, fm.set 0 (.int 0))), (al, .inl (K 0, 5, .inl fl)), (ah, .inl (K 0, 40, .inl fh))] := hD
  refine lv_aload_n hx hb dX12_saint_5 rfl (lv_at hl 0 rfl) ?_
  refine fn_goi (wc := [(m0, .inr (12, fm.set 0 (.int 0))), (al, .inl (K 0, 5, .inl fl)), (ah, .inl (K 0, 40, .inl fh))]) (wr := []) hK hP hD hS hA [0, 1, 2] [] rfl rfl (by decide) (fun hp => va_runV (C := RX12) (As := []) (rest := []) ⟨hx, hb, hml, hown, hts⟩ (c_X12_isTown (l := l) (D := D) (K := K) (m0 := (m0)) (fm := (fm.set 0 (.int 0))) (hmn := (fn_sl hmn)) (al := (al)) (hm16 := (fn_gs (by decide) hm16)) (ah := (ah)) (hm17 := (fn_gs (by decide) hm17)) (fl := (fl)) (hfl := hfl) (fh := (fh)) (hfh := hfh) _) (cwV 0 hts (fn_ginV (fn_gin wd_1599) wd_1596 wd_1598 wp_124 wd_13) rfl rfl rfl (by decide +kernel) ⟨Nat.le_of_ble_eq_true rfl, Nat.le_of_ble_eq_true rfl⟩) ⟨fn_blind, va_recv hK.1 hP (ci := 12) (q0 := 0) rfl rfl, hp⟩ rfl rfl hl.1 rfl (lv_room (Nat.le_of_ble_eq_true rfl)) dX12_saint_6 ⟨Nat.le_of_ble_eq_true rfl, Nat.le_of_ble_eq_true rfl⟩) (fun r2 u1 H locs hwu1 hP hD hS => ?_)
  have r2_e : r2 = 0 := hwu1
  subst r2_e
  have hP : va_P D vwCl [] H := hP
  have hD : va_D A [] := hD
  refine lv_if_eq (tgt := 24) hx hb dX12_saint_9 (by decide) (fun _ => ?_) (fun h9 => absurd (by decide) h9)
  refine lv_bipush (v := (-2)) hx hb dX12_saint_24 (by decide) ?_
  exact fn_iret hx hb hr hlocks rfl hP hD hS () (by first | rfl | decide) [] (by decide) rfl dX12_saint_26
theorem dX12_famous_0 : decode cX12_famous 0 = .ok (.aload_n 0, 1) := by decide +kernel
theorem dX12_famous_1 : decode cX12_famous 1 = .ok (.iconst 0, 1) := by decide +kernel
theorem dX12_famous_2 : decode cX12_famous 2 = .ok (.putfield 104, 3) := by decide +kernel
theorem dX12_famous_5 : decode cX12_famous 5 = .ok (.aload_n 0, 1) := by decide +kernel
theorem dX12_famous_6 : decode cX12_famous 6 = .ok (.invokevirtual 267, 3) := by decide +kernel
theorem dX12_famous_9 : decode cX12_famous 9 = .ok (.ifCond .eq 13, 3) := by decide +kernel
theorem dX12_famous_22 : decode cX12_famous 22 = .ok (.bipush (-2), 2) := by decide +kernel
theorem dX12_famous_24 : decode cX12_famous 24 = .ok (.ireturn, 1) := by decide +kernel
set_option maxHeartbeats 4000000 in
set_option maxRecDepth 100000 in
theorem c_X12_famous (l : Launch) (D : va_G) (K : Nat → ClassId) (m0 al ah : Nat) (fm : List Value) (hmn : fm.length = 51) (hm16 : fm[16]? = some (.ref al)) (hm17 : fm[17]? = some (.ref ah)) (fl fh : Nat → Int32) (hfl : ∀ j, fl j = 0) (hfh : ∀ j, fh j = 0) (p0 : Int32) : fn_CI (S := Unit) l D K yX12_famous (fn_ws yX12_famous cX12_famous 5 (some .int)) ({ frames := 12, cells := 0, slots := 0, locals := 300 }) [.ref m0, .int p0] [(m0, .inr (12, fm)), (al, .inl (K 0, 5, .inl fl)), (ah, .inl (K 0, 40, .inl fh))] (fun r _ => r = (-2)) (fun _ => []) 0 0 := by
  refine fn_inI (cc := cX12_famous) (maxL := 5) (ret := (some .int)) (by decide) rfl (Nat.le_of_ble_eq_true rfl) ?_
  intro p e s m below meth c A ls B hA hP hD hS hl
  obtain ⟨hx, hb, hr, hml, hts, hown, hlocks, hin, hK⟩ := B
  have hown : s.vm.findClass RX12 = some m.cls := hown
  have hts := fun w h => hts w (List.mem_cons_of_mem _ h)
  have hl : lv_has ls 5 [(0, .ref m0), (1, .int p0)] := hl
  refine lv_aload_n hx hb dX12_famous_0 rfl (lv_at hl 0 rfl) ?_
  refine lv_iconst (v := 0) hx hb dX12_famous_1 (by decide) ?_
  refine va_put (D := D) (own := RX12) (ci := 12) (v := .int 0) (ty := .int) (C := RX12) (T := TX12) (N := 51) hx hb hts inb_X12 tyX12 tyX12_ok nmX12 hown hK.1 hP hD hS 0 rfl rfl 0 (by decide) (hts _ wd_1234) (fun _ h9 => h9) rfl (by decide +kernel) rfl rfl (fn_kl hmn (by decide)) dX12_famous_2 (fun H locs hP hD hS => ?_)
  have hP : va_P D vwCl [(m0, .inr (12, fm.set 0 (.int 0))), (al, .inl (K 0, 5, .inl fl)), (ah, .inl (K 0, 40, .inl fh))] H := hP
  have hD : va_D A [(m0, .inr (12, fm.set 0 (.int 0))), (al, .inl (K 0, 5, .inl fl)), (ah, .inl (K 0, 40, .inl fh))] := hD
  refine lv_aload_n hx hb dX12_famous_5 rfl (lv_at hl 0 rfl) ?_
  refine fn_goi (wc := [(m0, .inr (12, fm.set 0 (.int 0))), (al, .inl (K 0, 5, .inl fl)), (ah, .inl (K 0, 40, .inl fh))]) (wr := []) hK hP hD hS hA [0, 1, 2] [] rfl rfl (by decide) (fun hp => va_runV (C := RX12) (As := []) (rest := []) ⟨hx, hb, hml, hown, hts⟩ (c_X12_isTown (l := l) (D := D) (K := K) (m0 := (m0)) (fm := (fm.set 0 (.int 0))) (hmn := (fn_sl hmn)) (al := (al)) (hm16 := (fn_gs (by decide) hm16)) (ah := (ah)) (hm17 := (fn_gs (by decide) hm17)) (fl := (fl)) (hfl := hfl) (fh := (fh)) (hfh := hfh) _) (cwV 0 hts (fn_ginV (fn_gin wd_1599) wd_1596 wd_1598 wp_124 wd_13) rfl rfl rfl (by decide +kernel) ⟨Nat.le_of_ble_eq_true rfl, Nat.le_of_ble_eq_true rfl⟩) ⟨fn_blind, va_recv hK.1 hP (ci := 12) (q0 := 0) rfl rfl, hp⟩ rfl rfl hl.1 rfl (lv_room (Nat.le_of_ble_eq_true rfl)) dX12_famous_6 ⟨Nat.le_of_ble_eq_true rfl, Nat.le_of_ble_eq_true rfl⟩) (fun r2 u1 H locs hwu1 hP hD hS => ?_)
  have r2_e : r2 = 0 := hwu1
  subst r2_e
  have hP : va_P D vwCl [] H := hP
  have hD : va_D A [] := hD
  refine lv_if_eq (tgt := 22) hx hb dX12_famous_9 (by decide) (fun _ => ?_) (fun h9 => absurd (by decide) h9)
  refine lv_bipush (v := (-2)) hx hb dX12_famous_22 (by decide) ?_
  exact fn_iret hx hb hr hlocks rfl hP hD hS () (by first | rfl | decide) [] (by decide) rfl dX12_famous_24
theorem dX12_cited_0 : decode cX12_cited 0 = .ok (.aload_n 0, 1) := by decide +kernel
theorem dX12_cited_1 : decode cX12_cited 1 = .ok (.iconst 0, 1) := by decide +kernel
theorem dX12_cited_2 : decode cX12_cited 2 = .ok (.putfield 104, 3) := by decide +kernel
theorem dX12_cited_5 : decode cX12_cited 5 = .ok (.aload_n 0, 1) := by decide +kernel
theorem dX12_cited_6 : decode cX12_cited 6 = .ok (.invokevirtual 267, 3) := by decide +kernel
theorem dX12_cited_9 : decode cX12_cited 9 = .ok (.ifCond .eq 10, 3) := by decide +kernel
theorem dX12_cited_19 : decode cX12_cited 19 = .ok (.bipush (-2), 2) := by decide +kernel
theorem dX12_cited_21 : decode cX12_cited 21 = .ok (.ireturn, 1) := by decide +kernel
set_option maxHeartbeats 4000000 in
set_option maxRecDepth 100000 in
theorem c_X12_cited (l : Launch) (D : va_G) (K : Nat → ClassId) (m0 al ah : Nat) (fm : List Value) (hmn : fm.length = 51) (hm16 : fm[16]? = some (.ref al)) (hm17 : fm[17]? = some (.ref ah)) (fl fh : Nat → Int32) (hfl : ∀ j, fl j = 0) (hfh : ∀ j, fh j = 0) (p0 : Int32) : fn_CI (S := Unit) l D K yX12_cited (fn_ws yX12_cited cX12_cited 2 (some .int)) ({ frames := 12, cells := 0, slots := 0, locals := 300 }) [.ref m0, .int p0] [(m0, .inr (12, fm)), (al, .inl (K 0, 5, .inl fl)), (ah, .inl (K 0, 40, .inl fh))] (fun r _ => r = (-2)) (fun _ => []) 0 0 := by
  refine fn_inI (cc := cX12_cited) (maxL := 2) (ret := (some .int)) (by decide) rfl (Nat.le_of_ble_eq_true rfl) ?_
  intro p e s m below meth c A ls B hA hP hD hS hl
  obtain ⟨hx, hb, hr, hml, hts, hown, hlocks, hin, hK⟩ := B
  have hown : s.vm.findClass RX12 = some m.cls := hown
  have hts := fun w h => hts w (List.mem_cons_of_mem _ h)
  have hl : lv_has ls 2 [(0, .ref m0), (1, .int p0)] := hl
  refine lv_aload_n hx hb dX12_cited_0 rfl (lv_at hl 0 rfl) ?_
  refine lv_iconst (v := 0) hx hb dX12_cited_1 (by decide) ?_
  refine va_put (D := D) (own := RX12) (ci := 12) (v := .int 0) (ty := .int) (C := RX12) (T := TX12) (N := 51) hx hb hts inb_X12 tyX12 tyX12_ok nmX12 hown hK.1 hP hD hS 0 rfl rfl 0 (by decide) (hts _ wd_1234) (fun _ h9 => h9) rfl (by decide +kernel) rfl rfl (fn_kl hmn (by decide)) dX12_cited_2 (fun H locs hP hD hS => ?_)
  have hP : va_P D vwCl [(m0, .inr (12, fm.set 0 (.int 0))), (al, .inl (K 0, 5, .inl fl)), (ah, .inl (K 0, 40, .inl fh))] H := hP
  have hD : va_D A [(m0, .inr (12, fm.set 0 (.int 0))), (al, .inl (K 0, 5, .inl fl)), (ah, .inl (K 0, 40, .inl fh))] := hD
  refine lv_aload_n hx hb dX12_cited_5 rfl (lv_at hl 0 rfl) ?_
  refine fn_goi (wc := [(m0, .inr (12, fm.set 0 (.int 0))), (al, .inl (K 0, 5, .inl fl)), (ah, .inl (K 0, 40, .inl fh))]) (wr := []) hK hP hD hS hA [0, 1, 2] [] rfl rfl (by decide) (fun hp => va_runV (C := RX12) (As := []) (rest := []) ⟨hx, hb, hml, hown, hts⟩ (c_X12_isTown (l := l) (D := D) (K := K) (m0 := (m0)) (fm := (fm.set 0 (.int 0))) (hmn := (fn_sl hmn)) (al := (al)) (hm16 := (fn_gs (by decide) hm16)) (ah := (ah)) (hm17 := (fn_gs (by decide) hm17)) (fl := (fl)) (hfl := hfl) (fh := (fh)) (hfh := hfh) _) (cwV 0 hts (fn_ginV (fn_gin wd_1599) wd_1596 wd_1598 wp_124 wd_13) rfl rfl rfl (by decide +kernel) ⟨Nat.le_of_ble_eq_true rfl, Nat.le_of_ble_eq_true rfl⟩) ⟨fn_blind, va_recv hK.1 hP (ci := 12) (q0 := 0) rfl rfl, hp⟩ rfl rfl hl.1 rfl (lv_room (Nat.le_of_ble_eq_true rfl)) dX12_cited_6 ⟨Nat.le_of_ble_eq_true rfl, Nat.le_of_ble_eq_true rfl⟩) (fun r2 u1 H locs hwu1 hP hD hS => ?_)
  have r2_e : r2 = 0 := hwu1
  subst r2_e
  have hP : va_P D vwCl [] H := hP
  have hD : va_D A [] := hD
  refine lv_if_eq (tgt := 19) hx hb dX12_cited_9 (by decide) (fun _ => ?_) (fun h9 => absurd (by decide) h9)
  refine lv_bipush (v := (-2)) hx hb dX12_cited_19 (by decide) ?_
  exact fn_iret hx hb hr hlocks rfl hP hD hS () (by first | rfl | decide) [] (by decide) rfl dX12_cited_21
theorem dX12_quotes_0 : decode cX12_quotes 0 = .ok (.aload_n 0, 1) := by decide +kernel
theorem dX12_quotes_1 : decode cX12_quotes 1 = .ok (.iconst 0, 1) := by decide +kernel
theorem dX12_quotes_2 : decode cX12_quotes 2 = .ok (.putfield 104, 3) := by decide +kernel
theorem dX12_quotes_5 : decode cX12_quotes 5 = .ok (.aload_n 0, 1) := by decide +kernel
theorem dX12_quotes_6 : decode cX12_quotes 6 = .ok (.invokevirtual 267, 3) := by decide +kernel
theorem dX12_quotes_9 : decode cX12_quotes 9 = .ok (.ifCond .eq 17, 3) := by decide +kernel
theorem dX12_quotes_26 : decode cX12_quotes 26 = .ok (.bipush (-2), 2) := by decide +kernel
theorem dX12_quotes_28 : decode cX12_quotes 28 = .ok (.ireturn, 1) := by decide +kernel
set_option maxHeartbeats 4000000 in
set_option maxRecDepth 100000 in
theorem c_X12_quotes (l : Launch) (D : va_G) (K : Nat → ClassId) (m0 al ah : Nat) (fm : List Value) (hmn : fm.length = 51) (hm16 : fm[16]? = some (.ref al)) (hm17 : fm[17]? = some (.ref ah)) (fl fh : Nat → Int32) (hfl : ∀ j, fl j = 0) (hfh : ∀ j, fh j = 0) (p0 p1 : Int32) : fn_CI (S := Unit) l D K yX12_quotes (fn_ws yX12_quotes cX12_quotes 5 (some .int)) ({ frames := 12, cells := 0, slots := 0, locals := 300 }) [.ref m0, .int p0, .int p1] [(m0, .inr (12, fm)), (al, .inl (K 0, 5, .inl fl)), (ah, .inl (K 0, 40, .inl fh))] (fun r _ => r = (-2)) (fun _ => []) 0 0 := by
  refine fn_inI (cc := cX12_quotes) (maxL := 5) (ret := (some .int)) (by decide) rfl (Nat.le_of_ble_eq_true rfl) ?_
  intro p e s m below meth c A ls B hA hP hD hS hl
  obtain ⟨hx, hb, hr, hml, hts, hown, hlocks, hin, hK⟩ := B
  have hown : s.vm.findClass RX12 = some m.cls := hown
  have hts := fun w h => hts w (List.mem_cons_of_mem _ h)
  have hl : lv_has ls 5 [(0, .ref m0), (1, .int p0), (2, .int p1)] := hl
  refine lv_aload_n hx hb dX12_quotes_0 rfl (lv_at hl 0 rfl) ?_
  refine lv_iconst (v := 0) hx hb dX12_quotes_1 (by decide) ?_
  refine va_put (D := D) (own := RX12) (ci := 12) (v := .int 0) (ty := .int) (C := RX12) (T := TX12) (N := 51) hx hb hts inb_X12 tyX12 tyX12_ok nmX12 hown hK.1 hP hD hS 0 rfl rfl 0 (by decide) (hts _ wd_1234) (fun _ h9 => h9) rfl (by decide +kernel) rfl rfl (fn_kl hmn (by decide)) dX12_quotes_2 (fun H locs hP hD hS => ?_)
  have hP : va_P D vwCl [(m0, .inr (12, fm.set 0 (.int 0))), (al, .inl (K 0, 5, .inl fl)), (ah, .inl (K 0, 40, .inl fh))] H := hP
  have hD : va_D A [(m0, .inr (12, fm.set 0 (.int 0))), (al, .inl (K 0, 5, .inl fl)), (ah, .inl (K 0, 40, .inl fh))] := hD
  refine lv_aload_n hx hb dX12_quotes_5 rfl (lv_at hl 0 rfl) ?_
  refine fn_goi (wc := [(m0, .inr (12, fm.set 0 (.int 0))), (al, .inl (K 0, 5, .inl fl)), (ah, .inl (K 0, 40, .inl fh))]) (wr := []) hK hP hD hS hA [0, 1, 2] [] rfl rfl (by decide) (fun hp => va_runV (C := RX12) (As := []) (rest := []) ⟨hx, hb, hml, hown, hts⟩ (c_X12_isTown (l := l) (D := D) (K := K) (m0 := (m0)) (fm := (fm.set 0 (.int 0))) (hmn := (fn_sl hmn)) (al := (al)) (hm16 := (fn_gs (by decide) hm16)) (ah := (ah)) (hm17 := (fn_gs (by decide) hm17)) (fl := (fl)) (hfl := hfl) (fh := (fh)) (hfh := hfh) _) (cwV 0 hts (fn_ginV (fn_gin wd_1599) wd_1596 wd_1598 wp_124 wd_13) rfl rfl rfl (by decide +kernel) ⟨Nat.le_of_ble_eq_true rfl, Nat.le_of_ble_eq_true rfl⟩) ⟨fn_blind, va_recv hK.1 hP (ci := 12) (q0 := 0) rfl rfl, hp⟩ rfl rfl hl.1 rfl (lv_room (Nat.le_of_ble_eq_true rfl)) dX12_quotes_6 ⟨Nat.le_of_ble_eq_true rfl, Nat.le_of_ble_eq_true rfl⟩) (fun r2 u1 H locs hwu1 hP hD hS => ?_)
  have r2_e : r2 = 0 := hwu1
  subst r2_e
  have hP : va_P D vwCl [] H := hP
  have hD : va_D A [] := hD
  refine lv_if_eq (tgt := 26) hx hb dX12_quotes_9 (by decide) (fun _ => ?_) (fun h9 => absurd (by decide) h9)
  refine lv_bipush (v := (-2)) hx hb dX12_quotes_26 (by decide) ?_
  exact fn_iret hx hb hr hlocks rfl hP hD hS () (by first | rfl | decide) [] (by decide) rfl dX12_quotes_28
theorem dX12_holds_0 : decode cX12_holds 0 = .ok (.aload_n 0, 1) := by decide +kernel
theorem dX12_holds_1 : decode cX12_holds 1 = .ok (.iconst 0, 1) := by decide +kernel
theorem dX12_holds_2 : decode cX12_holds 2 = .ok (.putfield 104, 3) := by decide +kernel
theorem dX12_holds_5 : decode cX12_holds 5 = .ok (.aload_n 0, 1) := by decide +kernel
theorem dX12_holds_6 : decode cX12_holds 6 = .ok (.iload_n 1, 1) := by decide +kernel
theorem dX12_holds_7 : decode cX12_holds 7 = .ok (.invokevirtual 327, 3) := by decide +kernel
theorem dX12_holds_10 : decode cX12_holds 10 = .ok (.ifCond .ne 6, 3) := by decide +kernel
theorem dX12_holds_13 : decode cX12_holds 13 = .ok (.bipush (-2), 2) := by decide +kernel
theorem dX12_holds_15 : decode cX12_holds 15 = .ok (.ireturn, 1) := by decide +kernel
set_option maxHeartbeats 4000000 in
set_option maxRecDepth 100000 in
theorem c_X12_holds (l : Launch) (D : va_G) (K : Nat → ClassId) (m0 al ah : Nat) (fm : List Value) (hmn : fm.length = 51) (hm16 : fm[16]? = some (.ref al)) (hm17 : fm[17]? = some (.ref ah)) (fl fh : Nat → Int32) (hfl : ∀ j, fl j = 0) (hfh : ∀ j, fh j = 0) (p0 : Int32) : fn_CI (S := Unit) l D K yX12_holds (fn_ws yX12_holds cX12_holds 2 (some .int)) ({ frames := 16, cells := 0, slots := 0, locals := 400 }) [.ref m0, .int p0] [(m0, .inr (12, fm)), (al, .inl (K 0, 5, .inl fl)), (ah, .inl (K 0, 40, .inl fh))] (fun r _ => r = (-2)) (fun _ => []) 0 0 := by
  refine fn_inI (cc := cX12_holds) (maxL := 2) (ret := (some .int)) (by decide) rfl (Nat.le_of_ble_eq_true rfl) ?_
  intro p e s m below meth c A ls B hA hP hD hS hl
  obtain ⟨hx, hb, hr, hml, hts, hown, hlocks, hin, hK⟩ := B
  have hown : s.vm.findClass RX12 = some m.cls := hown
  have hts := fun w h => hts w (List.mem_cons_of_mem _ h)
  have hl : lv_has ls 2 [(0, .ref m0), (1, .int p0)] := hl
  refine lv_aload_n hx hb dX12_holds_0 rfl (lv_at hl 0 rfl) ?_
  refine lv_iconst (v := 0) hx hb dX12_holds_1 (by decide) ?_
  refine va_put (D := D) (own := RX12) (ci := 12) (v := .int 0) (ty := .int) (C := RX12) (T := TX12) (N := 51) hx hb hts inb_X12 tyX12 tyX12_ok nmX12 hown hK.1 hP hD hS 0 rfl rfl 0 (by decide) (hts _ wd_1234) (fun _ h9 => h9) rfl (by decide +kernel) rfl rfl (fn_kl hmn (by decide)) dX12_holds_2 (fun H locs hP hD hS => ?_)
  have hP : va_P D vwCl [(m0, .inr (12, fm.set 0 (.int 0))), (al, .inl (K 0, 5, .inl fl)), (ah, .inl (K 0, 40, .inl fh))] H := hP
  have hD : va_D A [(m0, .inr (12, fm.set 0 (.int 0))), (al, .inl (K 0, 5, .inl fl)), (ah, .inl (K 0, 40, .inl fh))] := hD
  refine lv_aload_n hx hb dX12_holds_5 rfl (lv_at hl 0 rfl) ?_
  refine lv_iload_n hx hb dX12_holds_6 rfl (lv_at hl 1 rfl) ?_
  refine fn_goi (wc := [(m0, .inr (12, fm.set 0 (.int 0))), (al, .inl (K 0, 5, .inl fl)), (ah, .inl (K 0, 40, .inl fh))]) (wr := []) hK hP hD hS hA [0, 1, 2] [] rfl rfl (by decide) (fun hp => va_runV (C := RX12) (As := [.int p0]) (rest := []) ⟨hx, hb, hml, hown, hts⟩ (c_X12_isSet (l := l) (D := D) (K := K) (m0 := (m0)) (p0 := (p0)) (fm := (fm.set 0 (.int 0))) (hmn := (fn_sl hmn)) (al := (al)) (hm16 := (fn_gs (by decide) hm16)) (ah := (ah)) (hm17 := (fn_gs (by decide) hm17)) (fl := (fl)) (hfl := hfl) (fh := (fh)) (hfh := hfh) _) (cwV 1 hts (fn_ginV (fn_gin wd_1731) wd_1728 wd_1730 wp_135 wd_13) rfl rfl rfl (by decide +kernel) ⟨Nat.le_of_ble_eq_true rfl, Nat.le_of_ble_eq_true rfl⟩) ⟨fn_blind, va_recv hK.1 hP (ci := 12) (q0 := 0) rfl rfl, hp⟩ rfl rfl hl.1 rfl (lv_room (Nat.le_of_ble_eq_true rfl)) dX12_holds_7 ⟨Nat.le_of_ble_eq_true rfl, Nat.le_of_ble_eq_true rfl⟩) (fun r2 u1 H locs hwu1 hP hD hS => ?_)
  have r2_e : r2 = 0 := hwu1
  subst r2_e
  have hP : va_P D vwCl [] H := hP
  have hD : va_D A [] := hD
  refine lv_if_ne (tgt := 16) hx hb dX12_holds_10 (by decide) (fun h9 => absurd rfl h9) (fun _ => ?_)
  refine lv_bipush (v := (-2)) hx hb dX12_holds_13 (by decide) ?_
  exact fn_iret hx hb hr hlocks rfl hP hD hS () (by first | rfl | decide) [] (by decide) rfl dX12_holds_15
theorem dX12_loose_0 : decode cX12_loose 0 = .ok (.aload_n 0, 1) := by decide +kernel
theorem dX12_loose_1 : decode cX12_loose 1 = .ok (.iconst 0, 1) := by decide +kernel
theorem dX12_loose_2 : decode cX12_loose 2 = .ok (.putfield 104, 3) := by decide +kernel
theorem dX12_loose_5 : decode cX12_loose 5 = .ok (.aload_n 0, 1) := by decide +kernel
theorem dX12_loose_6 : decode cX12_loose 6 = .ok (.iload_n 1, 1) := by decide +kernel
theorem dX12_loose_7 : decode cX12_loose 7 = .ok (.invokevirtual 327, 3) := by decide +kernel
theorem dX12_loose_10 : decode cX12_loose 10 = .ok (.ifCond .ne 6, 3) := by decide +kernel
theorem dX12_loose_13 : decode cX12_loose 13 = .ok (.bipush (-2), 2) := by decide +kernel
theorem dX12_loose_15 : decode cX12_loose 15 = .ok (.ireturn, 1) := by decide +kernel
set_option maxHeartbeats 4000000 in
set_option maxRecDepth 100000 in
theorem c_X12_loose (l : Launch) (D : va_G) (K : Nat → ClassId) (m0 al ah : Nat) (fm : List Value) (hmn : fm.length = 51) (hm16 : fm[16]? = some (.ref al)) (hm17 : fm[17]? = some (.ref ah)) (fl fh : Nat → Int32) (hfl : ∀ j, fl j = 0) (hfh : ∀ j, fh j = 0) (p0 : Int32) : fn_CI (S := Unit) l D K yX12_loose (fn_ws yX12_loose cX12_loose 2 (some .int)) ({ frames := 16, cells := 0, slots := 0, locals := 400 }) [.ref m0, .int p0] [(m0, .inr (12, fm)), (al, .inl (K 0, 5, .inl fl)), (ah, .inl (K 0, 40, .inl fh))] (fun r _ => r = (-2)) (fun _ => []) 0 0 := by
  refine fn_inI (cc := cX12_loose) (maxL := 2) (ret := (some .int)) (by decide) rfl (Nat.le_of_ble_eq_true rfl) ?_
  intro p e s m below meth c A ls B hA hP hD hS hl
  obtain ⟨hx, hb, hr, hml, hts, hown, hlocks, hin, hK⟩ := B
  have hown : s.vm.findClass RX12 = some m.cls := hown
  have hts := fun w h => hts w (List.mem_cons_of_mem _ h)
  have hl : lv_has ls 2 [(0, .ref m0), (1, .int p0)] := hl
  refine lv_aload_n hx hb dX12_loose_0 rfl (lv_at hl 0 rfl) ?_
  refine lv_iconst (v := 0) hx hb dX12_loose_1 (by decide) ?_
  refine va_put (D := D) (own := RX12) (ci := 12) (v := .int 0) (ty := .int) (C := RX12) (T := TX12) (N := 51) hx hb hts inb_X12 tyX12 tyX12_ok nmX12 hown hK.1 hP hD hS 0 rfl rfl 0 (by decide) (hts _ wd_1234) (fun _ h9 => h9) rfl (by decide +kernel) rfl rfl (fn_kl hmn (by decide)) dX12_loose_2 (fun H locs hP hD hS => ?_)
  have hP : va_P D vwCl [(m0, .inr (12, fm.set 0 (.int 0))), (al, .inl (K 0, 5, .inl fl)), (ah, .inl (K 0, 40, .inl fh))] H := hP
  have hD : va_D A [(m0, .inr (12, fm.set 0 (.int 0))), (al, .inl (K 0, 5, .inl fl)), (ah, .inl (K 0, 40, .inl fh))] := hD
  refine lv_aload_n hx hb dX12_loose_5 rfl (lv_at hl 0 rfl) ?_
  refine lv_iload_n hx hb dX12_loose_6 rfl (lv_at hl 1 rfl) ?_
  refine fn_goi (wc := [(m0, .inr (12, fm.set 0 (.int 0))), (al, .inl (K 0, 5, .inl fl)), (ah, .inl (K 0, 40, .inl fh))]) (wr := []) hK hP hD hS hA [0, 1, 2] [] rfl rfl (by decide) (fun hp => va_runV (C := RX12) (As := [.int p0]) (rest := []) ⟨hx, hb, hml, hown, hts⟩ (c_X12_isSet (l := l) (D := D) (K := K) (m0 := (m0)) (p0 := (p0)) (fm := (fm.set 0 (.int 0))) (hmn := (fn_sl hmn)) (al := (al)) (hm16 := (fn_gs (by decide) hm16)) (ah := (ah)) (hm17 := (fn_gs (by decide) hm17)) (fl := (fl)) (hfl := hfl) (fh := (fh)) (hfh := hfh) _) (cwV 1 hts (fn_ginV (fn_gin wd_1731) wd_1728 wd_1730 wp_135 wd_13) rfl rfl rfl (by decide +kernel) ⟨Nat.le_of_ble_eq_true rfl, Nat.le_of_ble_eq_true rfl⟩) ⟨fn_blind, va_recv hK.1 hP (ci := 12) (q0 := 0) rfl rfl, hp⟩ rfl rfl hl.1 rfl (lv_room (Nat.le_of_ble_eq_true rfl)) dX12_loose_7 ⟨Nat.le_of_ble_eq_true rfl, Nat.le_of_ble_eq_true rfl⟩) (fun r2 u1 H locs hwu1 hP hD hS => ?_)
  have r2_e : r2 = 0 := hwu1
  subst r2_e
  have hP : va_P D vwCl [] H := hP
  have hD : va_D A [] := hD
  refine lv_if_ne (tgt := 16) hx hb dX12_loose_10 (by decide) (fun h9 => absurd rfl h9) (fun _ => ?_)
  refine lv_bipush (v := (-2)) hx hb dX12_loose_13 (by decide) ?_
  exact fn_iret hx hb hr hlocks rfl hP hD hS () (by first | rfl | decide) [] (by decide) rfl dX12_loose_15
theorem dX12_loosely_0 : decode cX12_loosely 0 = .ok (.aload_n 0, 1) := by decide +kernel
theorem dX12_loosely_1 : decode cX12_loosely 1 = .ok (.iconst 0, 1) := by decide +kernel
theorem dX12_loosely_2 : decode cX12_loosely 2 = .ok (.putfield 104, 3) := by decide +kernel
theorem dX12_loosely_5 : decode cX12_loosely 5 = .ok (.aload_n 0, 1) := by decide +kernel
theorem dX12_loosely_6 : decode cX12_loosely 6 = .ok (.iload_n 1, 1) := by decide +kernel
theorem dX12_loosely_7 : decode cX12_loosely 7 = .ok (.invokevirtual 327, 3) := by decide +kernel
theorem dX12_loosely_10 : decode cX12_loosely 10 = .ok (.ifCond .eq 11, 3) := by decide +kernel
theorem dX12_loosely_21 : decode cX12_loosely 21 = .ok (.bipush (-2), 2) := by decide +kernel
theorem dX12_loosely_23 : decode cX12_loosely 23 = .ok (.ireturn, 1) := by decide +kernel
set_option maxHeartbeats 4000000 in
set_option maxRecDepth 100000 in
theorem c_X12_loosely (l : Launch) (D : va_G) (K : Nat → ClassId) (m0 al ah : Nat) (fm : List Value) (hmn : fm.length = 51) (hm16 : fm[16]? = some (.ref al)) (hm17 : fm[17]? = some (.ref ah)) (fl fh : Nat → Int32) (hfl : ∀ j, fl j = 0) (hfh : ∀ j, fh j = 0) (p0 : Int32) : fn_CI (S := Unit) l D K yX12_loosely (fn_ws yX12_loosely cX12_loosely 2 (some .int)) ({ frames := 16, cells := 0, slots := 0, locals := 400 }) [.ref m0, .int p0] [(m0, .inr (12, fm)), (al, .inl (K 0, 5, .inl fl)), (ah, .inl (K 0, 40, .inl fh))] (fun r _ => r = (-2)) (fun _ => []) 0 0 := by
  refine fn_inI (cc := cX12_loosely) (maxL := 2) (ret := (some .int)) (by decide) rfl (Nat.le_of_ble_eq_true rfl) ?_
  intro p e s m below meth c A ls B hA hP hD hS hl
  obtain ⟨hx, hb, hr, hml, hts, hown, hlocks, hin, hK⟩ := B
  have hown : s.vm.findClass RX12 = some m.cls := hown
  have hts := fun w h => hts w (List.mem_cons_of_mem _ h)
  have hl : lv_has ls 2 [(0, .ref m0), (1, .int p0)] := hl
  refine lv_aload_n hx hb dX12_loosely_0 rfl (lv_at hl 0 rfl) ?_
  refine lv_iconst (v := 0) hx hb dX12_loosely_1 (by decide) ?_
  refine va_put (D := D) (own := RX12) (ci := 12) (v := .int 0) (ty := .int) (C := RX12) (T := TX12) (N := 51) hx hb hts inb_X12 tyX12 tyX12_ok nmX12 hown hK.1 hP hD hS 0 rfl rfl 0 (by decide) (hts _ wd_1234) (fun _ h9 => h9) rfl (by decide +kernel) rfl rfl (fn_kl hmn (by decide)) dX12_loosely_2 (fun H locs hP hD hS => ?_)
  have hP : va_P D vwCl [(m0, .inr (12, fm.set 0 (.int 0))), (al, .inl (K 0, 5, .inl fl)), (ah, .inl (K 0, 40, .inl fh))] H := hP
  have hD : va_D A [(m0, .inr (12, fm.set 0 (.int 0))), (al, .inl (K 0, 5, .inl fl)), (ah, .inl (K 0, 40, .inl fh))] := hD
  refine lv_aload_n hx hb dX12_loosely_5 rfl (lv_at hl 0 rfl) ?_
  refine lv_iload_n hx hb dX12_loosely_6 rfl (lv_at hl 1 rfl) ?_
  refine fn_goi (wc := [(m0, .inr (12, fm.set 0 (.int 0))), (al, .inl (K 0, 5, .inl fl)), (ah, .inl (K 0, 40, .inl fh))]) (wr := []) hK hP hD hS hA [0, 1, 2] [] rfl rfl (by decide) (fun hp => va_runV (C := RX12) (As := [.int p0]) (rest := []) ⟨hx, hb, hml, hown, hts⟩ (c_X12_isSet (l := l) (D := D) (K := K) (m0 := (m0)) (p0 := (p0)) (fm := (fm.set 0 (.int 0))) (hmn := (fn_sl hmn)) (al := (al)) (hm16 := (fn_gs (by decide) hm16)) (ah := (ah)) (hm17 := (fn_gs (by decide) hm17)) (fl := (fl)) (hfl := hfl) (fh := (fh)) (hfh := hfh) _) (cwV 1 hts (fn_ginV (fn_gin wd_1731) wd_1728 wd_1730 wp_135 wd_13) rfl rfl rfl (by decide +kernel) ⟨Nat.le_of_ble_eq_true rfl, Nat.le_of_ble_eq_true rfl⟩) ⟨fn_blind, va_recv hK.1 hP (ci := 12) (q0 := 0) rfl rfl, hp⟩ rfl rfl hl.1 rfl (lv_room (Nat.le_of_ble_eq_true rfl)) dX12_loosely_7 ⟨Nat.le_of_ble_eq_true rfl, Nat.le_of_ble_eq_true rfl⟩) (fun r2 u1 H locs hwu1 hP hD hS => ?_)
  have r2_e : r2 = 0 := hwu1
  subst r2_e
  have hP : va_P D vwCl [] H := hP
  have hD : va_D A [] := hD
  refine lv_if_eq (tgt := 21) hx hb dX12_loosely_10 (by decide) (fun _ => ?_) (fun h9 => absurd (by decide) h9)
  refine lv_bipush (v := (-2)) hx hb dX12_loosely_21 (by decide) ?_
  exact fn_iret hx hb hr hlocks rfl hP hD hS () (by first | rfl | decide) [] (by decide) rfl dX12_loosely_23
theorem dX12_meets_0 : decode cX12_meets 0 = .ok (.aload_n 0, 1) := by decide +kernel
theorem dX12_meets_1 : decode cX12_meets 1 = .ok (.iconst 0, 1) := by decide +kernel
theorem dX12_meets_2 : decode cX12_meets 2 = .ok (.putfield 104, 3) := by decide +kernel
theorem dX12_meets_5 : decode cX12_meets 5 = .ok (.aload_n 0, 1) := by decide +kernel
theorem dX12_meets_6 : decode cX12_meets 6 = .ok (.iload_n 1, 1) := by decide +kernel
theorem dX12_meets_7 : decode cX12_meets 7 = .ok (.iload_n 2, 1) := by decide +kernel
theorem dX12_meets_8 : decode cX12_meets 8 = .ok (.invokevirtual 417, 3) := by decide +kernel
theorem dX12_meets_11 : decode cX12_meets 11 = .ok (.ifCond .ne 6, 3) := by decide +kernel
theorem dX12_meets_14 : decode cX12_meets 14 = .ok (.bipush (-2), 2) := by decide +kernel
theorem dX12_meets_16 : decode cX12_meets 16 = .ok (.ireturn, 1) := by decide +kernel
set_option maxHeartbeats 4000000 in
set_option maxRecDepth 100000 in
theorem c_X12_meets (l : Launch) (D : va_G) (K : Nat → ClassId) (m0 al ah : Nat) (fm : List Value) (hmn : fm.length = 51) (hm16 : fm[16]? = some (.ref al)) (hm17 : fm[17]? = some (.ref ah)) (fl fh : Nat → Int32) (hfl : ∀ j, fl j = 0) (hfh : ∀ j, fh j = 0) (p0 p1 : Int32) : fn_CI (S := Unit) l D K yX12_meets (fn_ws yX12_meets cX12_meets 3 (some .int)) ({ frames := 16, cells := 0, slots := 0, locals := 400 }) [.ref m0, .int p0, .int p1] [(m0, .inr (12, fm)), (al, .inl (K 0, 5, .inl fl)), (ah, .inl (K 0, 40, .inl fh))] (fun r _ => r = (-2)) (fun _ => []) 0 0 := by
  refine fn_inI (cc := cX12_meets) (maxL := 3) (ret := (some .int)) (by decide) rfl (Nat.le_of_ble_eq_true rfl) ?_
  intro p e s m below meth c A ls B hA hP hD hS hl
  obtain ⟨hx, hb, hr, hml, hts, hown, hlocks, hin, hK⟩ := B
  have hown : s.vm.findClass RX12 = some m.cls := hown
  have hts := fun w h => hts w (List.mem_cons_of_mem _ h)
  have hl : lv_has ls 3 [(0, .ref m0), (1, .int p0), (2, .int p1)] := hl
  refine lv_aload_n hx hb dX12_meets_0 rfl (lv_at hl 0 rfl) ?_
  refine lv_iconst (v := 0) hx hb dX12_meets_1 (by decide) ?_
  refine va_put (D := D) (own := RX12) (ci := 12) (v := .int 0) (ty := .int) (C := RX12) (T := TX12) (N := 51) hx hb hts inb_X12 tyX12 tyX12_ok nmX12 hown hK.1 hP hD hS 0 rfl rfl 0 (by decide) (hts _ wd_1234) (fun _ h9 => h9) rfl (by decide +kernel) rfl rfl (fn_kl hmn (by decide)) dX12_meets_2 (fun H locs hP hD hS => ?_)
  have hP : va_P D vwCl [(m0, .inr (12, fm.set 0 (.int 0))), (al, .inl (K 0, 5, .inl fl)), (ah, .inl (K 0, 40, .inl fh))] H := hP
  have hD : va_D A [(m0, .inr (12, fm.set 0 (.int 0))), (al, .inl (K 0, 5, .inl fl)), (ah, .inl (K 0, 40, .inl fh))] := hD
  refine lv_aload_n hx hb dX12_meets_5 rfl (lv_at hl 0 rfl) ?_
  refine lv_iload_n hx hb dX12_meets_6 rfl (lv_at hl 1 rfl) ?_
  refine lv_iload_n hx hb dX12_meets_7 rfl (lv_at hl 2 rfl) ?_
  refine fn_goi (wc := [(m0, .inr (12, fm.set 0 (.int 0))), (al, .inl (K 0, 5, .inl fl)), (ah, .inl (K 0, 40, .inl fh))]) (wr := []) hK hP hD hS hA [0, 1, 2] [] rfl rfl (by decide) (fun hp => va_runV (C := RX12) (As := [.int p0, .int p1]) (rest := []) ⟨hx, hb, hml, hown, hts⟩ (c_X12_areTwo (l := l) (D := D) (K := K) (m0 := (m0)) (p0 := (p0)) (p1 := (p1)) (fm := (fm.set 0 (.int 0))) (hmn := (fn_sl hmn)) (al := (al)) (hm16 := (fn_gs (by decide) hm16)) (ah := (ah)) (hm17 := (fn_gs (by decide) hm17)) (fl := (fl)) (hfl := hfl) (fh := (fh)) (hfh := hfh) _) (cwV 2 hts (fn_ginV (fn_gin wd_1876) wd_1873 wd_1875 wp_153 wd_13) rfl rfl rfl (by decide +kernel) ⟨Nat.le_of_ble_eq_true rfl, Nat.le_of_ble_eq_true rfl⟩) ⟨fn_blind, va_recv hK.1 hP (ci := 12) (q0 := 0) rfl rfl, hp⟩ rfl rfl hl.1 rfl (lv_room (Nat.le_of_ble_eq_true rfl)) dX12_meets_8 ⟨Nat.le_of_ble_eq_true rfl, Nat.le_of_ble_eq_true rfl⟩) (fun r2 u1 H locs hwu1 hP hD hS => ?_)
  have r2_e : r2 = 0 := hwu1
  subst r2_e
  have hP : va_P D vwCl [] H := hP
  have hD : va_D A [] := hD
  refine lv_if_ne (tgt := 17) hx hb dX12_meets_11 (by decide) (fun h9 => absurd rfl h9) (fun _ => ?_)
  refine lv_bipush (v := (-2)) hx hb dX12_meets_14 (by decide) ?_
  exact fn_iret hx hb hr hlocks rfl hP hD hS () (by first | rfl | decide) [] (by decide) rfl dX12_meets_16
theorem dX12_nearest_0 : decode cX12_nearest 0 = .ok (.aload_n 0, 1) := by decide +kernel
theorem dX12_nearest_1 : decode cX12_nearest 1 = .ok (.iconst 0, 1) := by decide +kernel
theorem dX12_nearest_2 : decode cX12_nearest 2 = .ok (.putfield 104, 3) := by decide +kernel
theorem dX12_nearest_5 : decode cX12_nearest 5 = .ok (.aload_n 0, 1) := by decide +kernel
theorem dX12_nearest_6 : decode cX12_nearest 6 = .ok (.iload_n 1, 1) := by decide +kernel
theorem dX12_nearest_7 : decode cX12_nearest 7 = .ok (.iload_n 2, 1) := by decide +kernel
theorem dX12_nearest_8 : decode cX12_nearest 8 = .ok (.invokevirtual 417, 3) := by decide +kernel
theorem dX12_nearest_11 : decode cX12_nearest 11 = .ok (.ifCond .ne 6, 3) := by decide +kernel
theorem dX12_nearest_14 : decode cX12_nearest 14 = .ok (.bipush (-2), 2) := by decide +kernel
theorem dX12_nearest_16 : decode cX12_nearest 16 = .ok (.ireturn, 1) := by decide +kernel
set_option maxHeartbeats 4000000 in
set_option maxRecDepth 100000 in
theorem c_X12_nearest (l : Launch) (D : va_G) (K : Nat → ClassId) (m0 al ah : Nat) (fm : List Value) (hmn : fm.length = 51) (hm16 : fm[16]? = some (.ref al)) (hm17 : fm[17]? = some (.ref ah)) (fl fh : Nat → Int32) (hfl : ∀ j, fl j = 0) (hfh : ∀ j, fh j = 0) (p0 p1 : Int32) : fn_CI (S := Unit) l D K yX12_nearest (fn_ws yX12_nearest cX12_nearest 3 (some .int)) ({ frames := 16, cells := 0, slots := 0, locals := 400 }) [.ref m0, .int p0, .int p1] [(m0, .inr (12, fm)), (al, .inl (K 0, 5, .inl fl)), (ah, .inl (K 0, 40, .inl fh))] (fun r _ => r = (-2)) (fun _ => []) 0 0 := by
  refine fn_inI (cc := cX12_nearest) (maxL := 3) (ret := (some .int)) (by decide) rfl (Nat.le_of_ble_eq_true rfl) ?_
  intro p e s m below meth c A ls B hA hP hD hS hl
  obtain ⟨hx, hb, hr, hml, hts, hown, hlocks, hin, hK⟩ := B
  have hown : s.vm.findClass RX12 = some m.cls := hown
  have hts := fun w h => hts w (List.mem_cons_of_mem _ h)
  have hl : lv_has ls 3 [(0, .ref m0), (1, .int p0), (2, .int p1)] := hl
  refine lv_aload_n hx hb dX12_nearest_0 rfl (lv_at hl 0 rfl) ?_
  refine lv_iconst (v := 0) hx hb dX12_nearest_1 (by decide) ?_
  refine va_put (D := D) (own := RX12) (ci := 12) (v := .int 0) (ty := .int) (C := RX12) (T := TX12) (N := 51) hx hb hts inb_X12 tyX12 tyX12_ok nmX12 hown hK.1 hP hD hS 0 rfl rfl 0 (by decide) (hts _ wd_1234) (fun _ h9 => h9) rfl (by decide +kernel) rfl rfl (fn_kl hmn (by decide)) dX12_nearest_2 (fun H locs hP hD hS => ?_)
  have hP : va_P D vwCl [(m0, .inr (12, fm.set 0 (.int 0))), (al, .inl (K 0, 5, .inl fl)), (ah, .inl (K 0, 40, .inl fh))] H := hP
  have hD : va_D A [(m0, .inr (12, fm.set 0 (.int 0))), (al, .inl (K 0, 5, .inl fl)), (ah, .inl (K 0, 40, .inl fh))] := hD
  refine lv_aload_n hx hb dX12_nearest_5 rfl (lv_at hl 0 rfl) ?_
  refine lv_iload_n hx hb dX12_nearest_6 rfl (lv_at hl 1 rfl) ?_
  refine lv_iload_n hx hb dX12_nearest_7 rfl (lv_at hl 2 rfl) ?_
  refine fn_goi (wc := [(m0, .inr (12, fm.set 0 (.int 0))), (al, .inl (K 0, 5, .inl fl)), (ah, .inl (K 0, 40, .inl fh))]) (wr := []) hK hP hD hS hA [0, 1, 2] [] rfl rfl (by decide) (fun hp => va_runV (C := RX12) (As := [.int p0, .int p1]) (rest := []) ⟨hx, hb, hml, hown, hts⟩ (c_X12_areTwo (l := l) (D := D) (K := K) (m0 := (m0)) (p0 := (p0)) (p1 := (p1)) (fm := (fm.set 0 (.int 0))) (hmn := (fn_sl hmn)) (al := (al)) (hm16 := (fn_gs (by decide) hm16)) (ah := (ah)) (hm17 := (fn_gs (by decide) hm17)) (fl := (fl)) (hfl := hfl) (fh := (fh)) (hfh := hfh) _) (cwV 2 hts (fn_ginV (fn_gin wd_1876) wd_1873 wd_1875 wp_153 wd_13) rfl rfl rfl (by decide +kernel) ⟨Nat.le_of_ble_eq_true rfl, Nat.le_of_ble_eq_true rfl⟩) ⟨fn_blind, va_recv hK.1 hP (ci := 12) (q0 := 0) rfl rfl, hp⟩ rfl rfl hl.1 rfl (lv_room (Nat.le_of_ble_eq_true rfl)) dX12_nearest_8 ⟨Nat.le_of_ble_eq_true rfl, Nat.le_of_ble_eq_true rfl⟩) (fun r2 u1 H locs hwu1 hP hD hS => ?_)
  have r2_e : r2 = 0 := hwu1
  subst r2_e
  have hP : va_P D vwCl [] H := hP
  have hD : va_D A [] := hD
  refine lv_if_ne (tgt := 17) hx hb dX12_nearest_11 (by decide) (fun h9 => absurd rfl h9) (fun _ => ?_)
  refine lv_bipush (v := (-2)) hx hb dX12_nearest_14 (by decide) ?_
  exact fn_iret hx hb hr hlocks rfl hP hD hS () (by first | rfl | decide) [] (by decide) rfl dX12_nearest_16
theorem dX12_third_0 : decode cX12_third 0 = .ok (.aload_n 0, 1) := by decide +kernel
theorem dX12_third_1 : decode cX12_third 1 = .ok (.iconst 0, 1) := by decide +kernel
theorem dX12_third_2 : decode cX12_third 2 = .ok (.putfield 104, 3) := by decide +kernel
theorem dX12_third_5 : decode cX12_third 5 = .ok (.aload_n 0, 1) := by decide +kernel
theorem dX12_third_6 : decode cX12_third 6 = .ok (.iload_n 1, 1) := by decide +kernel
theorem dX12_third_7 : decode cX12_third 7 = .ok (.iload_n 2, 1) := by decide +kernel
theorem dX12_third_8 : decode cX12_third 8 = .ok (.invokevirtual 417, 3) := by decide +kernel
theorem dX12_third_11 : decode cX12_third 11 = .ok (.ifCond .ne 6, 3) := by decide +kernel
theorem dX12_third_14 : decode cX12_third 14 = .ok (.bipush (-2), 2) := by decide +kernel
theorem dX12_third_16 : decode cX12_third 16 = .ok (.ireturn, 1) := by decide +kernel
set_option maxHeartbeats 4000000 in
set_option maxRecDepth 100000 in
theorem c_X12_third (l : Launch) (D : va_G) (K : Nat → ClassId) (m0 al ah : Nat) (fm : List Value) (hmn : fm.length = 51) (hm16 : fm[16]? = some (.ref al)) (hm17 : fm[17]? = some (.ref ah)) (fl fh : Nat → Int32) (hfl : ∀ j, fl j = 0) (hfh : ∀ j, fh j = 0) (p0 p1 : Int32) : fn_CI (S := Unit) l D K yX12_third (fn_ws yX12_third cX12_third 3 (some .int)) ({ frames := 16, cells := 0, slots := 0, locals := 400 }) [.ref m0, .int p0, .int p1] [(m0, .inr (12, fm)), (al, .inl (K 0, 5, .inl fl)), (ah, .inl (K 0, 40, .inl fh))] (fun r _ => r = (-2)) (fun _ => []) 0 0 := by
  refine fn_inI (cc := cX12_third) (maxL := 3) (ret := (some .int)) (by decide) rfl (Nat.le_of_ble_eq_true rfl) ?_
  intro p e s m below meth c A ls B hA hP hD hS hl
  obtain ⟨hx, hb, hr, hml, hts, hown, hlocks, hin, hK⟩ := B
  have hown : s.vm.findClass RX12 = some m.cls := hown
  have hts := fun w h => hts w (List.mem_cons_of_mem _ h)
  have hl : lv_has ls 3 [(0, .ref m0), (1, .int p0), (2, .int p1)] := hl
  refine lv_aload_n hx hb dX12_third_0 rfl (lv_at hl 0 rfl) ?_
  refine lv_iconst (v := 0) hx hb dX12_third_1 (by decide) ?_
  refine va_put (D := D) (own := RX12) (ci := 12) (v := .int 0) (ty := .int) (C := RX12) (T := TX12) (N := 51) hx hb hts inb_X12 tyX12 tyX12_ok nmX12 hown hK.1 hP hD hS 0 rfl rfl 0 (by decide) (hts _ wd_1234) (fun _ h9 => h9) rfl (by decide +kernel) rfl rfl (fn_kl hmn (by decide)) dX12_third_2 (fun H locs hP hD hS => ?_)
  have hP : va_P D vwCl [(m0, .inr (12, fm.set 0 (.int 0))), (al, .inl (K 0, 5, .inl fl)), (ah, .inl (K 0, 40, .inl fh))] H := hP
  have hD : va_D A [(m0, .inr (12, fm.set 0 (.int 0))), (al, .inl (K 0, 5, .inl fl)), (ah, .inl (K 0, 40, .inl fh))] := hD
  refine lv_aload_n hx hb dX12_third_5 rfl (lv_at hl 0 rfl) ?_
  refine lv_iload_n hx hb dX12_third_6 rfl (lv_at hl 1 rfl) ?_
  refine lv_iload_n hx hb dX12_third_7 rfl (lv_at hl 2 rfl) ?_
  refine fn_goi (wc := [(m0, .inr (12, fm.set 0 (.int 0))), (al, .inl (K 0, 5, .inl fl)), (ah, .inl (K 0, 40, .inl fh))]) (wr := []) hK hP hD hS hA [0, 1, 2] [] rfl rfl (by decide) (fun hp => va_runV (C := RX12) (As := [.int p0, .int p1]) (rest := []) ⟨hx, hb, hml, hown, hts⟩ (c_X12_areTwo (l := l) (D := D) (K := K) (m0 := (m0)) (p0 := (p0)) (p1 := (p1)) (fm := (fm.set 0 (.int 0))) (hmn := (fn_sl hmn)) (al := (al)) (hm16 := (fn_gs (by decide) hm16)) (ah := (ah)) (hm17 := (fn_gs (by decide) hm17)) (fl := (fl)) (hfl := hfl) (fh := (fh)) (hfh := hfh) _) (cwV 2 hts (fn_ginV (fn_gin wd_1876) wd_1873 wd_1875 wp_153 wd_13) rfl rfl rfl (by decide +kernel) ⟨Nat.le_of_ble_eq_true rfl, Nat.le_of_ble_eq_true rfl⟩) ⟨fn_blind, va_recv hK.1 hP (ci := 12) (q0 := 0) rfl rfl, hp⟩ rfl rfl hl.1 rfl (lv_room (Nat.le_of_ble_eq_true rfl)) dX12_third_8 ⟨Nat.le_of_ble_eq_true rfl, Nat.le_of_ble_eq_true rfl⟩) (fun r2 u1 H locs hwu1 hP hD hS => ?_)
  have r2_e : r2 = 0 := hwu1
  subst r2_e
  have hP : va_P D vwCl [] H := hP
  have hD : va_D A [] := hD
  refine lv_if_ne (tgt := 17) hx hb dX12_third_11 (by decide) (fun h9 => absurd rfl h9) (fun _ => ?_)
  refine lv_bipush (v := (-2)) hx hb dX12_third_14 (by decide) ?_
  exact fn_iret hx hb hr hlocks rfl hP hD hS () (by first | rfl | decide) [] (by decide) rfl dX12_third_16
theorem dX12_drawn_0 : decode cX12_drawn 0 = .ok (.aload_n 0, 1) := by decide +kernel
theorem dX12_drawn_1 : decode cX12_drawn 1 = .ok (.iconst 0, 1) := by decide +kernel
theorem dX12_drawn_2 : decode cX12_drawn 2 = .ok (.putfield 104, 3) := by decide +kernel
theorem dX12_drawn_5 : decode cX12_drawn 5 = .ok (.aload_n 0, 1) := by decide +kernel
theorem dX12_drawn_6 : decode cX12_drawn 6 = .ok (.iload_n 1, 1) := by decide +kernel
theorem dX12_drawn_7 : decode cX12_drawn 7 = .ok (.invokevirtual 444, 3) := by decide +kernel
theorem dX12_drawn_10 : decode cX12_drawn 10 = .ok (.ifCond .eq 12, 3) := by decide +kernel
theorem dX12_drawn_22 : decode cX12_drawn 22 = .ok (.bipush (-2), 2) := by decide +kernel
theorem dX12_drawn_24 : decode cX12_drawn 24 = .ok (.ireturn, 1) := by decide +kernel
set_option maxHeartbeats 4000000 in
set_option maxRecDepth 100000 in
theorem c_X12_drawn (l : Launch) (D : va_G) (K : Nat → ClassId) (m0 al ah : Nat) (fm : List Value) (hmn : fm.length = 51) (hm16 : fm[16]? = some (.ref al)) (hm17 : fm[17]? = some (.ref ah)) (fl fh : Nat → Int32) (hfl : ∀ j, fl j = 0) (hfh : ∀ j, fh j = 0) (p0 : Int32) : fn_CI (S := Unit) l D K yX12_drawn (fn_ws yX12_drawn cX12_drawn 2 (some .int)) ({ frames := 16, cells := 0, slots := 0, locals := 400 }) [.ref m0, .int p0] [(m0, .inr (12, fm)), (al, .inl (K 0, 5, .inl fl)), (ah, .inl (K 0, 40, .inl fh))] (fun r _ => r = (-2)) (fun _ => []) 0 0 := by
  refine fn_inI (cc := cX12_drawn) (maxL := 2) (ret := (some .int)) (by decide) rfl (Nat.le_of_ble_eq_true rfl) ?_
  intro p e s m below meth c A ls B hA hP hD hS hl
  obtain ⟨hx, hb, hr, hml, hts, hown, hlocks, hin, hK⟩ := B
  have hown : s.vm.findClass RX12 = some m.cls := hown
  have hts := fun w h => hts w (List.mem_cons_of_mem _ h)
  have hl : lv_has ls 2 [(0, .ref m0), (1, .int p0)] := hl
  refine lv_aload_n hx hb dX12_drawn_0 rfl (lv_at hl 0 rfl) ?_
  refine lv_iconst (v := 0) hx hb dX12_drawn_1 (by decide) ?_
  refine va_put (D := D) (own := RX12) (ci := 12) (v := .int 0) (ty := .int) (C := RX12) (T := TX12) (N := 51) hx hb hts inb_X12 tyX12 tyX12_ok nmX12 hown hK.1 hP hD hS 0 rfl rfl 0 (by decide) (hts _ wd_1234) (fun _ h9 => h9) rfl (by decide +kernel) rfl rfl (fn_kl hmn (by decide)) dX12_drawn_2 (fun H locs hP hD hS => ?_)
  have hP : va_P D vwCl [(m0, .inr (12, fm.set 0 (.int 0))), (al, .inl (K 0, 5, .inl fl)), (ah, .inl (K 0, 40, .inl fh))] H := hP
  have hD : va_D A [(m0, .inr (12, fm.set 0 (.int 0))), (al, .inl (K 0, 5, .inl fl)), (ah, .inl (K 0, 40, .inl fh))] := hD
  refine lv_aload_n hx hb dX12_drawn_5 rfl (lv_at hl 0 rfl) ?_
  refine lv_iload_n hx hb dX12_drawn_6 rfl (lv_at hl 1 rfl) ?_
  refine fn_goi (wc := [(m0, .inr (12, fm.set 0 (.int 0))), (al, .inl (K 0, 5, .inl fl)), (ah, .inl (K 0, 40, .inl fh))]) (wr := []) hK hP hD hS hA [0, 1, 2] [] rfl rfl (by decide) (fun hp => va_runV (C := RX12) (As := [.int p0]) (rest := []) ⟨hx, hb, hml, hown, hts⟩ (c_X12_isSeed (l := l) (D := D) (K := K) (m0 := (m0)) (p0 := (p0)) (fm := (fm.set 0 (.int 0))) (hmn := (fn_sl hmn)) (al := (al)) (hm16 := (fn_gs (by decide) hm16)) (ah := (ah)) (hm17 := (fn_gs (by decide) hm17)) (fl := (fl)) (hfl := hfl) (fh := (fh)) (hfh := hfh) _) (cwV 1 hts (fn_ginV (fn_gin wd_1920) wd_1917 wd_1919 wp_157 wd_13) rfl rfl rfl (by decide +kernel) ⟨Nat.le_of_ble_eq_true rfl, Nat.le_of_ble_eq_true rfl⟩) ⟨fn_blind, va_recv hK.1 hP (ci := 12) (q0 := 0) rfl rfl, hp⟩ rfl rfl hl.1 rfl (lv_room (Nat.le_of_ble_eq_true rfl)) dX12_drawn_7 ⟨Nat.le_of_ble_eq_true rfl, Nat.le_of_ble_eq_true rfl⟩) (fun r2 u1 H locs hwu1 hP hD hS => ?_)
  have r2_e : r2 = 0 := hwu1
  subst r2_e
  have hP : va_P D vwCl [] H := hP
  have hD : va_D A [] := hD
  refine lv_if_eq (tgt := 22) hx hb dX12_drawn_10 (by decide) (fun _ => ?_) (fun h9 => absurd (by decide) h9)
  refine lv_bipush (v := (-2)) hx hb dX12_drawn_22 (by decide) ?_
  exact fn_iret hx hb hr hlocks rfl hP hD hS () (by first | rfl | decide) [] (by decide) rfl dX12_drawn_24
theorem dX12_shaken_0 : decode cX12_shaken 0 = .ok (.aload_n 0, 1) := by decide +kernel
theorem dX12_shaken_1 : decode cX12_shaken 1 = .ok (.iconst 0, 1) := by decide +kernel
theorem dX12_shaken_2 : decode cX12_shaken 2 = .ok (.putfield 104, 3) := by decide +kernel
theorem dX12_shaken_5 : decode cX12_shaken 5 = .ok (.aload_n 0, 1) := by decide +kernel
theorem dX12_shaken_6 : decode cX12_shaken 6 = .ok (.iload_n 1, 1) := by decide +kernel
theorem dX12_shaken_7 : decode cX12_shaken 7 = .ok (.invokevirtual 444, 3) := by decide +kernel
theorem dX12_shaken_10 : decode cX12_shaken 10 = .ok (.ifCond .ne 6, 3) := by decide +kernel
theorem dX12_shaken_13 : decode cX12_shaken 13 = .ok (.bipush (-2), 2) := by decide +kernel
theorem dX12_shaken_15 : decode cX12_shaken 15 = .ok (.ireturn, 1) := by decide +kernel
set_option maxHeartbeats 4000000 in
set_option maxRecDepth 100000 in
theorem c_X12_shaken (l : Launch) (D : va_G) (K : Nat → ClassId) (m0 al ah : Nat) (fm : List Value) (hmn : fm.length = 51) (hm16 : fm[16]? = some (.ref al)) (hm17 : fm[17]? = some (.ref ah)) (fl fh : Nat → Int32) (hfl : ∀ j, fl j = 0) (hfh : ∀ j, fh j = 0) (p0 : Int32) : fn_CI (S := Unit) l D K yX12_shaken (fn_ws yX12_shaken cX12_shaken 2 (some .int)) ({ frames := 16, cells := 0, slots := 0, locals := 400 }) [.ref m0, .int p0] [(m0, .inr (12, fm)), (al, .inl (K 0, 5, .inl fl)), (ah, .inl (K 0, 40, .inl fh))] (fun r _ => r = (-2)) (fun _ => []) 0 0 := by
  refine fn_inI (cc := cX12_shaken) (maxL := 2) (ret := (some .int)) (by decide) rfl (Nat.le_of_ble_eq_true rfl) ?_
  intro p e s m below meth c A ls B hA hP hD hS hl
  obtain ⟨hx, hb, hr, hml, hts, hown, hlocks, hin, hK⟩ := B
  have hown : s.vm.findClass RX12 = some m.cls := hown
  have hts := fun w h => hts w (List.mem_cons_of_mem _ h)
  have hl : lv_has ls 2 [(0, .ref m0), (1, .int p0)] := hl
  refine lv_aload_n hx hb dX12_shaken_0 rfl (lv_at hl 0 rfl) ?_
  refine lv_iconst (v := 0) hx hb dX12_shaken_1 (by decide) ?_
  refine va_put (D := D) (own := RX12) (ci := 12) (v := .int 0) (ty := .int) (C := RX12) (T := TX12) (N := 51) hx hb hts inb_X12 tyX12 tyX12_ok nmX12 hown hK.1 hP hD hS 0 rfl rfl 0 (by decide) (hts _ wd_1234) (fun _ h9 => h9) rfl (by decide +kernel) rfl rfl (fn_kl hmn (by decide)) dX12_shaken_2 (fun H locs hP hD hS => ?_)
  have hP : va_P D vwCl [(m0, .inr (12, fm.set 0 (.int 0))), (al, .inl (K 0, 5, .inl fl)), (ah, .inl (K 0, 40, .inl fh))] H := hP
  have hD : va_D A [(m0, .inr (12, fm.set 0 (.int 0))), (al, .inl (K 0, 5, .inl fl)), (ah, .inl (K 0, 40, .inl fh))] := hD
  refine lv_aload_n hx hb dX12_shaken_5 rfl (lv_at hl 0 rfl) ?_
  refine lv_iload_n hx hb dX12_shaken_6 rfl (lv_at hl 1 rfl) ?_
  refine fn_goi (wc := [(m0, .inr (12, fm.set 0 (.int 0))), (al, .inl (K 0, 5, .inl fl)), (ah, .inl (K 0, 40, .inl fh))]) (wr := []) hK hP hD hS hA [0, 1, 2] [] rfl rfl (by decide) (fun hp => va_runV (C := RX12) (As := [.int p0]) (rest := []) ⟨hx, hb, hml, hown, hts⟩ (c_X12_isSeed (l := l) (D := D) (K := K) (m0 := (m0)) (p0 := (p0)) (fm := (fm.set 0 (.int 0))) (hmn := (fn_sl hmn)) (al := (al)) (hm16 := (fn_gs (by decide) hm16)) (ah := (ah)) (hm17 := (fn_gs (by decide) hm17)) (fl := (fl)) (hfl := hfl) (fh := (fh)) (hfh := hfh) _) (cwV 1 hts (fn_ginV (fn_gin wd_1920) wd_1917 wd_1919 wp_157 wd_13) rfl rfl rfl (by decide +kernel) ⟨Nat.le_of_ble_eq_true rfl, Nat.le_of_ble_eq_true rfl⟩) ⟨fn_blind, va_recv hK.1 hP (ci := 12) (q0 := 0) rfl rfl, hp⟩ rfl rfl hl.1 rfl (lv_room (Nat.le_of_ble_eq_true rfl)) dX12_shaken_7 ⟨Nat.le_of_ble_eq_true rfl, Nat.le_of_ble_eq_true rfl⟩) (fun r2 u1 H locs hwu1 hP hD hS => ?_)
  have r2_e : r2 = 0 := hwu1
  subst r2_e
  have hP : va_P D vwCl [] H := hP
  have hD : va_D A [] := hD
  refine lv_if_ne (tgt := 16) hx hb dX12_shaken_10 (by decide) (fun h9 => absurd rfl h9) (fun _ => ?_)
  refine lv_bipush (v := (-2)) hx hb dX12_shaken_13 (by decide) ?_
  exact fn_iret hx hb hr hlocks rfl hP hD hS () (by first | rfl | decide) [] (by decide) rfl dX12_shaken_15
theorem dX12_years_0 : decode cX12_years 0 = .ok (.aload_n 0, 1) := by decide +kernel
theorem dX12_years_1 : decode cX12_years 1 = .ok (.iconst 0, 1) := by decide +kernel
theorem dX12_years_2 : decode cX12_years 2 = .ok (.putfield 104, 3) := by decide +kernel
theorem dX12_years_5 : decode cX12_years 5 = .ok (.aload_n 0, 1) := by decide +kernel
theorem dX12_years_6 : decode cX12_years 6 = .ok (.iload_n 1, 1) := by decide +kernel
theorem dX12_years_7 : decode cX12_years 7 = .ok (.invokevirtual 444, 3) := by decide +kernel
theorem dX12_years_10 : decode cX12_years 10 = .ok (.ifCond .eq 24, 3) := by decide +kernel
theorem dX12_years_34 : decode cX12_years 34 = .ok (.bipush (-2), 2) := by decide +kernel
theorem dX12_years_36 : decode cX12_years 36 = .ok (.ireturn, 1) := by decide +kernel
set_option maxHeartbeats 4000000 in
set_option maxRecDepth 100000 in
theorem c_X12_years (l : Launch) (D : va_G) (K : Nat → ClassId) (m0 al ah : Nat) (fm : List Value) (hmn : fm.length = 51) (hm16 : fm[16]? = some (.ref al)) (hm17 : fm[17]? = some (.ref ah)) (fl fh : Nat → Int32) (hfl : ∀ j, fl j = 0) (hfh : ∀ j, fh j = 0) (p0 p1 p2 : Int32) : fn_CI (S := Unit) l D K yX12_years (fn_ws yX12_years cX12_years 6 (some .int)) ({ frames := 16, cells := 0, slots := 0, locals := 400 }) [.ref m0, .int p0, .int p1, .int p2] [(m0, .inr (12, fm)), (al, .inl (K 0, 5, .inl fl)), (ah, .inl (K 0, 40, .inl fh))] (fun r _ => r = (-2)) (fun _ => []) 0 0 := by
  refine fn_inI (cc := cX12_years) (maxL := 6) (ret := (some .int)) (by decide) rfl (Nat.le_of_ble_eq_true rfl) ?_
  intro p e s m below meth c A ls B hA hP hD hS hl
  obtain ⟨hx, hb, hr, hml, hts, hown, hlocks, hin, hK⟩ := B
  have hown : s.vm.findClass RX12 = some m.cls := hown
  have hts := fun w h => hts w (List.mem_cons_of_mem _ h)
  have hl : lv_has ls 6 [(0, .ref m0), (1, .int p0), (2, .int p1), (3, .int p2)] := hl
  refine lv_aload_n hx hb dX12_years_0 rfl (lv_at hl 0 rfl) ?_
  refine lv_iconst (v := 0) hx hb dX12_years_1 (by decide) ?_
  refine va_put (D := D) (own := RX12) (ci := 12) (v := .int 0) (ty := .int) (C := RX12) (T := TX12) (N := 51) hx hb hts inb_X12 tyX12 tyX12_ok nmX12 hown hK.1 hP hD hS 0 rfl rfl 0 (by decide) (hts _ wd_1234) (fun _ h9 => h9) rfl (by decide +kernel) rfl rfl (fn_kl hmn (by decide)) dX12_years_2 (fun H locs hP hD hS => ?_)
  have hP : va_P D vwCl [(m0, .inr (12, fm.set 0 (.int 0))), (al, .inl (K 0, 5, .inl fl)), (ah, .inl (K 0, 40, .inl fh))] H := hP
  have hD : va_D A [(m0, .inr (12, fm.set 0 (.int 0))), (al, .inl (K 0, 5, .inl fl)), (ah, .inl (K 0, 40, .inl fh))] := hD
  refine lv_aload_n hx hb dX12_years_5 rfl (lv_at hl 0 rfl) ?_
  refine lv_iload_n hx hb dX12_years_6 rfl (lv_at hl 1 rfl) ?_
  refine fn_goi (wc := [(m0, .inr (12, fm.set 0 (.int 0))), (al, .inl (K 0, 5, .inl fl)), (ah, .inl (K 0, 40, .inl fh))]) (wr := []) hK hP hD hS hA [0, 1, 2] [] rfl rfl (by decide) (fun hp => va_runV (C := RX12) (As := [.int p0]) (rest := []) ⟨hx, hb, hml, hown, hts⟩ (c_X12_isSeed (l := l) (D := D) (K := K) (m0 := (m0)) (p0 := (p0)) (fm := (fm.set 0 (.int 0))) (hmn := (fn_sl hmn)) (al := (al)) (hm16 := (fn_gs (by decide) hm16)) (ah := (ah)) (hm17 := (fn_gs (by decide) hm17)) (fl := (fl)) (hfl := hfl) (fh := (fh)) (hfh := hfh) _) (cwV 1 hts (fn_ginV (fn_gin wd_1920) wd_1917 wd_1919 wp_157 wd_13) rfl rfl rfl (by decide +kernel) ⟨Nat.le_of_ble_eq_true rfl, Nat.le_of_ble_eq_true rfl⟩) ⟨fn_blind, va_recv hK.1 hP (ci := 12) (q0 := 0) rfl rfl, hp⟩ rfl rfl hl.1 rfl (lv_room (Nat.le_of_ble_eq_true rfl)) dX12_years_7 ⟨Nat.le_of_ble_eq_true rfl, Nat.le_of_ble_eq_true rfl⟩) (fun r2 u1 H locs hwu1 hP hD hS => ?_)
  have r2_e : r2 = 0 := hwu1
  subst r2_e
  have hP : va_P D vwCl [] H := hP
  have hD : va_D A [] := hD
  refine lv_if_eq (tgt := 34) hx hb dX12_years_10 (by decide) (fun _ => ?_) (fun h9 => absurd (by decide) h9)
  refine lv_bipush (v := (-2)) hx hb dX12_years_34 (by decide) ?_
  exact fn_iret hx hb hr hlocks rfl hP hD hS () (by first | rfl | decide) [] (by decide) rfl dX12_years_36
end
