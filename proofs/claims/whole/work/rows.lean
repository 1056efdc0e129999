section
-- ===== PART A: goes FIRST, ahead of the names: the tables' words, and 'selects' of the private methods out of them =====
/-- a private method of a class that the tables say can be made, by its rows of tables_1 -/
def lw_okq (q : MethodName × Nat) : Prop := (q.1.cls ≠ "java/lang/invoke/MethodHandle" ∧ q.1.cls ≠ "java/lang/invoke/VarHandle") ∧ Cond.instantiable q.1.cls q.2 ∈ tables_1 ∧ Cond.privateMethod q.1 ∈ tables_1 ∧ Cond.instanceMethod q.1 ∈ tables_1
theorem lw_p0 : lw_okq (⟨"FinedAlike", "refuseBad", "(I)I"⟩, 14) := ⟨⟨by decide +kernel, by decide +kernel⟩, List.mem_of_getElem? (i := 16) (by decide +kernel), List.mem_of_getElem? (i := 311) (by decide +kernel), List.mem_of_getElem? (i := 312) (by decide +kernel)⟩
theorem lw_p1 : lw_okq (⟨"FinedAlike", "refuseFull", "()I"⟩, 14) := ⟨⟨by decide +kernel, by decide +kernel⟩, List.mem_of_getElem? (i := 16) (by decide +kernel), List.mem_of_getElem? (i := 315) (by decide +kernel), List.mem_of_getElem? (i := 316) (by decide +kernel)⟩
theorem lw_p2 : lw_okq (⟨"FinedAlike", "putKind", "(II)I"⟩, 14) := ⟨⟨by decide +kernel, by decide +kernel⟩, List.mem_of_getElem? (i := 16) (by decide +kernel), List.mem_of_getElem? (i := 337) (by decide +kernel), List.mem_of_getElem? (i := 338) (by decide +kernel)⟩
theorem lw_p3 : lw_okq (⟨"FinedAlike", "putLine", "(I)I"⟩, 14) := ⟨⟨by decide +kernel, by decide +kernel⟩, List.mem_of_getElem? (i := 16) (by decide +kernel), List.mem_of_getElem? (i := 341) (by decide +kernel), List.mem_of_getElem? (i := 342) (by decide +kernel)⟩
theorem lw_p4 : lw_okq (⟨"FinedAlike", "putRich", "(I)I"⟩, 14) := ⟨⟨by decide +kernel, by decide +kernel⟩, List.mem_of_getElem? (i := 16) (by decide +kernel), List.mem_of_getElem? (i := 349) (by decide +kernel), List.mem_of_getElem? (i := 350) (by decide +kernel)⟩
theorem lw_p5 : lw_okq (⟨"FinedAlike$Town", "forgetOldest", "()V"⟩, 14) := ⟨⟨by decide +kernel, by decide +kernel⟩, List.mem_of_getElem? (i := 24) (by decide +kernel), List.mem_of_getElem? (i := 361) (by decide +kernel), List.mem_of_getElem? (i := 362) (by decide +kernel)⟩
theorem lw_p6 : lw_okq (⟨"FinedAlike", "refuseNo", "()I"⟩, 14) := ⟨⟨by decide +kernel, by decide +kernel⟩, List.mem_of_getElem? (i := 16) (by decide +kernel), List.mem_of_getElem? (i := 375) (by decide +kernel), List.mem_of_getElem? (i := 376) (by decide +kernel)⟩
theorem lw_p7 : lw_okq (⟨"FinedAlike$Text", "nextToken", "()V"⟩, 7) := ⟨⟨by decide +kernel, by decide +kernel⟩, List.mem_of_getElem? (i := 122) (by decide +kernel), List.mem_of_getElem? (i := 419) (by decide +kernel), List.mem_of_getElem? (i := 420) (by decide +kernel)⟩
theorem lw_p8 : lw_okq (⟨"FinedAlike$Text", "readItem", "(LFinedAlike$Town;)V"⟩, 7) := ⟨⟨by decide +kernel, by decide +kernel⟩, List.mem_of_getElem? (i := 122) (by decide +kernel), List.mem_of_getElem? (i := 429) (by decide +kernel), List.mem_of_getElem? (i := 430) (by decide +kernel)⟩
theorem lw_p9 : lw_okq (⟨"FinedAlike$Text", "fail", "()V"⟩, 7) := ⟨⟨by decide +kernel, by decide +kernel⟩, List.mem_of_getElem? (i := 122) (by decide +kernel), List.mem_of_getElem? (i := 433) (by decide +kernel), List.mem_of_getElem? (i := 434) (by decide +kernel)⟩
theorem lw_p10 : lw_okq (⟨"FinedAlike$Text", "spells", "(Ljava/lang/String;)Z"⟩, 7) := ⟨⟨by decide +kernel, by decide +kernel⟩, List.mem_of_getElem? (i := 122) (by decide +kernel), List.mem_of_getElem? (i := 438) (by decide +kernel), List.mem_of_getElem? (i := 439) (by decide +kernel)⟩
theorem lw_p11 : lw_okq (⟨"FinedAlike$Text", "readThing", "(LFinedAlike$Town;)V"⟩, 7) := ⟨⟨by decide +kernel, by decide +kernel⟩, List.mem_of_getElem? (i := 122) (by decide +kernel), List.mem_of_getElem? (i := 490) (by decide +kernel), List.mem_of_getElem? (i := 491) (by decide +kernel)⟩
theorem lw_p12 : lw_okq (⟨"FinedAlike$Text", "figure", "()I"⟩, 7) := ⟨⟨by decide +kernel, by decide +kernel⟩, List.mem_of_getElem? (i := 122) (by decide +kernel), List.mem_of_getElem? (i := 494) (by decide +kernel), List.mem_of_getElem? (i := 495) (by decide +kernel)⟩
theorem lw_p13 : lw_okq (⟨"FinedAlike$Text", "readPeople", "(LFinedAlike$Town;)V"⟩, 7) := ⟨⟨by decide +kernel, by decide +kernel⟩, List.mem_of_getElem? (i := 122) (by decide +kernel), List.mem_of_getElem? (i := 501) (by decide +kernel), List.mem_of_getElem? (i := 502) (by decide +kernel)⟩
theorem lw_p14 : lw_okq (⟨"FinedAlike$Text", "number", "(II)I"⟩, 7) := ⟨⟨by decide +kernel, by decide +kernel⟩, List.mem_of_getElem? (i := 122) (by decide +kernel), List.mem_of_getElem? (i := 505) (by decide +kernel), List.mem_of_getElem? (i := 506) (by decide +kernel)⟩
theorem lw_p15 : lw_okq (⟨"FinedAlike$Text", "stops", "()Z"⟩, 7) := ⟨⟨by decide +kernel, by decide +kernel⟩, List.mem_of_getElem? (i := 122) (by decide +kernel), List.mem_of_getElem? (i := 510) (by decide +kernel), List.mem_of_getElem? (i := 511) (by decide +kernel)⟩
def lw_privs_1 : List (MethodName × Nat) := [(⟨"FinedAlike", "refuseBad", "(I)I"⟩, 14), (⟨"FinedAlike", "refuseFull", "()I"⟩, 14), (⟨"FinedAlike", "putKind", "(II)I"⟩, 14), (⟨"FinedAlike", "putLine", "(I)I"⟩, 14), (⟨"FinedAlike", "putRich", "(I)I"⟩, 14), (⟨"FinedAlike$Town", "forgetOldest", "()V"⟩, 14), (⟨"FinedAlike", "refuseNo", "()I"⟩, 14), (⟨"FinedAlike$Text", "nextToken", "()V"⟩, 7), (⟨"FinedAlike$Text", "readItem", "(LFinedAlike$Town;)V"⟩, 7), (⟨"FinedAlike$Text", "fail", "()V"⟩, 7), (⟨"FinedAlike$Text", "spells", "(Ljava/lang/String;)Z"⟩, 7), (⟨"FinedAlike$Text", "readThing", "(LFinedAlike$Town;)V"⟩, 7), (⟨"FinedAlike$Text", "figure", "()I"⟩, 7), (⟨"FinedAlike$Text", "readPeople", "(LFinedAlike$Town;)V"⟩, 7), (⟨"FinedAlike$Text", "number", "(II)I"⟩, 7), (⟨"FinedAlike$Text", "stops", "()Z"⟩, 7)]
theorem lw_r1 : ∀ q ∈ lw_privs_1, lw_okq q := List.forall_mem_cons.mpr ⟨lw_p0, List.forall_mem_cons.mpr ⟨lw_p1, List.forall_mem_cons.mpr ⟨lw_p2, List.forall_mem_cons.mpr ⟨lw_p3, List.forall_mem_cons.mpr ⟨lw_p4, List.forall_mem_cons.mpr ⟨lw_p5, List.forall_mem_cons.mpr ⟨lw_p6, List.forall_mem_cons.mpr ⟨lw_p7, List.forall_mem_cons.mpr ⟨lw_p8, List.forall_mem_cons.mpr ⟨lw_p9, List.forall_mem_cons.mpr ⟨lw_p10, List.forall_mem_cons.mpr ⟨lw_p11, List.forall_mem_cons.mpr ⟨lw_p12, List.forall_mem_cons.mpr ⟨lw_p13, List.forall_mem_cons.mpr ⟨lw_p14, List.forall_mem_cons.mpr ⟨lw_p15, fun _ h => absurd h List.not_mem_nil⟩⟩⟩⟩⟩⟩⟩⟩⟩⟩⟩⟩⟩⟩⟩⟩
theorem lw_p16 : lw_okq (⟨"FinedAlike$Text", "readHours", "(LFinedAlike$Town;)V"⟩, 7) := ⟨⟨by decide +kernel, by decide +kernel⟩, List.mem_of_getElem? (i := 122) (by decide +kernel), List.mem_of_getElem? (i := 515) (by decide +kernel), List.mem_of_getElem? (i := 516) (by decide +kernel)⟩
theorem lw_p17 : lw_okq (⟨"FinedAlike$Text", "readHour", "(LFinedAlike$Town;)V"⟩, 7) := ⟨⟨by decide +kernel, by decide +kernel⟩, List.mem_of_getElem? (i := 122) (by decide +kernel), List.mem_of_getElem? (i := 520) (by decide +kernel), List.mem_of_getElem? (i := 521) (by decide +kernel)⟩
theorem lw_p18 : lw_okq (⟨"FinedAlike$Text", "readLine", "(LFinedAlike$Town;)V"⟩, 7) := ⟨⟨by decide +kernel, by decide +kernel⟩, List.mem_of_getElem? (i := 122) (by decide +kernel), List.mem_of_getElem? (i := 526) (by decide +kernel), List.mem_of_getElem? (i := 527) (by decide +kernel)⟩
theorem lw_p19 : lw_okq (⟨"FinedAlike$Text", "readRich", "(LFinedAlike$Town;)V"⟩, 7) := ⟨⟨by decide +kernel, by decide +kernel⟩, List.mem_of_getElem? (i := 122) (by decide +kernel), List.mem_of_getElem? (i := 531) (by decide +kernel), List.mem_of_getElem? (i := 532) (by decide +kernel)⟩
theorem lw_p20 : lw_okq (⟨"FinedAlike$Text", "readDoes", "(LFinedAlike$Town;)V"⟩, 7) := ⟨⟨by decide +kernel, by decide +kernel⟩, List.mem_of_getElem? (i := 122) (by decide +kernel), List.mem_of_getElem? (i := 536) (by decide +kernel), List.mem_of_getElem? (i := 537) (by decide +kernel)⟩
theorem lw_p21 : lw_okq (⟨"FinedAlike$Text", "readNeed", "(LFinedAlike$Town;)V"⟩, 7) := ⟨⟨by decide +kernel, by decide +kernel⟩, List.mem_of_getElem? (i := 122) (by decide +kernel), List.mem_of_getElem? (i := 542) (by decide +kernel), List.mem_of_getElem? (i := 543) (by decide +kernel)⟩
theorem lw_p22 : lw_okq (⟨"FinedAlike$Court", "isFined", "(II)Z"⟩, 6) := ⟨⟨by decide +kernel, by decide +kernel⟩, List.mem_of_getElem? (i := 153) (by decide +kernel), List.mem_of_getElem? (i := 581) (by decide +kernel), List.mem_of_getElem? (i := 582) (by decide +kernel)⟩
theorem lw_p23 : lw_okq (⟨"FinedAlike$Court", "boughtBy", "(II)I"⟩, 6) := ⟨⟨by decide +kernel, by decide +kernel⟩, List.mem_of_getElem? (i := 153) (by decide +kernel), List.mem_of_getElem? (i := 585) (by decide +kernel), List.mem_of_getElem? (i := 586) (by decide +kernel)⟩
theorem lw_p24 : lw_okq (⟨"FinedAlike$Court", "wasDone", "([III)Z"⟩, 6) := ⟨⟨by decide +kernel, by decide +kernel⟩, List.mem_of_getElem? (i := 153) (by decide +kernel), List.mem_of_getElem? (i := 589) (by decide +kernel), List.mem_of_getElem? (i := 590) (by decide +kernel)⟩
theorem lw_p25 : lw_okq (⟨"FinedAlike", "allFines", "(I)I"⟩, 14) := ⟨⟨by decide +kernel, by decide +kernel⟩, List.mem_of_getElem? (i := 16) (by decide +kernel), List.mem_of_getElem? (i := 597) (by decide +kernel), List.mem_of_getElem? (i := 598) (by decide +kernel)⟩
theorem lw_p26 : lw_okq (⟨"FinedAlike$Court", "finesOfHour", "(I[I[I)I"⟩, 6) := ⟨⟨by decide +kernel, by decide +kernel⟩, List.mem_of_getElem? (i := 153) (by decide +kernel), List.mem_of_getElem? (i := 605) (by decide +kernel), List.mem_of_getElem? (i := 606) (by decide +kernel)⟩
theorem lw_p27 : lw_okq (⟨"FinedAlike$Days", "writeRows", "(LFinedAlike$Town;I)V"⟩, 13) := ⟨⟨by decide +kernel, by decide +kernel⟩, List.mem_of_getElem? (i := 180) (by decide +kernel), List.mem_of_getElem? (i := 617) (by decide +kernel), List.mem_of_getElem? (i := 618) (by decide +kernel)⟩
theorem lw_p28 : lw_okq (⟨"FinedAlike$Days", "writeRowsOf", "(LFinedAlike$Town;II)V"⟩, 13) := ⟨⟨by decide +kernel, by decide +kernel⟩, List.mem_of_getElem? (i := 180) (by decide +kernel), List.mem_of_getElem? (i := 622) (by decide +kernel), List.mem_of_getElem? (i := 623) (by decide +kernel)⟩
theorem lw_p29 : lw_okq (⟨"FinedAlike$Days", "writeFirstRow", "(LFinedAlike$Town;II)V"⟩, 13) := ⟨⟨by decide +kernel, by decide +kernel⟩, List.mem_of_getElem? (i := 180) (by decide +kernel), List.mem_of_getElem? (i := 626) (by decide +kernel), List.mem_of_getElem? (i := 627) (by decide +kernel)⟩
theorem lw_p30 : lw_okq (⟨"FinedAlike$Days", "waysTogether", "(LFinedAlike$Town;)J"⟩, 13) := ⟨⟨by decide +kernel, by decide +kernel⟩, List.mem_of_getElem? (i := 180) (by decide +kernel), List.mem_of_getElem? (i := 638) (by decide +kernel), List.mem_of_getElem? (i := 639) (by decide +kernel)⟩
theorem lw_p31 : lw_okq (⟨"FinedAlike$Days", "search", "(LFinedAlike$Town;LFinedAlike$Court;II)I"⟩, 13) := ⟨⟨by decide +kernel, by decide +kernel⟩, List.mem_of_getElem? (i := 180) (by decide +kernel), List.mem_of_getElem? (i := 644) (by decide +kernel), List.mem_of_getElem? (i := 645) (by decide +kernel)⟩
def lw_privs_2 : List (MethodName × Nat) := [(⟨"FinedAlike$Text", "readHours", "(LFinedAlike$Town;)V"⟩, 7), (⟨"FinedAlike$Text", "readHour", "(LFinedAlike$Town;)V"⟩, 7), (⟨"FinedAlike$Text", "readLine", "(LFinedAlike$Town;)V"⟩, 7), (⟨"FinedAlike$Text", "readRich", "(LFinedAlike$Town;)V"⟩, 7), (⟨"FinedAlike$Text", "readDoes", "(LFinedAlike$Town;)V"⟩, 7), (⟨"FinedAlike$Text", "readNeed", "(LFinedAlike$Town;)V"⟩, 7), (⟨"FinedAlike$Court", "isFined", "(II)Z"⟩, 6), (⟨"FinedAlike$Court", "boughtBy", "(II)I"⟩, 6), (⟨"FinedAlike$Court", "wasDone", "([III)Z"⟩, 6), (⟨"FinedAlike", "allFines", "(I)I"⟩, 14), (⟨"FinedAlike$Court", "finesOfHour", "(I[I[I)I"⟩, 6), (⟨"FinedAlike$Days", "writeRows", "(LFinedAlike$Town;I)V"⟩, 13), (⟨"FinedAlike$Days", "writeRowsOf", "(LFinedAlike$Town;II)V"⟩, 13), (⟨"FinedAlike$Days", "writeFirstRow", "(LFinedAlike$Town;II)V"⟩, 13), (⟨"FinedAlike$Days", "waysTogether", "(LFinedAlike$Town;)J"⟩, 13), (⟨"FinedAlike$Days", "search", "(LFinedAlike$Town;LFinedAlike$Court;II)I"⟩, 13)]
theorem lw_r2 : ∀ q ∈ lw_privs_2, lw_okq q := List.forall_mem_cons.mpr ⟨lw_p16, List.forall_mem_cons.mpr ⟨lw_p17, List.forall_mem_cons.mpr ⟨lw_p18, List.forall_mem_cons.mpr ⟨lw_p19, List.forall_mem_cons.mpr ⟨lw_p20, List.forall_mem_cons.mpr ⟨lw_p21, List.forall_mem_cons.mpr ⟨lw_p22, List.forall_mem_cons.mpr ⟨lw_p23, List.forall_mem_cons.mpr ⟨lw_p24, List.forall_mem_cons.mpr ⟨lw_p25, List.forall_mem_cons.mpr ⟨lw_p26, List.forall_mem_cons.mpr ⟨lw_p27, List.forall_mem_cons.mpr ⟨lw_p28, List.forall_mem_cons.mpr ⟨lw_p29, List.forall_mem_cons.mpr ⟨lw_p30, List.forall_mem_cons.mpr ⟨lw_p31, fun _ h => absurd h List.not_mem_nil⟩⟩⟩⟩⟩⟩⟩⟩⟩⟩⟩⟩⟩⟩⟩⟩
theorem lw_p32 : lw_okq (⟨"FinedAlike$Days", "clearDay", "()V"⟩, 13) := ⟨⟨by decide +kernel, by decide +kernel⟩, List.mem_of_getElem? (i := 180) (by decide +kernel), List.mem_of_getElem? (i := 648) (by decide +kernel), List.mem_of_getElem? (i := 649) (by decide +kernel)⟩
theorem lw_p33 : lw_okq (⟨"FinedAlike$Days", "liftRow", "(I)V"⟩, 13) := ⟨⟨by decide +kernel, by decide +kernel⟩, List.mem_of_getElem? (i := 180) (by decide +kernel), List.mem_of_getElem? (i := 652) (by decide +kernel), List.mem_of_getElem? (i := 653) (by decide +kernel)⟩
theorem lw_p34 : lw_okq (⟨"FinedAlike$Days", "startPerson", "(LFinedAlike$Town;LFinedAlike$Court;III)V"⟩, 13) := ⟨⟨by decide +kernel, by decide +kernel⟩, List.mem_of_getElem? (i := 180) (by decide +kernel), List.mem_of_getElem? (i := 656) (by decide +kernel), List.mem_of_getElem? (i := 657) (by decide +kernel)⟩
theorem lw_p35 : lw_okq (⟨"FinedAlike$Days", "setPricesToAll", "(LFinedAlike$Town;LFinedAlike$Court;II)V"⟩, 13) := ⟨⟨by decide +kernel, by decide +kernel⟩, List.mem_of_getElem? (i := 180) (by decide +kernel), List.mem_of_getElem? (i := 660) (by decide +kernel), List.mem_of_getElem? (i := 661) (by decide +kernel)⟩
theorem lw_p36 : lw_okq (⟨"FinedAlike$Court", "othersWith", "(I[III)I"⟩, 6) := ⟨⟨by decide +kernel, by decide +kernel⟩, List.mem_of_getElem? (i := 153) (by decide +kernel), List.mem_of_getElem? (i := 670) (by decide +kernel), List.mem_of_getElem? (i := 671) (by decide +kernel)⟩
theorem lw_p37 : lw_okq (⟨"FinedAlike$Court", "addedToCopies", "([I[III)I"⟩, 6) := ⟨⟨by decide +kernel, by decide +kernel⟩, List.mem_of_getElem? (i := 153) (by decide +kernel), List.mem_of_getElem? (i := 674) (by decide +kernel), List.mem_of_getElem? (i := 675) (by decide +kernel)⟩
theorem lw_p38 : lw_okq (⟨"FinedAlike$Days", "priceOfRow", "(III)I"⟩, 13) := ⟨⟨by decide +kernel, by decide +kernel⟩, List.mem_of_getElem? (i := 180) (by decide +kernel), List.mem_of_getElem? (i := 678) (by decide +kernel), List.mem_of_getElem? (i := 679) (by decide +kernel)⟩
theorem lw_p39 : lw_okq (⟨"FinedAlike$Days", "layRow", "(III)V"⟩, 13) := ⟨⟨by decide +kernel, by decide +kernel⟩, List.mem_of_getElem? (i := 180) (by decide +kernel), List.mem_of_getElem? (i := 682) (by decide +kernel), List.mem_of_getElem? (i := 683) (by decide +kernel)⟩
theorem lw_p40 : lw_okq (⟨"FinedAlike$Days", "finesInOrder", "(LFinedAlike$Town;LFinedAlike$Court;)I"⟩, 13) := ⟨⟨by decide +kernel, by decide +kernel⟩, List.mem_of_getElem? (i := 180) (by decide +kernel), List.mem_of_getElem? (i := 705) (by decide +kernel), List.mem_of_getElem? (i := 706) (by decide +kernel)⟩
theorem lw_p41 : lw_okq (⟨"FinedAlike$Days", "setPrices", "(LFinedAlike$Town;LFinedAlike$Court;I)V"⟩, 13) := ⟨⟨by decide +kernel, by decide +kernel⟩, List.mem_of_getElem? (i := 180) (by decide +kernel), List.mem_of_getElem? (i := 709) (by decide +kernel), List.mem_of_getElem? (i := 710) (by decide +kernel)⟩
theorem lw_p42 : lw_okq (⟨"FinedAlike$Days", "bestRow", "(II)I"⟩, 13) := ⟨⟨by decide +kernel, by decide +kernel⟩, List.mem_of_getElem? (i := 180) (by decide +kernel), List.mem_of_getElem? (i := 716) (by decide +kernel), List.mem_of_getElem? (i := 717) (by decide +kernel)⟩
theorem lw_p43 : lw_okq (⟨"FinedAlike$Days", "anyoneChanges", "(LFinedAlike$Town;LFinedAlike$Court;)Z"⟩, 13) := ⟨⟨by decide +kernel, by decide +kernel⟩, List.mem_of_getElem? (i := 180) (by decide +kernel), List.mem_of_getElem? (i := 737) (by decide +kernel), List.mem_of_getElem? (i := 738) (by decide +kernel)⟩
theorem lw_p44 : lw_okq (⟨"FinedAlike$Days", "priceOfNow", "(II)I"⟩, 13) := ⟨⟨by decide +kernel, by decide +kernel⟩, List.mem_of_getElem? (i := 180) (by decide +kernel), List.mem_of_getElem? (i := 741) (by decide +kernel), List.mem_of_getElem? (i := 742) (by decide +kernel)⟩
theorem lw_p45 : lw_okq (⟨"FinedAlike", "finesOfOne", "(I)I"⟩, 14) := ⟨⟨by decide +kernel, by decide +kernel⟩, List.mem_of_getElem? (i := 16) (by decide +kernel), List.mem_of_getElem? (i := 758) (by decide +kernel), List.mem_of_getElem? (i := 759) (by decide +kernel)⟩
theorem lw_p46 : lw_okq (⟨"FinedAlike$Past", "mayHavePaid", "(LFinedAlike$Town;LFinedAlike$Court;II)Z"⟩, 6) := ⟨⟨by decide +kernel, by decide +kernel⟩, List.mem_of_getElem? (i := 230) (by decide +kernel), List.mem_of_getElem? (i := 786) (by decide +kernel), List.mem_of_getElem? (i := 787) (by decide +kernel)⟩
theorem lw_p47 : lw_okq (⟨"FinedAlike$Past", "countWay", "()V"⟩, 6) := ⟨⟨by decide +kernel, by decide +kernel⟩, List.mem_of_getElem? (i := 230) (by decide +kernel), List.mem_of_getElem? (i := 795) (by decide +kernel), List.mem_of_getElem? (i := 796) (by decide +kernel)⟩
def lw_privs_3 : List (MethodName × Nat) := [(⟨"FinedAlike$Days", "clearDay", "()V"⟩, 13), (⟨"FinedAlike$Days", "liftRow", "(I)V"⟩, 13), (⟨"FinedAlike$Days", "startPerson", "(LFinedAlike$Town;LFinedAlike$Court;III)V"⟩, 13), (⟨"FinedAlike$Days", "setPricesToAll", "(LFinedAlike$Town;LFinedAlike$Court;II)V"⟩, 13), (⟨"FinedAlike$Court", "othersWith", "(I[III)I"⟩, 6), (⟨"FinedAlike$Court", "addedToCopies", "([I[III)I"⟩, 6), (⟨"FinedAlike$Days", "priceOfRow", "(III)I"⟩, 13), (⟨"FinedAlike$Days", "layRow", "(III)V"⟩, 13), (⟨"FinedAlike$Days", "finesInOrder", "(LFinedAlike$Town;LFinedAlike$Court;)I"⟩, 13), (⟨"FinedAlike$Days", "setPrices", "(LFinedAlike$Town;LFinedAlike$Court;I)V"⟩, 13), (⟨"FinedAlike$Days", "bestRow", "(II)I"⟩, 13), (⟨"FinedAlike$Days", "anyoneChanges", "(LFinedAlike$Town;LFinedAlike$Court;)Z"⟩, 13), (⟨"FinedAlike$Days", "priceOfNow", "(II)I"⟩, 13), (⟨"FinedAlike", "finesOfOne", "(I)I"⟩, 14), (⟨"FinedAlike$Past", "mayHavePaid", "(LFinedAlike$Town;LFinedAlike$Court;II)Z"⟩, 6), (⟨"FinedAlike$Past", "countWay", "()V"⟩, 6)]
theorem lw_r3 : ∀ q ∈ lw_privs_3, lw_okq q := List.forall_mem_cons.mpr ⟨lw_p32, List.forall_mem_cons.mpr ⟨lw_p33, List.forall_mem_cons.mpr ⟨lw_p34, List.forall_mem_cons.mpr ⟨lw_p35, List.forall_mem_cons.mpr ⟨lw_p36, List.forall_mem_cons.mpr ⟨lw_p37, List.forall_mem_cons.mpr ⟨lw_p38, List.forall_mem_cons.mpr ⟨lw_p39, List.forall_mem_cons.mpr ⟨lw_p40, List.forall_mem_cons.mpr ⟨lw_p41, List.forall_mem_cons.mpr ⟨lw_p42, List.forall_mem_cons.mpr ⟨lw_p43, List.forall_mem_cons.mpr ⟨lw_p44, List.forall_mem_cons.mpr ⟨lw_p45, List.forall_mem_cons.mpr ⟨lw_p46, List.forall_mem_cons.mpr ⟨lw_p47, fun _ h => absurd h List.not_mem_nil⟩⟩⟩⟩⟩⟩⟩⟩⟩⟩⟩⟩⟩⟩⟩⟩
theorem lw_p48 : lw_okq (⟨"FinedAlike", "timesCopied", "(II)I"⟩, 14) := ⟨⟨by decide +kernel, by decide +kernel⟩, List.mem_of_getElem? (i := 16) (by decide +kernel), List.mem_of_getElem? (i := 804) (by decide +kernel), List.mem_of_getElem? (i := 805) (by decide +kernel)⟩
theorem lw_p49 : lw_okq (⟨"FinedAlike", "amount", "(I)I"⟩, 14) := ⟨⟨by decide +kernel, by decide +kernel⟩, List.mem_of_getElem? (i := 16) (by decide +kernel), List.mem_of_getElem? (i := 841) (by decide +kernel), List.mem_of_getElem? (i := 842) (by decide +kernel)⟩
theorem lw_p50 : lw_okq (⟨"FinedAlike", "digestWith", "(JI)J"⟩, 14) := ⟨⟨by decide +kernel, by decide +kernel⟩, List.mem_of_getElem? (i := 16) (by decide +kernel), List.mem_of_getElem? (i := 851) (by decide +kernel), List.mem_of_getElem? (i := 852) (by decide +kernel)⟩
theorem lw_p51 : lw_okq (⟨"FinedAlikeModel", "isThing", "(I)Z"⟩, 25) := ⟨⟨by decide +kernel, by decide +kernel⟩, List.mem_of_getElem? (i := 855) (by decide +kernel), List.mem_of_getElem? (i := 944) (by decide +kernel), List.mem_of_getElem? (i := 945) (by decide +kernel)⟩
theorem lw_p52 : lw_okq (⟨"FinedAlikeModel", "things", "()I"⟩, 25) := ⟨⟨by decide +kernel, by decide +kernel⟩, List.mem_of_getElem? (i := 855) (by decide +kernel), List.mem_of_getElem? (i := 948) (by decide +kernel), List.mem_of_getElem? (i := 949) (by decide +kernel)⟩
theorem lw_p53 : lw_okq (⟨"FinedAlikeModel", "bad", "(I)I"⟩, 25) := ⟨⟨by decide +kernel, by decide +kernel⟩, List.mem_of_getElem? (i := 855) (by decide +kernel), List.mem_of_getElem? (i := 955) (by decide +kernel), List.mem_of_getElem? (i := 956) (by decide +kernel)⟩
theorem lw_p54 : lw_okq (⟨"FinedAlikeModel", "full", "()I"⟩, 25) := ⟨⟨by decide +kernel, by decide +kernel⟩, List.mem_of_getElem? (i := 855) (by decide +kernel), List.mem_of_getElem? (i := 959) (by decide +kernel), List.mem_of_getElem? (i := 960) (by decide +kernel)⟩
theorem lw_p55 : lw_okq (⟨"FinedAlikeModel", "isHour", "(I)Z"⟩, 25) := ⟨⟨by decide +kernel, by decide +kernel⟩, List.mem_of_getElem? (i := 855) (by decide +kernel), List.mem_of_getElem? (i := 972) (by decide +kernel), List.mem_of_getElem? (i := 973) (by decide +kernel)⟩
theorem lw_p56 : lw_okq (⟨"FinedAlikeModel", "hours", "()I"⟩, 25) := ⟨⟨by decide +kernel, by decide +kernel⟩, List.mem_of_getElem? (i := 855) (by decide +kernel), List.mem_of_getElem? (i := 976) (by decide +kernel), List.mem_of_getElem? (i := 977) (by decide +kernel)⟩
theorem lw_p57 : lw_okq (⟨"FinedAlikeModel", "isOne", "(I)Z"⟩, 25) := ⟨⟨by decide +kernel, by decide +kernel⟩, List.mem_of_getElem? (i := 855) (by decide +kernel), List.mem_of_getElem? (i := 981) (by decide +kernel), List.mem_of_getElem? (i := 982) (by decide +kernel)⟩
theorem lw_p58 : lw_okq (⟨"FinedAlikeModel", "people", "()I"⟩, 25) := ⟨⟨by decide +kernel, by decide +kernel⟩, List.mem_of_getElem? (i := 855) (by decide +kernel), List.mem_of_getElem? (i := 985) (by decide +kernel), List.mem_of_getElem? (i := 986) (by decide +kernel)⟩
theorem lw_p59 : lw_okq (⟨"FinedAlikeModel", "no", "()I"⟩, 25) := ⟨⟨by decide +kernel, by decide +kernel⟩, List.mem_of_getElem? (i := 855) (by decide +kernel), List.mem_of_getElem? (i := 997) (by decide +kernel), List.mem_of_getElem? (i := 998) (by decide +kernel)⟩
theorem lw_p60 : lw_okq (⟨"FinedAlikeModel", "layNow", "()V"⟩, 25) := ⟨⟨by decide +kernel, by decide +kernel⟩, List.mem_of_getElem? (i := 855) (by decide +kernel), List.mem_of_getElem? (i := 1012) (by decide +kernel), List.mem_of_getElem? (i := 1013) (by decide +kernel)⟩
theorem lw_p61 : lw_okq (⟨"FinedAlikeModel", "layLine", "(II)V"⟩, 25) := ⟨⟨by decide +kernel, by decide +kernel⟩, List.mem_of_getElem? (i := 855) (by decide +kernel), List.mem_of_getElem? (i := 1016) (by decide +kernel), List.mem_of_getElem? (i := 1017) (by decide +kernel)⟩
theorem lw_p62 : lw_okq (⟨"FinedAlikeModel", "depth", "(I)I"⟩, 25) := ⟨⟨by decide +kernel, by decide +kernel⟩, List.mem_of_getElem? (i := 855) (by decide +kernel), List.mem_of_getElem? (i := 1020) (by decide +kernel), List.mem_of_getElem? (i := 1021) (by decide +kernel)⟩
theorem lw_p63 : lw_okq (⟨"FinedAlikeModel", "takeDone", "()V"⟩, 25) := ⟨⟨by decide +kernel, by decide +kernel⟩, List.mem_of_getElem? (i := 855) (by decide +kernel), List.mem_of_getElem? (i := 1028) (by decide +kernel), List.mem_of_getElem? (i := 1029) (by decide +kernel)⟩
def lw_privs_4 : List (MethodName × Nat) := [(⟨"FinedAlike", "timesCopied", "(II)I"⟩, 14), (⟨"FinedAlike", "amount", "(I)I"⟩, 14), (⟨"FinedAlike", "digestWith", "(JI)J"⟩, 14), (⟨"FinedAlikeModel", "isThing", "(I)Z"⟩, 25), (⟨"FinedAlikeModel", "things", "()I"⟩, 25), (⟨"FinedAlikeModel", "bad", "(I)I"⟩, 25), (⟨"FinedAlikeModel", "full", "()I"⟩, 25), (⟨"FinedAlikeModel", "isHour", "(I)Z"⟩, 25), (⟨"FinedAlikeModel", "hours", "()I"⟩, 25), (⟨"FinedAlikeModel", "isOne", "(I)Z"⟩, 25), (⟨"FinedAlikeModel", "people", "()I"⟩, 25), (⟨"FinedAlikeModel", "no", "()I"⟩, 25), (⟨"FinedAlikeModel", "layNow", "()V"⟩, 25), (⟨"FinedAlikeModel", "layLine", "(II)V"⟩, 25), (⟨"FinedAlikeModel", "depth", "(I)I"⟩, 25), (⟨"FinedAlikeModel", "takeDone", "()V"⟩, 25)]
theorem lw_r4 : ∀ q ∈ lw_privs_4, lw_okq q := List.forall_mem_cons.mpr ⟨lw_p48, List.forall_mem_cons.mpr ⟨lw_p49, List.forall_mem_cons.mpr ⟨lw_p50, List.forall_mem_cons.mpr ⟨lw_p51, List.forall_mem_cons.mpr ⟨lw_p52, List.forall_mem_cons.mpr ⟨lw_p53, List.forall_mem_cons.mpr ⟨lw_p54, List.forall_mem_cons.mpr ⟨lw_p55, List.forall_mem_cons.mpr ⟨lw_p56, List.forall_mem_cons.mpr ⟨lw_p57, List.forall_mem_cons.mpr ⟨lw_p58, List.forall_mem_cons.mpr ⟨lw_p59, List.forall_mem_cons.mpr ⟨lw_p60, List.forall_mem_cons.mpr ⟨lw_p61, List.forall_mem_cons.mpr ⟨lw_p62, List.forall_mem_cons.mpr ⟨lw_p63, fun _ h => absurd h List.not_mem_nil⟩⟩⟩⟩⟩⟩⟩⟩⟩⟩⟩⟩⟩⟩⟩⟩
theorem lw_p64 : lw_okq (⟨"FinedAlikeModel", "paysOf", "(II)I"⟩, 25) := ⟨⟨by decide +kernel, by decide +kernel⟩, List.mem_of_getElem? (i := 855) (by decide +kernel), List.mem_of_getElem? (i := 1032) (by decide +kernel), List.mem_of_getElem? (i := 1033) (by decide +kernel)⟩
theorem lw_p65 : lw_okq (⟨"FinedAlikeModel", "doing", "(II)I"⟩, 25) := ⟨⟨by decide +kernel, by decide +kernel⟩, List.mem_of_getElem? (i := 855) (by decide +kernel), List.mem_of_getElem? (i := 1036) (by decide +kernel), List.mem_of_getElem? (i := 1037) (by decide +kernel)⟩
theorem lw_p66 : lw_okq (⟨"FinedAlikeModel", "isWith", "(IIIZ)Z"⟩, 25) := ⟨⟨by decide +kernel, by decide +kernel⟩, List.mem_of_getElem? (i := 855) (by decide +kernel), List.mem_of_getElem? (i := 1040) (by decide +kernel), List.mem_of_getElem? (i := 1041) (by decide +kernel)⟩
theorem lw_p67 : lw_okq (⟨"FinedAlikeModel", "wasDone", "(II)Z"⟩, 25) := ⟨⟨by decide +kernel, by decide +kernel⟩, List.mem_of_getElem? (i := 855) (by decide +kernel), List.mem_of_getElem? (i := 1044) (by decide +kernel), List.mem_of_getElem? (i := 1045) (by decide +kernel)⟩
theorem lw_p68 : lw_okq (⟨"FinedAlikeModel", "allIn", "(I)I"⟩, 25) := ⟨⟨by decide +kernel, by decide +kernel⟩, List.mem_of_getElem? (i := 855) (by decide +kernel), List.mem_of_getElem? (i := 1052) (by decide +kernel), List.mem_of_getElem? (i := 1053) (by decide +kernel)⟩
theorem lw_p69 : lw_okq (⟨"FinedAlikeModel", "paysIn", "(II)I"⟩, 25) := ⟨⟨by decide +kernel, by decide +kernel⟩, List.mem_of_getElem? (i := 855) (by decide +kernel), List.mem_of_getElem? (i := 1056) (by decide +kernel), List.mem_of_getElem? (i := 1057) (by decide +kernel)⟩
theorem lw_p70 : lw_okq (⟨"FinedAlikeModel", "findAllRows", "(I)V"⟩, 25) := ⟨⟨by decide +kernel, by decide +kernel⟩, List.mem_of_getElem? (i := 855) (by decide +kernel), List.mem_of_getElem? (i := 1064) (by decide +kernel), List.mem_of_getElem? (i := 1065) (by decide +kernel)⟩
theorem lw_p71 : lw_okq (⟨"FinedAlikeModel", "findRows", "(II)V"⟩, 25) := ⟨⟨by decide +kernel, by decide +kernel⟩, List.mem_of_getElem? (i := 855) (by decide +kernel), List.mem_of_getElem? (i := 1068) (by decide +kernel), List.mem_of_getElem? (i := 1069) (by decide +kernel)⟩
theorem lw_p72 : lw_okq (⟨"FinedAlikeModel", "takeNeeds", "(II)V"⟩, 25) := ⟨⟨by decide +kernel, by decide +kernel⟩, List.mem_of_getElem? (i := 855) (by decide +kernel), List.mem_of_getElem? (i := 1072) (by decide +kernel), List.mem_of_getElem? (i := 1073) (by decide +kernel)⟩
theorem lw_p73 : lw_okq (⟨"FinedAlikeModel", "keepRow", "(II)V"⟩, 25) := ⟨⟨by decide +kernel, by decide +kernel⟩, List.mem_of_getElem? (i := 855) (by decide +kernel), List.mem_of_getElem? (i := 1076) (by decide +kernel), List.mem_of_getElem? (i := 1077) (by decide +kernel)⟩
theorem lw_p74 : lw_okq (⟨"FinedAlikeModel", "ways", "()J"⟩, 25) := ⟨⟨by decide +kernel, by decide +kernel⟩, List.mem_of_getElem? (i := 855) (by decide +kernel), List.mem_of_getElem? (i := 1080) (by decide +kernel), List.mem_of_getElem? (i := 1081) (by decide +kernel)⟩
theorem lw_p75 : lw_okq (⟨"FinedAlikeModel", "findLeast", "(I)I"⟩, 25) := ⟨⟨by decide +kernel, by decide +kernel⟩, List.mem_of_getElem? (i := 855) (by decide +kernel), List.mem_of_getElem? (i := 1085) (by decide +kernel), List.mem_of_getElem? (i := 1086) (by decide +kernel)⟩
theorem lw_p76 : lw_okq (⟨"FinedAlikeModel", "takeNothing", "()V"⟩, 25) := ⟨⟨by decide +kernel, by decide +kernel⟩, List.mem_of_getElem? (i := 855) (by decide +kernel), List.mem_of_getElem? (i := 1089) (by decide +kernel), List.mem_of_getElem? (i := 1090) (by decide +kernel)⟩
theorem lw_p77 : lw_okq (⟨"FinedAlikeModel", "takeRow", "(III)V"⟩, 25) := ⟨⟨by decide +kernel, by decide +kernel⟩, List.mem_of_getElem? (i := 855) (by decide +kernel), List.mem_of_getElem? (i := 1094) (by decide +kernel), List.mem_of_getElem? (i := 1095) (by decide +kernel)⟩
theorem lw_p78 : lw_okq (⟨"FinedAlikeModel", "layOrder", "(I)Z"⟩, 25) := ⟨⟨by decide +kernel, by decide +kernel⟩, List.mem_of_getElem? (i := 855) (by decide +kernel), List.mem_of_getElem? (i := 1106) (by decide +kernel), List.mem_of_getElem? (i := 1107) (by decide +kernel)⟩
theorem lw_p79 : lw_okq (⟨"FinedAlikeModel", "listed", "()I"⟩, 25) := ⟨⟨by decide +kernel, by decide +kernel⟩, List.mem_of_getElem? (i := 855) (by decide +kernel), List.mem_of_getElem? (i := 1110) (by decide +kernel), List.mem_of_getElem? (i := 1111) (by decide +kernel)⟩
def lw_privs_5 : List (MethodName × Nat) := [(⟨"FinedAlikeModel", "paysOf", "(II)I"⟩, 25), (⟨"FinedAlikeModel", "doing", "(II)I"⟩, 25), (⟨"FinedAlikeModel", "isWith", "(IIIZ)Z"⟩, 25), (⟨"FinedAlikeModel", "wasDone", "(II)Z"⟩, 25), (⟨"FinedAlikeModel", "allIn", "(I)I"⟩, 25), (⟨"FinedAlikeModel", "paysIn", "(II)I"⟩, 25), (⟨"FinedAlikeModel", "findAllRows", "(I)V"⟩, 25), (⟨"FinedAlikeModel", "findRows", "(II)V"⟩, 25), (⟨"FinedAlikeModel", "takeNeeds", "(II)V"⟩, 25), (⟨"FinedAlikeModel", "keepRow", "(II)V"⟩, 25), (⟨"FinedAlikeModel", "ways", "()J"⟩, 25), (⟨"FinedAlikeModel", "findLeast", "(I)I"⟩, 25), (⟨"FinedAlikeModel", "takeNothing", "()V"⟩, 25), (⟨"FinedAlikeModel", "takeRow", "(III)V"⟩, 25), (⟨"FinedAlikeModel", "layOrder", "(I)Z"⟩, 25), (⟨"FinedAlikeModel", "listed", "()I"⟩, 25)]
theorem lw_r5 : ∀ q ∈ lw_privs_5, lw_okq q := List.forall_mem_cons.mpr ⟨lw_p64, List.forall_mem_cons.mpr ⟨lw_p65, List.forall_mem_cons.mpr ⟨lw_p66, List.forall_mem_cons.mpr ⟨lw_p67, List.forall_mem_cons.mpr ⟨lw_p68, List.forall_mem_cons.mpr ⟨lw_p69, List.forall_mem_cons.mpr ⟨lw_p70, List.forall_mem_cons.mpr ⟨lw_p71, List.forall_mem_cons.mpr ⟨lw_p72, List.forall_mem_cons.mpr ⟨lw_p73, List.forall_mem_cons.mpr ⟨lw_p74, List.forall_mem_cons.mpr ⟨lw_p75, List.forall_mem_cons.mpr ⟨lw_p76, List.forall_mem_cons.mpr ⟨lw_p77, List.forall_mem_cons.mpr ⟨lw_p78, List.forall_mem_cons.mpr ⟨lw_p79, fun _ h => absurd h List.not_mem_nil⟩⟩⟩⟩⟩⟩⟩⟩⟩⟩⟩⟩⟩⟩⟩⟩
theorem lw_p80 : lw_okq (⟨"FinedAlikeModel", "takeBest", "(I)I"⟩, 25) := ⟨⟨by decide +kernel, by decide +kernel⟩, List.mem_of_getElem? (i := 855) (by decide +kernel), List.mem_of_getElem? (i := 1114) (by decide +kernel), List.mem_of_getElem? (i := 1115) (by decide +kernel)⟩
theorem lw_p81 : lw_okq (⟨"FinedAlikeModel", "changes", "(I)Z"⟩, 25) := ⟨⟨by decide +kernel, by decide +kernel⟩, List.mem_of_getElem? (i := 855) (by decide +kernel), List.mem_of_getElem? (i := 1122) (by decide +kernel), List.mem_of_getElem? (i := 1123) (by decide +kernel)⟩
theorem lw_p82 : lw_okq (⟨"FinedAlikeModel", "pay", "(I)Z"⟩, 25) := ⟨⟨by decide +kernel, by decide +kernel⟩, List.mem_of_getElem? (i := 855) (by decide +kernel), List.mem_of_getElem? (i := 1151) (by decide +kernel), List.mem_of_getElem? (i := 1152) (by decide +kernel)⟩
theorem lw_p83 : lw_okq (⟨"FinedAlikeModel", "look", "(I)V"⟩, 25) := ⟨⟨by decide +kernel, by decide +kernel⟩, List.mem_of_getElem? (i := 855) (by decide +kernel), List.mem_of_getElem? (i := 1179) (by decide +kernel), List.mem_of_getElem? (i := 1180) (by decide +kernel)⟩
theorem lw_p84 : lw_okq (⟨"FinedAlikeModel", "readsItem", "()Z"⟩, 25) := ⟨⟨by decide +kernel, by decide +kernel⟩, List.mem_of_getElem? (i := 855) (by decide +kernel), List.mem_of_getElem? (i := 1193) (by decide +kernel), List.mem_of_getElem? (i := 1194) (by decide +kernel)⟩
theorem lw_p85 : lw_okq (⟨"FinedAlikeModel", "isWord", "(IIIIII)Z"⟩, 25) := ⟨⟨by decide +kernel, by decide +kernel⟩, List.mem_of_getElem? (i := 855) (by decide +kernel), List.mem_of_getElem? (i := 1197) (by decide +kernel), List.mem_of_getElem? (i := 1198) (by decide +kernel)⟩
theorem lw_p86 : lw_okq (⟨"FinedAlikeModel", "readsThing", "()Z"⟩, 25) := ⟨⟨by decide +kernel, by decide +kernel⟩, List.mem_of_getElem? (i := 855) (by decide +kernel), List.mem_of_getElem? (i := 1201) (by decide +kernel), List.mem_of_getElem? (i := 1202) (by decide +kernel)⟩
theorem lw_p87 : lw_okq (⟨"FinedAlikeModel", "goOn", "()V"⟩, 25) := ⟨⟨by decide +kernel, by decide +kernel⟩, List.mem_of_getElem? (i := 855) (by decide +kernel), List.mem_of_getElem? (i := 1205) (by decide +kernel), List.mem_of_getElem? (i := 1206) (by decide +kernel)⟩
theorem lw_p88 : lw_okq (⟨"FinedAlikeModel", "takes", "(III)Z"⟩, 25) := ⟨⟨by decide +kernel, by decide +kernel⟩, List.mem_of_getElem? (i := 855) (by decide +kernel), List.mem_of_getElem? (i := 1209) (by decide +kernel), List.mem_of_getElem? (i := 1210) (by decide +kernel)⟩
theorem lw_p89 : lw_okq (⟨"FinedAlikeModel", "readsSize", "(I)Z"⟩, 25) := ⟨⟨by decide +kernel, by decide +kernel⟩, List.mem_of_getElem? (i := 855) (by decide +kernel), List.mem_of_getElem? (i := 1213) (by decide +kernel), List.mem_of_getElem? (i := 1214) (by decide +kernel)⟩
theorem lw_p90 : lw_okq (⟨"FinedAlikeModel", "readsHour", "()Z"⟩, 25) := ⟨⟨by decide +kernel, by decide +kernel⟩, List.mem_of_getElem? (i := 855) (by decide +kernel), List.mem_of_getElem? (i := 1217) (by decide +kernel), List.mem_of_getElem? (i := 1218) (by decide +kernel)⟩
theorem lw_p91 : lw_okq (⟨"FinedAlikeModel", "readsDoes", "()Z"⟩, 25) := ⟨⟨by decide +kernel, by decide +kernel⟩, List.mem_of_getElem? (i := 855) (by decide +kernel), List.mem_of_getElem? (i := 1221) (by decide +kernel), List.mem_of_getElem? (i := 1222) (by decide +kernel)⟩
theorem lw_p92 : lw_okq (⟨"FinedAlikeModel", "readsNeed", "()Z"⟩, 25) := ⟨⟨by decide +kernel, by decide +kernel⟩, List.mem_of_getElem? (i := 855) (by decide +kernel), List.mem_of_getElem? (i := 1225) (by decide +kernel), List.mem_of_getElem? (i := 1226) (by decide +kernel)⟩
theorem lw_p93 : lw_okq (⟨"FinedAlikeModel", "counted", "(I)I"⟩, 25) := ⟨⟨by decide +kernel, by decide +kernel⟩, List.mem_of_getElem? (i := 855) (by decide +kernel), List.mem_of_getElem? (i := 1250) (by decide +kernel), List.mem_of_getElem? (i := 1251) (by decide +kernel)⟩
theorem lw_p94 : lw_okq (⟨"FinedAlikeModel", "sums", "(JII)J"⟩, 25) := ⟨⟨by decide +kernel, by decide +kernel⟩, List.mem_of_getElem? (i := 855) (by decide +kernel), List.mem_of_getElem? (i := 1260) (by decide +kernel), List.mem_of_getElem? (i := 1261) (by decide +kernel)⟩
def lw_privs_6 : List (MethodName × Nat) := [(⟨"FinedAlikeModel", "takeBest", "(I)I"⟩, 25), (⟨"FinedAlikeModel", "changes", "(I)Z"⟩, 25), (⟨"FinedAlikeModel", "pay", "(I)Z"⟩, 25), (⟨"FinedAlikeModel", "look", "(I)V"⟩, 25), (⟨"FinedAlikeModel", "readsItem", "()Z"⟩, 25), (⟨"FinedAlikeModel", "isWord", "(IIIIII)Z"⟩, 25), (⟨"FinedAlikeModel", "readsThing", "()Z"⟩, 25), (⟨"FinedAlikeModel", "goOn", "()V"⟩, 25), (⟨"FinedAlikeModel", "takes", "(III)Z"⟩, 25), (⟨"FinedAlikeModel", "readsSize", "(I)Z"⟩, 25), (⟨"FinedAlikeModel", "readsHour", "()Z"⟩, 25), (⟨"FinedAlikeModel", "readsDoes", "()Z"⟩, 25), (⟨"FinedAlikeModel", "readsNeed", "()Z"⟩, 25), (⟨"FinedAlikeModel", "counted", "(I)I"⟩, 25), (⟨"FinedAlikeModel", "sums", "(JII)J"⟩, 25)]
theorem lw_r6 : ∀ q ∈ lw_privs_6, lw_okq q := List.forall_mem_cons.mpr ⟨lw_p80, List.forall_mem_cons.mpr ⟨lw_p81, List.forall_mem_cons.mpr ⟨lw_p82, List.forall_mem_cons.mpr ⟨lw_p83, List.forall_mem_cons.mpr ⟨lw_p84, List.forall_mem_cons.mpr ⟨lw_p85, List.forall_mem_cons.mpr ⟨lw_p86, List.forall_mem_cons.mpr ⟨lw_p87, List.forall_mem_cons.mpr ⟨lw_p88, List.forall_mem_cons.mpr ⟨lw_p89, List.forall_mem_cons.mpr ⟨lw_p90, List.forall_mem_cons.mpr ⟨lw_p91, List.forall_mem_cons.mpr ⟨lw_p92, List.forall_mem_cons.mpr ⟨lw_p93, List.forall_mem_cons.mpr ⟨lw_p94, fun _ h => absurd h List.not_mem_nil⟩⟩⟩⟩⟩⟩⟩⟩⟩⟩⟩⟩⟩⟩⟩
def lw_privs : List (MethodName × Nat) := lw_privs_1 ++ (lw_privs_2 ++ (lw_privs_3 ++ (lw_privs_4 ++ (lw_privs_5 ++ (lw_privs_6)))))
def lw_tbl : List Cond := k2_sels lw_privs ++ tables_1
theorem lw_privs_ok : ∀ q ∈ lw_privs, lw_okq q := by
  show ∀ q ∈ lw_privs_1 ++ (lw_privs_2 ++ (lw_privs_3 ++ (lw_privs_4 ++ (lw_privs_5 ++ (lw_privs_6))))), lw_okq q
  exact List.forall_mem_append.mpr ⟨lw_r1, List.forall_mem_append.mpr ⟨lw_r2, List.forall_mem_append.mpr ⟨lw_r3, List.forall_mem_append.mpr ⟨lw_r4, List.forall_mem_append.mpr ⟨lw_r5, lw_r6⟩⟩⟩⟩⟩
-- ===== end of PART A; then your names; then what follows =====
end
section
/-! ===== BEGIN printed: names, fields, word lists, decode rows ===== -/
def RX0 : String := "FinedAlike$Court"
def TX0 : u_T := fun k => match k with
  | 0 => ("FinedAlike$Court", "same", "[I", true)
  | 1 => ("FinedAlike$Court", "depth", "[I", true)
  | 2 => ("FinedAlike$Court", "nobody", "[I", true)
  | 3 => ("FinedAlike$Court", "singers", "[I", true)
  | 4 => ("FinedAlike$Court", "people", "I", false)
  | _ => ("FinedAlike$Court", "rich", "I", false)
def tyX0 : Nat → FieldType := fun k => match k with
  | 0 => .array .int
  | 1 => .array .int
  | 2 => .array .int
  | 3 => .array .int
  | 4 => .int
  | _ => .int
abbrev wsX00 : List Cond := u_ws RX0 TX0 6
theorem nmX0 : ∀ a, a < 6 → ∀ b, b < 6 → a ≠ b → (TX0 a).2.1 ≠ (TX0 b).2.1 := by decide +kernel
theorem tyX0_ok : ∀ k, k < 6 → parseFieldDescriptor (TX0 k).2.2.1 = some (tyX0 k) := by decide +kernel
abbrev cX0_init : ByteArray := prog_2_method_1_code
def yX0_init : MethodName := ⟨RX0, "<init>", "()V"⟩
abbrev cX0_sit : ByteArray := prog_2_method_2_code
def yX0_sit : MethodName := ⟨RX0, "sit", "(LFinedAlike$Town;II)V"⟩
abbrev cX0_aheadOf : ByteArray := prog_2_method_3_code
def yX0_aheadOf : MethodName := ⟨RX0, "aheadOf", "([[II)[I"⟩
abbrev cX0_fineIn : ByteArray := prog_2_method_4_code
def yX0_fineIn : MethodName := ⟨RX0, "fineIn", "(LFinedAlike$Town;III)I"⟩
abbrev cX0_finesOf : ByteArray := prog_2_method_5_code
def yX0_finesOf : MethodName := ⟨RX0, "finesOf", "(LFinedAlike$Town;[[II)I"⟩
abbrev cX0_leastOfChoir : ByteArray := prog_2_method_6_code
def yX0_leastOfChoir : MethodName := ⟨RX0, "leastOfChoir", "(LFinedAlike$Town;II)I"⟩
abbrev cX0_finesOfHour : ByteArray := prog_2_method_7_code
def yX0_finesOfHour : MethodName := ⟨RX0, "finesOfHour", "(I[I[I)I"⟩
abbrev cX0_fine : ByteArray := prog_2_method_8_code
def yX0_fine : MethodName := ⟨RX0, "fine", "(I[I[III)I"⟩
abbrev cX0_added : ByteArray := prog_2_method_9_code
def yX0_added : MethodName := ⟨RX0, "added", "(LFinedAlike$Town;[[IIII)I"⟩
abbrev cX0_othersWith : ByteArray := prog_2_method_10_code
def yX0_othersWith : MethodName := ⟨RX0, "othersWith", "(I[III)I"⟩
abbrev cX0_addedToCopies : ByteArray := prog_2_method_11_code
def yX0_addedToCopies : MethodName := ⟨RX0, "addedToCopies", "([I[III)I"⟩
abbrev cX0_isFined : ByteArray := prog_2_method_12_code
def yX0_isFined : MethodName := ⟨RX0, "isFined", "(II)Z"⟩
abbrev cX0_boughtBy : ByteArray := prog_2_method_13_code
def yX0_boughtBy : MethodName := ⟨RX0, "boughtBy", "(II)I"⟩
abbrev cX0_wasDone : ByteArray := prog_2_method_14_code
def yX0_wasDone : MethodName := ⟨RX0, "wasDone", "([III)Z"⟩
def RX1 : String := "FinedAlike$Days"
def TX1 : u_T := fun k => match k with
  | 0 => ("FinedAlike$Days", "day", "[[I", true)
  | 1 => ("FinedAlike$Days", "leastDay", "[[I", true)
  | 2 => ("FinedAlike$Days", "leastFines", "I", false)
  | 3 => ("FinedAlike$Days", "bestDay", "[[I", true)
  | 4 => ("FinedAlike$Days", "leastFound", "Z", false)
  | 5 => ("FinedAlike$Days", "leastAsOf", "I", false)
  | 6 => ("FinedAlike$Days", "rows", "[[I", true)
  | 7 => ("FinedAlike$Days", "rowCount", "[I", true)
  | 8 => ("FinedAlike$Days", "row", "[I", true)
  | 9 => ("FinedAlike$Days", "pick", "[I", true)
  | 10 => ("FinedAlike$Days", "soFar", "[I", true)
  | 11 => ("FinedAlike$Days", "order", "[I", true)
  | _ => ("FinedAlike$Days", "prices", "[[I", true)
def tyX1 : Nat → FieldType := fun k => match k with
  | 0 => .array (.array .int)
  | 1 => .array (.array .int)
  | 2 => .int
  | 3 => .array (.array .int)
  | 4 => .boolean
  | 5 => .int
  | 6 => .array (.array .int)
  | 7 => .array .int
  | 8 => .array .int
  | 9 => .array .int
  | 10 => .array .int
  | 11 => .array .int
  | _ => .array (.array .int)
abbrev wsX10 : List Cond := u_ws RX1 TX1 13
theorem nmX1 : ∀ a, a < 13 → ∀ b, b < 13 → a ≠ b → (TX1 a).2.1 ≠ (TX1 b).2.1 := by decide +kernel
theorem tyX1_ok : ∀ k, k < 13 → parseFieldDescriptor (TX1 k).2.2.1 = some (tyX1 k) := by decide +kernel
abbrev cX1_init : ByteArray := prog_3_method_1_code
def yX1_init : MethodName := ⟨RX1, "<init>", "()V"⟩
abbrev cX1_findLeast : ByteArray := prog_3_method_2_code
def yX1_findLeast : MethodName := ⟨RX1, "findLeast", "(LFinedAlike$Town;LFinedAlike$Court;I)Z"⟩
abbrev cX1_fewestHours : ByteArray := prog_3_method_3_code
def yX1_fewestHours : MethodName := ⟨RX1, "fewestHours", "(LFinedAlike$Town;LFinedAlike$Court;)I"⟩
abbrev cX1_finesByNumber : ByteArray := prog_3_method_4_code
def yX1_finesByNumber : MethodName := ⟨RX1, "finesByNumber", "(LFinedAlike$Town;LFinedAlike$Court;)I"⟩
abbrev cX1_finesByWorstOrder : ByteArray := prog_3_method_5_code
def yX1_finesByWorstOrder : MethodName := ⟨RX1, "finesByWorstOrder", "(LFinedAlike$Town;LFinedAlike$Court;)I"⟩
abbrev cX1_roundOfRest : ByteArray := prog_3_method_6_code
def yX1_roundOfRest : MethodName := ⟨RX1, "roundOfRest", "(LFinedAlike$Town;LFinedAlike$Court;)I"⟩
abbrev cX1_anyoneChanges : ByteArray := prog_3_method_7_code
def yX1_anyoneChanges : MethodName := ⟨RX1, "anyoneChanges", "(LFinedAlike$Town;LFinedAlike$Court;)Z"⟩
abbrev cX1_finesInOrder : ByteArray := prog_3_method_8_code
def yX1_finesInOrder : MethodName := ⟨RX1, "finesInOrder", "(LFinedAlike$Town;LFinedAlike$Court;)I"⟩
abbrev cX1_setPrices : ByteArray := prog_3_method_9_code
def yX1_setPrices : MethodName := ⟨RX1, "setPrices", "(LFinedAlike$Town;LFinedAlike$Court;I)V"⟩
abbrev cX1_setPricesToAll : ByteArray := prog_3_method_10_code
def yX1_setPricesToAll : MethodName := ⟨RX1, "setPricesToAll", "(LFinedAlike$Town;LFinedAlike$Court;II)V"⟩
abbrev cX1_bestRow : ByteArray := prog_3_method_11_code
def yX1_bestRow : MethodName := ⟨RX1, "bestRow", "(II)I"⟩
abbrev cX1_priceOfRow : ByteArray := prog_3_method_12_code
def yX1_priceOfRow : MethodName := ⟨RX1, "priceOfRow", "(III)I"⟩
abbrev cX1_priceOfNow : ByteArray := prog_3_method_13_code
def yX1_priceOfNow : MethodName := ⟨RX1, "priceOfNow", "(II)I"⟩
abbrev cX1_search : ByteArray := prog_3_method_14_code
def yX1_search : MethodName := ⟨RX1, "search", "(LFinedAlike$Town;LFinedAlike$Court;II)I"⟩
abbrev cX1_startPerson : ByteArray := prog_3_method_15_code
def yX1_startPerson : MethodName := ⟨RX1, "startPerson", "(LFinedAlike$Town;LFinedAlike$Court;III)V"⟩
abbrev cX1_copyDay : ByteArray := prog_3_method_16_code
def yX1_copyDay : MethodName := ⟨RX1, "copyDay", "([[I[[I)V"⟩
abbrev cX1_clearDay : ByteArray := prog_3_method_17_code
def yX1_clearDay : MethodName := ⟨RX1, "clearDay", "()V"⟩
abbrev cX1_liftRow : ByteArray := prog_3_method_18_code
def yX1_liftRow : MethodName := ⟨RX1, "liftRow", "(I)V"⟩
abbrev cX1_layRow : ByteArray := prog_3_method_19_code
def yX1_layRow : MethodName := ⟨RX1, "layRow", "(III)V"⟩
abbrev cX1_waysTogether : ByteArray := prog_3_method_20_code
def yX1_waysTogether : MethodName := ⟨RX1, "waysTogether", "(LFinedAlike$Town;)J"⟩
abbrev cX1_writeRows : ByteArray := prog_3_method_21_code
def yX1_writeRows : MethodName := ⟨RX1, "writeRows", "(LFinedAlike$Town;I)V"⟩
abbrev cX1_writeRowsOf : ByteArray := prog_3_method_22_code
def yX1_writeRowsOf : MethodName := ⟨RX1, "writeRowsOf", "(LFinedAlike$Town;II)V"⟩
abbrev cX1_writeFirstRow : ByteArray := prog_3_method_23_code
def yX1_writeFirstRow : MethodName := ⟨RX1, "writeFirstRow", "(LFinedAlike$Town;II)V"⟩
def RX2 : String := "FinedAlike$Past"
def TX2 : u_T := fun k => match k with
  | 0 => ("FinedAlike$Past", "found", "I", false)
  | 1 => ("FinedAlike$Past", "first", "[I", true)
  | 2 => ("FinedAlike$Past", "now", "[I", true)
  | 3 => ("FinedAlike$Past", "pick", "[I", true)
  | 4 => ("FinedAlike$Past", "asOf", "I", false)
  | _ => ("FinedAlike$Past", "asOfHour", "I", false)
def tyX2 : Nat → FieldType := fun k => match k with
  | 0 => .int
  | 1 => .array .int
  | 2 => .array .int
  | 3 => .array .int
  | 4 => .int
  | _ => .int
abbrev wsX20 : List Cond := u_ws RX2 TX2 6
theorem nmX2 : ∀ a, a < 6 → ∀ b, b < 6 → a ≠ b → (TX2 a).2.1 ≠ (TX2 b).2.1 := by decide +kernel
theorem tyX2_ok : ∀ k, k < 6 → parseFieldDescriptor (TX2 k).2.2.1 = some (tyX2 k) := by decide +kernel
abbrev cX2_init : ByteArray := prog_4_method_1_code
def yX2_init : MethodName := ⟨RX2, "<init>", "()V"⟩
abbrev cX2_findWays : ByteArray := prog_4_method_2_code
def yX2_findWays : MethodName := ⟨RX2, "findWays", "(LFinedAlike$Town;LFinedAlike$Court;II)V"⟩
abbrev cX2_mayHavePaid : ByteArray := prog_4_method_3_code
def yX2_mayHavePaid : MethodName := ⟨RX2, "mayHavePaid", "(LFinedAlike$Town;LFinedAlike$Court;II)Z"⟩
abbrev cX2_countWay : ByteArray := prog_4_method_4_code
def yX2_countWay : MethodName := ⟨RX2, "countWay", "()V"⟩
def RX3 : String := "FinedAlike$Text"
def TX3 : u_T := fun k => match k with
  | 0 => ("FinedAlike$Text", "bytes", "[B", true)
  | 1 => ("FinedAlike$Text", "length", "I", false)
  | 2 => ("FinedAlike$Text", "place", "I", false)
  | 3 => ("FinedAlike$Text", "token", "I", false)
  | 4 => ("FinedAlike$Text", "start", "I", false)
  | 5 => ("FinedAlike$Text", "fault", "I", false)
  | _ => ("FinedAlike$Text", "settled", "Z", false)
def tyX3 : Nat → FieldType := fun k => match k with
  | 0 => .array .byte
  | 1 => .int
  | 2 => .int
  | 3 => .int
  | 4 => .int
  | 5 => .int
  | _ => .boolean
abbrev wsX30 : List Cond := u_ws RX3 TX3 7
theorem nmX3 : ∀ a, a < 7 → ∀ b, b < 7 → a ≠ b → (TX3 a).2.1 ≠ (TX3 b).2.1 := by decide +kernel
theorem tyX3_ok : ∀ k, k < 7 → parseFieldDescriptor (TX3 k).2.2.1 = some (tyX3 k) := by decide +kernel
abbrev cX3_init : ByteArray := prog_5_method_1_code
def yX3_init : MethodName := ⟨RX3, "<init>", "()V"⟩
abbrev cX3_append : ByteArray := prog_5_method_2_code
def yX3_append : MethodName := ⟨RX3, "append", "(B)V"⟩
abbrev cX3_readInto : ByteArray := prog_5_method_3_code
def yX3_readInto : MethodName := ⟨RX3, "readInto", "(LFinedAlike$Town;)I"⟩
abbrev cX3_readItem : ByteArray := prog_5_method_4_code
def yX3_readItem : MethodName := ⟨RX3, "readItem", "(LFinedAlike$Town;)V"⟩
abbrev cX3_readThing : ByteArray := prog_5_method_5_code
def yX3_readThing : MethodName := ⟨RX3, "readThing", "(LFinedAlike$Town;)V"⟩
abbrev cX3_readPeople : ByteArray := prog_5_method_6_code
def yX3_readPeople : MethodName := ⟨RX3, "readPeople", "(LFinedAlike$Town;)V"⟩
abbrev cX3_readHours : ByteArray := prog_5_method_7_code
def yX3_readHours : MethodName := ⟨RX3, "readHours", "(LFinedAlike$Town;)V"⟩
abbrev cX3_readHour : ByteArray := prog_5_method_8_code
def yX3_readHour : MethodName := ⟨RX3, "readHour", "(LFinedAlike$Town;)V"⟩
abbrev cX3_readLine : ByteArray := prog_5_method_9_code
def yX3_readLine : MethodName := ⟨RX3, "readLine", "(LFinedAlike$Town;)V"⟩
abbrev cX3_readRich : ByteArray := prog_5_method_10_code
def yX3_readRich : MethodName := ⟨RX3, "readRich", "(LFinedAlike$Town;)V"⟩
abbrev cX3_readDoes : ByteArray := prog_5_method_11_code
def yX3_readDoes : MethodName := ⟨RX3, "readDoes", "(LFinedAlike$Town;)V"⟩
abbrev cX3_readNeed : ByteArray := prog_5_method_12_code
def yX3_readNeed : MethodName := ⟨RX3, "readNeed", "(LFinedAlike$Town;)V"⟩
abbrev cX3_fail : ByteArray := prog_5_method_13_code
def yX3_fail : MethodName := ⟨RX3, "fail", "()V"⟩
abbrev cX3_number : ByteArray := prog_5_method_14_code
def yX3_number : MethodName := ⟨RX3, "number", "(II)I"⟩
abbrev cX3_stops : ByteArray := prog_5_method_15_code
def yX3_stops : MethodName := ⟨RX3, "stops", "()Z"⟩
abbrev cX3_nextToken : ByteArray := prog_5_method_16_code
def yX3_nextToken : MethodName := ⟨RX3, "nextToken", "()V"⟩
abbrev cX3_figure : ByteArray := prog_5_method_17_code
def yX3_figure : MethodName := ⟨RX3, "figure", "()I"⟩
abbrev cX3_spells : ByteArray := prog_5_method_18_code
def yX3_spells : MethodName := ⟨RX3, "spells", "(Ljava/lang/String;)Z"⟩
abbrev cX3_isLetter : ByteArray := prog_5_method_19_code
def yX3_isLetter : MethodName := ⟨RX3, "isLetter", "(B)Z"⟩
abbrev cX3_isFigure : ByteArray := prog_5_method_20_code
def yX3_isFigure : MethodName := ⟨RX3, "isFigure", "(B)Z"⟩
def RX4 : String := "FinedAlike$Town"
def TX4 : u_T := fun k => match k with
  | 0 => ("FinedAlike$Town", "things", "I", false)
  | 1 => ("FinedAlike$Town", "line", "I", false)
  | 2 => ("FinedAlike$Town", "people", "I", false)
  | 3 => ("FinedAlike$Town", "hours", "I", false)
  | 4 => ("FinedAlike$Town", "rich", "I", false)
  | 5 => ("FinedAlike$Town", "undoable", "I", false)
  | 6 => ("FinedAlike$Town", "under", "[I", true)
  | 7 => ("FinedAlike$Town", "kinds", "[I", true)
  | 8 => ("FinedAlike$Town", "doing", "[[I", true)
  | 9 => ("FinedAlike$Town", "needs", "[[I", true)
  | 10 => ("FinedAlike$Town", "paid", "[I", true)
  | 11 => ("FinedAlike$Town", "undoPerson", "[I", true)
  | 12 => ("FinedAlike$Town", "undoHour", "[I", true)
  | _ => ("FinedAlike$Town", "undoThing", "[I", true)
def tyX4 : Nat → FieldType := fun k => match k with
  | 0 => .int
  | 1 => .int
  | 2 => .int
  | 3 => .int
  | 4 => .int
  | 5 => .int
  | 6 => .array .int
  | 7 => .array .int
  | 8 => .array (.array .int)
  | 9 => .array (.array .int)
  | 10 => .array .int
  | 11 => .array .int
  | 12 => .array .int
  | _ => .array .int
abbrev wsX40 : List Cond := u_ws RX4 TX4 14
theorem nmX4 : ∀ a, a < 14 → ∀ b, b < 14 → a ≠ b → (TX4 a).2.1 ≠ (TX4 b).2.1 := by decide +kernel
theorem tyX4_ok : ∀ k, k < 14 → parseFieldDescriptor (TX4 k).2.2.1 = some (tyX4 k) := by decide +kernel
abbrev cX4_init : ByteArray := prog_6_method_1_code
def yX4_init : MethodName := ⟨RX4, "<init>", "()V"⟩
abbrev cX4_begin : ByteArray := prog_6_method_2_code
def yX4_begin : MethodName := ⟨RX4, "begin", "()V"⟩
abbrev cX4_settle : ByteArray := prog_6_method_3_code
def yX4_settle : MethodName := ⟨RX4, "settle", "(II)V"⟩
abbrev cX4_takeOver : ByteArray := prog_6_method_4_code
def yX4_takeOver : MethodName := ⟨RX4, "takeOver", "(LFinedAlike$Town;)V"⟩
abbrev cX4_hasThing : ByteArray := prog_6_method_5_code
def yX4_hasThing : MethodName := ⟨RX4, "hasThing", "(I)Z"⟩
abbrev cX4_hasPerson : ByteArray := prog_6_method_6_code
def yX4_hasPerson : MethodName := ⟨RX4, "hasPerson", "(I)Z"⟩
abbrev cX4_hasHour : ByteArray := prog_6_method_7_code
def yX4_hasHour : MethodName := ⟨RX4, "hasHour", "(I)Z"⟩
abbrev cX4_addThing : ByteArray := prog_6_method_8_code
def yX4_addThing : MethodName := ⟨RX4, "addThing", "(I)V"⟩
abbrev cX4_kindOf : ByteArray := prog_6_method_9_code
def yX4_kindOf : MethodName := ⟨RX4, "kindOf", "(I)I"⟩
abbrev cX4_needed : ByteArray := prog_6_method_10_code
def yX4_needed : MethodName := ⟨RX4, "needed", "(I)I"⟩
abbrev cX4_mostNeeded : ByteArray := prog_6_method_11_code
def yX4_mostNeeded : MethodName := ⟨RX4, "mostNeeded", "(II)I"⟩
abbrev cX4_rememberDoing : ByteArray := prog_6_method_12_code
def yX4_rememberDoing : MethodName := ⟨RX4, "rememberDoing", "(III)V"⟩
abbrev cX4_forgetOldest : ByteArray := prog_6_method_13_code
def yX4_forgetOldest : MethodName := ⟨RX4, "forgetOldest", "()V"⟩
abbrev cX4_undoLast : ByteArray := prog_6_method_14_code
def yX4_undoLast : MethodName := ⟨RX4, "undoLast", "()V"⟩
def RX5 : String := "FinedAlike"
def TX5 : u_T := fun k => match k with
  | 0 => ("FinedAlike", "town", "LFinedAlike$Town;", true)
  | 1 => ("FinedAlike", "draft", "LFinedAlike$Town;", true)
  | 2 => ("FinedAlike", "images", "[LFinedAlike$Town;", true)
  | 3 => ("FinedAlike", "kept", "[Z", true)
  | 4 => ("FinedAlike", "text", "LFinedAlike$Text;", true)
  | 5 => ("FinedAlike", "court", "LFinedAlike$Court;", true)
  | 6 => ("FinedAlike", "days", "LFinedAlike$Days;", true)
  | 7 => ("FinedAlike", "past", "LFinedAlike$Past;", true)
  | 8 => ("FinedAlike", "above", "J", false)
  | 9 => ("FinedAlike", "below", "J", false)
  | 10 => ("FinedAlike", "refusedBad", "I", false)
  | 11 => ("FinedAlike", "refusedNo", "I", false)
  | 12 => ("FinedAlike", "refusedFull", "I", false)
  | _ => ("FinedAlike", "changes", "I", false)
def tyX5 : Nat → FieldType := fun k => match k with
  | 0 => .object "FinedAlike$Town"
  | 1 => .object "FinedAlike$Town"
  | 2 => .array (.object "FinedAlike$Town")
  | 3 => .array .boolean
  | 4 => .object "FinedAlike$Text"
  | 5 => .object "FinedAlike$Court"
  | 6 => .object "FinedAlike$Days"
  | 7 => .object "FinedAlike$Past"
  | 8 => .long
  | 9 => .long
  | 10 => .int
  | 11 => .int
  | 12 => .int
  | _ => .int
abbrev wsX50 : List Cond := u_ws RX5 TX5 14
theorem nmX5 : ∀ a, a < 14 → ∀ b, b < 14 → a ≠ b → (TX5 a).2.1 ≠ (TX5 b).2.1 := by decide +kernel
theorem tyX5_ok : ∀ k, k < 14 → parseFieldDescriptor (TX5 k).2.2.1 = some (tyX5 k) := by decide +kernel
abbrev cX5_init : ByteArray := prog_1_method_1_code
def yX5_init : MethodName := ⟨RX5, "<init>", "()V"⟩
abbrev cX5_thing : ByteArray := prog_1_method_2_code
def yX5_thing : MethodName := ⟨RX5, "thing", "(I)I"⟩
abbrev cX5_town : ByteArray := prog_1_method_3_code
def yX5_town : MethodName := ⟨RX5, "town", "(II)I"⟩
abbrev cX5_put : ByteArray := prog_1_method_4_code
def yX5_put : MethodName := ⟨RX5, "put", "(III)I"⟩
abbrev cX5_does : ByteArray := prog_1_method_5_code
def yX5_does : MethodName := ⟨RX5, "does", "(III)I"⟩
abbrev cX5_undo : ByteArray := prog_1_method_6_code
def yX5_undo : MethodName := ⟨RX5, "undo", "()I"⟩
abbrev cX5_need : ByteArray := prog_1_method_7_code
def yX5_need : MethodName := ⟨RX5, "need", "(III)I"⟩
abbrev cX5_type : ByteArray := prog_1_method_8_code
def yX5_type : MethodName := ⟨RX5, "type", "(JI)I"⟩
abbrev cX5_clear : ByteArray := prog_1_method_9_code
def yX5_clear : MethodName := ⟨RX5, "clear", "()I"⟩
abbrev cX5_read : ByteArray := prog_1_method_10_code
def yX5_read : MethodName := ⟨RX5, "read", "()I"⟩
abbrev cX5_at : ByteArray := prog_1_method_11_code
def yX5_at : MethodName := ⟨RX5, "at", "(I)I"⟩
abbrev cX5_pays : ByteArray := prog_1_method_12_code
def yX5_pays : MethodName := ⟨RX5, "pays", "(II)I"⟩
abbrev cX5_all : ByteArray := prog_1_method_13_code
def yX5_all : MethodName := ⟨RX5, "all", "()I"⟩
abbrev cX5_least : ByteArray := prog_1_method_14_code
def yX5_least : MethodName := ⟨RX5, "least", "(II)I"⟩
abbrev cX5_fewest : ByteArray := prog_1_method_15_code
def yX5_fewest : MethodName := ⟨RX5, "fewest", "()I"⟩
abbrev cX5_list : ByteArray := prog_1_method_16_code
def yX5_list : MethodName := ⟨RX5, "list", "(I)I"⟩
abbrev cX5_rests : ByteArray := prog_1_method_17_code
def yX5_rests : MethodName := ⟨RX5, "rests", "(I)I"⟩
abbrev cX5_better : ByteArray := prog_1_method_18_code
def yX5_better : MethodName := ⟨RX5, "better", "(II)I"⟩
abbrev cX5_name : ByteArray := prog_1_method_19_code
def yX5_name : MethodName := ⟨RX5, "name", "(I)I"⟩
abbrev cX5_line : ByteArray := prog_1_method_20_code
def yX5_line : MethodName := ⟨RX5, "line", "(I)I"⟩
abbrev cX5_choir : ByteArray := prog_1_method_21_code
def yX5_choir : MethodName := ⟨RX5, "choir", "(II)I"⟩
abbrev cX5_told : ByteArray := prog_1_method_22_code
def yX5_told : MethodName := ⟨RX5, "told", "(II)I"⟩
abbrev cX5_did : ByteArray := prog_1_method_23_code
def yX5_did : MethodName := ⟨RX5, "did", "(II)I"⟩
abbrev cX5_copied : ByteArray := prog_1_method_24_code
def yX5_copied : MethodName := ⟨RX5, "copied", "(I)I"⟩
abbrev cX5_crowd : ByteArray := prog_1_method_25_code
def yX5_crowd : MethodName := ⟨RX5, "crowd", "(III)I"⟩
abbrev cX5_part : ByteArray := prog_1_method_26_code
def yX5_part : MethodName := ⟨RX5, "part", "(I)J"⟩
abbrev cX5_image : ByteArray := prog_1_method_27_code
def yX5_image : MethodName := ⟨RX5, "image", "(I)I"⟩
abbrev cX5_from : ByteArray := prog_1_method_28_code
def yX5_from : MethodName := ⟨RX5, "from", "(I)I"⟩
abbrev cX5_status : ByteArray := prog_1_method_29_code
def yX5_status : MethodName := ⟨RX5, "status", "(I)I"⟩
abbrev cX5_count : ByteArray := prog_1_method_30_code
def yX5_count : MethodName := ⟨RX5, "count", "(I)I"⟩
abbrev cX5_digest : ByteArray := prog_1_method_31_code
def yX5_digest : MethodName := ⟨RX5, "digest", "()J"⟩
abbrev cX5_refuseBad : ByteArray := prog_1_method_32_code
def yX5_refuseBad : MethodName := ⟨RX5, "refuseBad", "(I)I"⟩
abbrev cX5_refuseNo : ByteArray := prog_1_method_33_code
def yX5_refuseNo : MethodName := ⟨RX5, "refuseNo", "()I"⟩
abbrev cX5_refuseFull : ByteArray := prog_1_method_34_code
def yX5_refuseFull : MethodName := ⟨RX5, "refuseFull", "()I"⟩
abbrev cX5_putKind : ByteArray := prog_1_method_35_code
def yX5_putKind : MethodName := ⟨RX5, "putKind", "(II)I"⟩
abbrev cX5_putLine : ByteArray := prog_1_method_36_code
def yX5_putLine : MethodName := ⟨RX5, "putLine", "(I)I"⟩
abbrev cX5_putRich : ByteArray := prog_1_method_37_code
def yX5_putRich : MethodName := ⟨RX5, "putRich", "(I)I"⟩
abbrev cX5_allFines : ByteArray := prog_1_method_38_code
def yX5_allFines : MethodName := ⟨RX5, "allFines", "(I)I"⟩
abbrev cX5_finesOfOne : ByteArray := prog_1_method_39_code
def yX5_finesOfOne : MethodName := ⟨RX5, "finesOfOne", "(I)I"⟩
abbrev cX5_timesCopied : ByteArray := prog_1_method_40_code
def yX5_timesCopied : MethodName := ⟨RX5, "timesCopied", "(II)I"⟩
abbrev cX5_amount : ByteArray := prog_1_method_41_code
def yX5_amount : MethodName := ⟨RX5, "amount", "(I)I"⟩
abbrev cX5_digestWith : ByteArray := prog_1_method_42_code
def yX5_digestWith : MethodName := ⟨RX5, "digestWith", "(JI)J"⟩
abbrev cX5_within : ByteArray := prog_1_method_43_code
def yX5_within : MethodName := ⟨RX5, "within", "(III)Z"⟩
abbrev cX5_shown : ByteArray := prog_1_method_44_code
def yX5_shown : MethodName := ⟨RX5, "shown", "(I)I"⟩
abbrev cX5_crowdsOfAtLeast : ByteArray := prog_1_method_45_code
def yX5_crowdsOfAtLeast : MethodName := ⟨RX5, "crowdsOfAtLeast", "(III)J"⟩
abbrev cX5_commonDivisor : ByteArray := prog_1_method_46_code
def yX5_commonDivisor : MethodName := ⟨RX5, "commonDivisor", "(JJ)J"⟩
abbrev cX5_nextOrder : ByteArray := prog_1_method_47_code
def yX5_nextOrder : MethodName := ⟨RX5, "nextOrder", "([II)Z"⟩
abbrev cX5_swap : ByteArray := prog_1_method_48_code
def yX5_swap : MethodName := ⟨RX5, "swap", "([III)V"⟩
def RX6 : String := "FinedAlikeModel"
def TX6 : u_T := fun k => match k with
  | 0 => ("FinedAlikeModel", "now", "[I", true)
  | 1 => ("FinedAlikeModel", "kept", "[I", true)
  | 2 => ("FinedAlikeModel", "isKept", "[Z", true)
  | 3 => ("FinedAlikeModel", "refused", "[I", true)
  | 4 => ("FinedAlikeModel", "above", "J", false)
  | 5 => ("FinedAlikeModel", "below", "J", false)
  | 6 => ("FinedAlikeModel", "under", "[I", true)
  | 7 => ("FinedAlikeModel", "same", "[I", true)
  | 8 => ("FinedAlikeModel", "hand", "[I", true)
  | 9 => ("FinedAlikeModel", "rows", "[I", true)
  | 10 => ("FinedAlikeModel", "manyRows", "[I", true)
  | 11 => ("FinedAlikeModel", "left", "[I", true)
  | 12 => ("FinedAlikeModel", "day", "[I", true)
  | 13 => ("FinedAlikeModel", "best", "[I", true)
  | 14 => ("FinedAlikeModel", "order", "[I", true)
  | 15 => ("FinedAlikeModel", "was", "[I", true)
  | 16 => ("FinedAlikeModel", "bytes", "[I", true)
  | 17 => ("FinedAlikeModel", "bytesLong", "I", false)
  | 18 => ("FinedAlikeModel", "tokenAt", "I", false)
  | 19 => ("FinedAlikeModel", "tokenLong", "I", false)
  | 20 => ("FinedAlikeModel", "token", "I", false)
  | 21 => ("FinedAlikeModel", "value", "I", false)
  | 22 => ("FinedAlikeModel", "next", "[I", true)
  | 23 => ("FinedAlikeModel", "isFixed", "Z", false)
  | _ => ("FinedAlikeModel", "values", "[I", true)
def tyX6 : Nat → FieldType := fun k => match k with
  | 0 => .array .int
  | 1 => .array .int
  | 2 => .array .boolean
  | 3 => .array .int
  | 4 => .long
  | 5 => .long
  | 6 => .array .int
  | 7 => .array .int
  | 8 => .array .int
  | 9 => .array .int
  | 10 => .array .int
  | 11 => .array .int
  | 12 => .array .int
  | 13 => .array .int
  | 14 => .array .int
  | 15 => .array .int
  | 16 => .array .int
  | 17 => .int
  | 18 => .int
  | 19 => .int
  | 20 => .int
  | 21 => .int
  | 22 => .array .int
  | 23 => .boolean
  | _ => .array .int
abbrev wsX60 : List Cond := u_ws RX6 TX6 25
theorem nmX6 : ∀ a, a < 25 → ∀ b, b < 25 → a ≠ b → (TX6 a).2.1 ≠ (TX6 b).2.1 := by decide +kernel
theorem tyX6_ok : ∀ k, k < 25 → parseFieldDescriptor (TX6 k).2.2.1 = some (tyX6 k) := by decide +kernel
abbrev cX6_init : ByteArray := prog_8_method_1_code
def yX6_init : MethodName := ⟨RX6, "<init>", "()V"⟩
abbrev cX6_in : ByteArray := prog_8_method_3_code
def yX6_in : MethodName := ⟨RX6, "in", "(JJJ)Z"⟩
abbrev cX6_bad : ByteArray := prog_8_method_4_code
def yX6_bad : MethodName := ⟨RX6, "bad", "(I)I"⟩
abbrev cX6_no : ByteArray := prog_8_method_5_code
def yX6_no : MethodName := ⟨RX6, "no", "()I"⟩
abbrev cX6_full : ByteArray := prog_8_method_6_code
def yX6_full : MethodName := ⟨RX6, "full", "()I"⟩
abbrev cX6_begin : ByteArray := prog_8_method_7_code
def yX6_begin : MethodName := ⟨RX6, "begin", "([III)V"⟩
abbrev cX6_things : ByteArray := prog_8_method_8_code
def yX6_things : MethodName := ⟨RX6, "things", "()I"⟩
abbrev cX6_people : ByteArray := prog_8_method_9_code
def yX6_people : MethodName := ⟨RX6, "people", "()I"⟩
abbrev cX6_hours : ByteArray := prog_8_method_10_code
def yX6_hours : MethodName := ⟨RX6, "hours", "()I"⟩
abbrev cX6_isThing : ByteArray := prog_8_method_11_code
def yX6_isThing : MethodName := ⟨RX6, "isThing", "(I)Z"⟩
abbrev cX6_isOne : ByteArray := prog_8_method_12_code
def yX6_isOne : MethodName := ⟨RX6, "isOne", "(I)Z"⟩
abbrev cX6_isHour : ByteArray := prog_8_method_13_code
def yX6_isHour : MethodName := ⟨RX6, "isHour", "(I)Z"⟩
abbrev cX6_thing : ByteArray := prog_8_method_14_code
def yX6_thing : MethodName := ⟨RX6, "thing", "(I)I"⟩
abbrev cX6_town : ByteArray := prog_8_method_15_code
def yX6_town : MethodName := ⟨RX6, "town", "(II)I"⟩
abbrev cX6_put : ByteArray := prog_8_method_16_code
def yX6_put : MethodName := ⟨RX6, "put", "(III)I"⟩
abbrev cX6_does : ByteArray := prog_8_method_17_code
def yX6_does : MethodName := ⟨RX6, "does", "(III)I"⟩
abbrev cX6_undo : ByteArray := prog_8_method_18_code
def yX6_undo : MethodName := ⟨RX6, "undo", "()I"⟩
abbrev cX6_needsOf : ByteArray := prog_8_method_19_code
def yX6_needsOf : MethodName := ⟨RX6, "needsOf", "([II)I"⟩
abbrev cX6_need : ByteArray := prog_8_method_20_code
def yX6_need : MethodName := ⟨RX6, "need", "(III)I"⟩
abbrev cX6_depth : ByteArray := prog_8_method_21_code
def yX6_depth : MethodName := ⟨RX6, "depth", "(I)I"⟩
abbrev cX6_layLine : ByteArray := prog_8_method_22_code
def yX6_layLine : MethodName := ⟨RX6, "layLine", "(II)V"⟩
abbrev cX6_layNow : ByteArray := prog_8_method_23_code
def yX6_layNow : MethodName := ⟨RX6, "layNow", "()V"⟩
abbrev cX6_at : ByteArray := prog_8_method_24_code
def yX6_at : MethodName := ⟨RX6, "at", "(I)I"⟩
abbrev cX6_takeDone : ByteArray := prog_8_method_25_code
def yX6_takeDone : MethodName := ⟨RX6, "takeDone", "()V"⟩
abbrev cX6_takeNothing : ByteArray := prog_8_method_26_code
def yX6_takeNothing : MethodName := ⟨RX6, "takeNothing", "()V"⟩
abbrev cX6_doing : ByteArray := prog_8_method_27_code
def yX6_doing : MethodName := ⟨RX6, "doing", "(II)I"⟩
abbrev cX6_isWith : ByteArray := prog_8_method_28_code
def yX6_isWith : MethodName := ⟨RX6, "isWith", "(IIIZ)Z"⟩
abbrev cX6_wasDone : ByteArray := prog_8_method_29_code
def yX6_wasDone : MethodName := ⟨RX6, "wasDone", "(II)Z"⟩
abbrev cX6_paysOf : ByteArray := prog_8_method_30_code
def yX6_paysOf : MethodName := ⟨RX6, "paysOf", "(II)I"⟩
abbrev cX6_paysIn : ByteArray := prog_8_method_31_code
def yX6_paysIn : MethodName := ⟨RX6, "paysIn", "(II)I"⟩
abbrev cX6_allIn : ByteArray := prog_8_method_32_code
def yX6_allIn : MethodName := ⟨RX6, "allIn", "(I)I"⟩
abbrev cX6_pays : ByteArray := prog_8_method_33_code
def yX6_pays : MethodName := ⟨RX6, "pays", "(II)I"⟩
abbrev cX6_all : ByteArray := prog_8_method_34_code
def yX6_all : MethodName := ⟨RX6, "all", "()I"⟩
abbrev cX6_takeNeeds : ByteArray := prog_8_method_35_code
def yX6_takeNeeds : MethodName := ⟨RX6, "takeNeeds", "(II)V"⟩
abbrev cX6_findRows : ByteArray := prog_8_method_36_code
def yX6_findRows : MethodName := ⟨RX6, "findRows", "(II)V"⟩
abbrev cX6_keepRow : ByteArray := prog_8_method_37_code
def yX6_keepRow : MethodName := ⟨RX6, "keepRow", "(II)V"⟩
abbrev cX6_findAllRows : ByteArray := prog_8_method_38_code
def yX6_findAllRows : MethodName := ⟨RX6, "findAllRows", "(I)V"⟩
abbrev cX6_ways : ByteArray := prog_8_method_39_code
def yX6_ways : MethodName := ⟨RX6, "ways", "()J"⟩
abbrev cX6_takeRow : ByteArray := prog_8_method_40_code
def yX6_takeRow : MethodName := ⟨RX6, "takeRow", "(III)V"⟩
abbrev cX6_findLeast : ByteArray := prog_8_method_41_code
def yX6_findLeast : MethodName := ⟨RX6, "findLeast", "(I)I"⟩
abbrev cX6_least : ByteArray := prog_8_method_42_code
def yX6_least : MethodName := ⟨RX6, "least", "(II)I"⟩
abbrev cX6_fewest : ByteArray := prog_8_method_43_code
def yX6_fewest : MethodName := ⟨RX6, "fewest", "()I"⟩
abbrev cX6_takeBest : ByteArray := prog_8_method_44_code
def yX6_takeBest : MethodName := ⟨RX6, "takeBest", "(I)I"⟩
abbrev cX6_layOrder : ByteArray := prog_8_method_45_code
def yX6_layOrder : MethodName := ⟨RX6, "layOrder", "(I)Z"⟩
abbrev cX6_listed : ByteArray := prog_8_method_46_code
def yX6_listed : MethodName := ⟨RX6, "listed", "()I"⟩
abbrev cX6_list : ByteArray := prog_8_method_47_code
def yX6_list : MethodName := ⟨RX6, "list", "(I)I"⟩
abbrev cX6_changes : ByteArray := prog_8_method_48_code
def yX6_changes : MethodName := ⟨RX6, "changes", "(I)Z"⟩
abbrev cX6_rests : ByteArray := prog_8_method_49_code
def yX6_rests : MethodName := ⟨RX6, "rests", "(I)I"⟩
abbrev cX6_better : ByteArray := prog_8_method_50_code
def yX6_better : MethodName := ⟨RX6, "better", "(II)I"⟩
abbrev cX6_name : ByteArray := prog_8_method_51_code
def yX6_name : MethodName := ⟨RX6, "name", "(I)I"⟩
abbrev cX6_line : ByteArray := prog_8_method_52_code
def yX6_line : MethodName := ⟨RX6, "line", "(I)I"⟩
abbrev cX6_choir : ByteArray := prog_8_method_53_code
def yX6_choir : MethodName := ⟨RX6, "choir", "(II)I"⟩
abbrev cX6_told : ByteArray := prog_8_method_54_code
def yX6_told : MethodName := ⟨RX6, "told", "(II)I"⟩
abbrev cX6_pay : ByteArray := prog_8_method_55_code
def yX6_pay : MethodName := ⟨RX6, "pay", "(I)Z"⟩
abbrev cX6_did : ByteArray := prog_8_method_56_code
def yX6_did : MethodName := ⟨RX6, "did", "(II)I"⟩
abbrev cX6_copied : ByteArray := prog_8_method_57_code
def yX6_copied : MethodName := ⟨RX6, "copied", "(I)I"⟩
abbrev cX6_crowd : ByteArray := prog_8_method_58_code
def yX6_crowd : MethodName := ⟨RX6, "crowd", "(III)I"⟩
abbrev cX6_type : ByteArray := prog_8_method_59_code
def yX6_type : MethodName := ⟨RX6, "type", "(JI)I"⟩
abbrev cX6_clear : ByteArray := prog_8_method_60_code
def yX6_clear : MethodName := ⟨RX6, "clear", "()I"⟩
abbrev cX6_isSmall : ByteArray := prog_8_method_61_code
def yX6_isSmall : MethodName := ⟨RX6, "isSmall", "(I)Z"⟩
abbrev cX6_isFigure : ByteArray := prog_8_method_62_code
def yX6_isFigure : MethodName := ⟨RX6, "isFigure", "(I)Z"⟩
abbrev cX6_look : ByteArray := prog_8_method_63_code
def yX6_look : MethodName := ⟨RX6, "look", "(I)V"⟩
abbrev cX6_goOn : ByteArray := prog_8_method_64_code
def yX6_goOn : MethodName := ⟨RX6, "goOn", "()V"⟩
abbrev cX6_isWord : ByteArray := prog_8_method_65_code
def yX6_isWord : MethodName := ⟨RX6, "isWord", "(IIIIII)Z"⟩
abbrev cX6_takes : ByteArray := prog_8_method_66_code
def yX6_takes : MethodName := ⟨RX6, "takes", "(III)Z"⟩
abbrev cX6_readsThing : ByteArray := prog_8_method_67_code
def yX6_readsThing : MethodName := ⟨RX6, "readsThing", "()Z"⟩
abbrev cX6_readsSize : ByteArray := prog_8_method_68_code
def yX6_readsSize : MethodName := ⟨RX6, "readsSize", "(I)Z"⟩
abbrev cX6_readsHour : ByteArray := prog_8_method_69_code
def yX6_readsHour : MethodName := ⟨RX6, "readsHour", "()Z"⟩
abbrev cX6_readsDoes : ByteArray := prog_8_method_70_code
def yX6_readsDoes : MethodName := ⟨RX6, "readsDoes", "()Z"⟩
abbrev cX6_readsNeed : ByteArray := prog_8_method_71_code
def yX6_readsNeed : MethodName := ⟨RX6, "readsNeed", "()Z"⟩
abbrev cX6_readsItem : ByteArray := prog_8_method_72_code
def yX6_readsItem : MethodName := ⟨RX6, "readsItem", "()Z"⟩
abbrev cX6_read : ByteArray := prog_8_method_73_code
def yX6_read : MethodName := ⟨RX6, "read", "()I"⟩
abbrev cX6_part : ByteArray := prog_8_method_74_code
def yX6_part : MethodName := ⟨RX6, "part", "(I)J"⟩
abbrev cX6_image : ByteArray := prog_8_method_75_code
def yX6_image : MethodName := ⟨RX6, "image", "(I)I"⟩
abbrev cX6_from : ByteArray := prog_8_method_76_code
def yX6_from : MethodName := ⟨RX6, "from", "(I)I"⟩
abbrev cX6_status : ByteArray := prog_8_method_77_code
def yX6_status : MethodName := ⟨RX6, "status", "(I)I"⟩
abbrev cX6_counted : ByteArray := prog_8_method_78_code
def yX6_counted : MethodName := ⟨RX6, "counted", "(I)I"⟩
abbrev cX6_count : ByteArray := prog_8_method_79_code
def yX6_count : MethodName := ⟨RX6, "count", "(I)I"⟩
abbrev cX6_sums : ByteArray := prog_8_method_80_code
def yX6_sums : MethodName := ⟨RX6, "sums", "(JII)J"⟩
abbrev cX6_digest : ByteArray := prog_8_method_81_code
def yX6_digest : MethodName := ⟨RX6, "digest", "()J"⟩
def RJx145de : String := "java/io/Serializable"
def TJx145de : u_T := fun k => match k with
  | _ => ("", "", "", false)
def tyJx145de : Nat → FieldType := fun k => match k with
  | _ => .int
abbrev wsJx145de0 : List Cond := u_ws RJx145de TJx145de 0
theorem nmJx145de : ∀ a, a < 0 → ∀ b, b < 0 → a ≠ b → (TJx145de a).2.1 ≠ (TJx145de b).2.1 := by decide +kernel
theorem tyJx145de_ok : ∀ k, k < 0 → parseFieldDescriptor (TJx145de k).2.2.1 = some (tyJx145de k) := by decide +kernel
def RJx9f9b0 : String := "java/lang/CharSequence"
def TJx9f9b0 : u_T := fun k => match k with
  | _ => ("", "", "", false)
def tyJx9f9b0 : Nat → FieldType := fun k => match k with
  | _ => .int
abbrev wsJx9f9b00 : List Cond := u_ws RJx9f9b0 TJx9f9b0 0
theorem nmJx9f9b0 : ∀ a, a < 0 → ∀ b, b < 0 → a ≠ b → (TJx9f9b0 a).2.1 ≠ (TJx9f9b0 b).2.1 := by decide +kernel
theorem tyJx9f9b0_ok : ∀ k, k < 0 → parseFieldDescriptor (TJx9f9b0 k).2.2.1 = some (tyJx9f9b0 k) := by decide +kernel
def RJxb160c : String := "java/lang/Comparable"
def TJxb160c : u_T := fun k => match k with
  | _ => ("", "", "", false)
def tyJxb160c : Nat → FieldType := fun k => match k with
  | _ => .int
abbrev wsJxb160c0 : List Cond := u_ws RJxb160c TJxb160c 0
theorem nmJxb160c : ∀ a, a < 0 → ∀ b, b < 0 → a ≠ b → (TJxb160c a).2.1 ≠ (TJxb160c b).2.1 := by decide +kernel
theorem tyJxb160c_ok : ∀ k, k < 0 → parseFieldDescriptor (TJxb160c k).2.2.1 = some (tyJxb160c k) := by decide +kernel
def RJ9 : String := "java/lang/Math"
def TJ9 : u_T := fun k => match k with
  | _ => ("", "", "", false)
def tyJ9 : Nat → FieldType := fun k => match k with
  | _ => .int
abbrev wsJ90 : List Cond := u_ws RJ9 TJ9 0
theorem nmJ9 : ∀ a, a < 0 → ∀ b, b < 0 → a ≠ b → (TJ9 a).2.1 ≠ (TJ9 b).2.1 := by decide +kernel
theorem tyJ9_ok : ∀ k, k < 0 → parseFieldDescriptor (TJ9 k).2.2.1 = some (tyJ9 k) := by decide +kernel
abbrev cJ9_max_7cf53 : ByteArray := prog_9_method_65_code
def yJ9_max_7cf53 : MethodName := ⟨RJ9, "max", "(II)I"⟩
abbrev cJ9_max_f86c9 : ByteArray := prog_9_method_66_code
def yJ9_max_f86c9 : MethodName := ⟨RJ9, "max", "(JJ)J"⟩
abbrev cJ9_min_7cf53 : ByteArray := prog_9_method_69_code
def yJ9_min_7cf53 : MethodName := ⟨RJ9, "min", "(II)I"⟩
def RJ0 : String := "java/lang/String"
def TJ0 : u_T := fun k => match k with
  | _ => ("", "", "", false)
def tyJ0 : Nat → FieldType := fun k => match k with
  | _ => .int
abbrev wsJ00 : List Cond := u_ws RJ0 TJ0 0
theorem nmJ0 : ∀ a, a < 0 → ∀ b, b < 0 → a ≠ b → (TJ0 a).2.1 ≠ (TJ0 b).2.1 := by decide +kernel
theorem tyJ0_ok : ∀ k, k < 0 → parseFieldDescriptor (TJ0 k).2.2.1 = some (tyJ0 k) := by decide +kernel
abbrev cJ0_length_8abf5 : ByteArray := prog_10_method_54_code
def yJ0_length_8abf5 : MethodName := ⟨RJ0, "length", "()I"⟩
abbrev cJ0_charAt_5068e : ByteArray := prog_10_method_56_code
def yJ0_charAt_5068e : MethodName := ⟨RJ0, "charAt", "(I)C"⟩
abbrev cJ0_coder_7d493 : ByteArray := prog_10_method_152_code
def yJ0_coder_7d493 : MethodName := ⟨RJ0, "coder", "()B"⟩
abbrev cJ0_isLatin1_aae02 : ByteArray := prog_10_method_154_code
def yJ0_isLatin1_aae02 : MethodName := ⟨RJ0, "isLatin1", "()Z"⟩
abbrev cJ0_checkIndex_df160 : ByteArray := prog_10_method_155_code
def yJ0_checkIndex_df160 : MethodName := ⟨RJ0, "checkIndex", "(II)V"⟩
def RJ1 : String := "java/lang/StringLatin1"
def TJ1 : u_T := fun k => match k with
  | _ => ("", "", "", false)
def tyJ1 : Nat → FieldType := fun k => match k with
  | _ => .int
abbrev wsJ10 : List Cond := u_ws RJ1 TJ1 0
theorem nmJ1 : ∀ a, a < 0 → ∀ b, b < 0 → a ≠ b → (TJ1 a).2.1 ≠ (TJ1 b).2.1 := by decide +kernel
theorem tyJ1_ok : ∀ k, k < 0 → parseFieldDescriptor (TJ1 k).2.2.1 = some (tyJ1 k) := by decide +kernel
abbrev cJ1_charAt_3b067 : ByteArray := prog_11_method_2_code
def yJ1_charAt_3b067 : MethodName := ⟨RJ1, "charAt", "([BI)C"⟩
def RJ2 : String := "java/lang/StringUTF16"
def TJ2 : u_T := fun k => match k with
  | _ => ("", "", "", false)
def tyJ2 : Nat → FieldType := fun k => match k with
  | _ => .int
abbrev wsJ20 : List Cond := u_ws RJ2 TJ2 0
theorem nmJ2 : ∀ a, a < 0 → ∀ b, b < 0 → a ≠ b → (TJ2 a).2.1 ≠ (TJ2 b).2.1 := by decide +kernel
theorem tyJ2_ok : ∀ k, k < 0 → parseFieldDescriptor (TJ2 k).2.2.1 = some (tyJ2 k) := by decide +kernel
abbrev cJ2_getChar_3b067 : ByteArray := prog_12_method_5_code
def yJ2_getChar_3b067 : MethodName := ⟨RJ2, "getChar", "([BI)C"⟩
abbrev cJ2_length_9d52b : ByteArray := prog_12_method_6_code
def yJ2_length_9d52b : MethodName := ⟨RJ2, "length", "([B)I"⟩
abbrev cJ2_charAt_3b067 : ByteArray := prog_12_method_83_code
def yJ2_charAt_3b067 : MethodName := ⟨RJ2, "charAt", "([BI)C"⟩
abbrev cJ2_checkIndex_2214a : ByteArray := prog_12_method_91_code
def yJ2_checkIndex_2214a : MethodName := ⟨RJ2, "checkIndex", "(I[B)V"⟩
def RJ10 : String := "java/lang/System"
def TJ10 : u_T := fun k => match k with
  | _ => ("", "", "", false)
def tyJ10 : Nat → FieldType := fun k => match k with
  | _ => .int
abbrev wsJ100 : List Cond := u_ws RJ10 TJ10 0
theorem nmJ10 : ∀ a, a < 0 → ∀ b, b < 0 → a ≠ b → (TJ10 a).2.1 ≠ (TJ10 b).2.1 := by decide +kernel
theorem tyJ10_ok : ∀ k, k < 0 → parseFieldDescriptor (TJ10 k).2.2.1 = some (tyJ10 k) := by decide +kernel
def RJxfd54e : String := "java/lang/constant/Constable"
def TJxfd54e : u_T := fun k => match k with
  | _ => ("", "", "", false)
def tyJxfd54e : Nat → FieldType := fun k => match k with
  | _ => .int
abbrev wsJxfd54e0 : List Cond := u_ws RJxfd54e TJxfd54e 0
theorem nmJxfd54e : ∀ a, a < 0 → ∀ b, b < 0 → a ≠ b → (TJxfd54e a).2.1 ≠ (TJxfd54e b).2.1 := by decide +kernel
theorem tyJxfd54e_ok : ∀ k, k < 0 → parseFieldDescriptor (TJxfd54e k).2.2.1 = some (tyJxfd54e k) := by decide +kernel
def RJx3cf43 : String := "java/lang/constant/ConstantDesc"
def TJx3cf43 : u_T := fun k => match k with
  | _ => ("", "", "", false)
def tyJx3cf43 : Nat → FieldType := fun k => match k with
  | _ => .int
abbrev wsJx3cf430 : List Cond := u_ws RJx3cf43 TJx3cf43 0
theorem nmJx3cf43 : ∀ a, a < 0 → ∀ b, b < 0 → a ≠ b → (TJx3cf43 a).2.1 ≠ (TJx3cf43 b).2.1 := by decide +kernel
theorem tyJx3cf43_ok : ∀ k, k < 0 → parseFieldDescriptor (TJx3cf43 k).2.2.1 = some (tyJx3cf43 k) := by decide +kernel
def RJ7 : String := "java/util/Arrays"
def TJ7 : u_T := fun k => match k with
  | _ => ("", "", "", false)
def tyJ7 : Nat → FieldType := fun k => match k with
  | _ => .int
abbrev wsJ70 : List Cond := u_ws RJ7 TJ7 0
theorem nmJ7 : ∀ a, a < 0 → ∀ b, b < 0 → a ≠ b → (TJ7 a).2.1 ≠ (TJ7 b).2.1 := by decide +kernel
theorem tyJ7_ok : ∀ k, k < 0 → parseFieldDescriptor (TJ7 k).2.2.1 = some (tyJ7 k) := by decide +kernel
abbrev cJ7_fill_53178 : ByteArray := prog_14_method_103_code
def yJ7_fill_53178 : MethodName := ⟨RJ7, "fill", "([II)V"⟩
def RJ3 : String := "jdk/internal/util/Preconditions"
def TJ3 : u_T := fun k => match k with
  | _ => ("", "", "", false)
def tyJ3 : Nat → FieldType := fun k => match k with
  | _ => .int
abbrev wsJ30 : List Cond := u_ws RJ3 TJ3 0
theorem nmJ3 : ∀ a, a < 0 → ∀ b, b < 0 → a ≠ b → (TJ3 a).2.1 ≠ (TJ3 b).2.1 := by decide +kernel
theorem tyJ3_ok : ∀ k, k < 0 → parseFieldDescriptor (TJ3 k).2.2.1 = some (tyJ3 k) := by decide +kernel
abbrev cJ3_checkIndex_8e157 : ByteArray := prog_15_method_11_code
def yJ3_checkIndex_8e157 : MethodName := ⟨RJ3, "checkIndex", "(IILjava/util/function/BiFunction;)I"⟩
def RL : String := "FinedAlikeLaw"
abbrev cL_law : ByteArray := code
def yL_law : MethodName := ⟨RL, "law", "([I)Z"⟩
set_option maxRecDepth 20000 in
abbrev vwCl : List vw_C := [(RX0, TX0, 6), (RX1, TX1, 13), (RX2, TX2, 6), (RX3, TX3, 7), (RX4, TX4, 14), (RX5, TX5, 14), (RX6, TX6, 25)]
end
section
/-! ===== fx: the machine seen as pure numbers. Values are Ints; cells are numbered; what an array or object holds is h cell place ===== -/
def fx_w (z : Int) : Int := Int.bmod z 4294967296
def fx_wl (z : Int) : Int := Int.bmod z 18446744073709551616
def fx_R (z : Int) : Prop := -2147483648 ≤ z ∧ z ≤ 2147483647
def fx_Rl (z : Int) : Prop := -9223372036854775808 ≤ z ∧ z ≤ 9223372036854775807
theorem fx_w_R (z : Int) : fx_R (fx_w z) := by
  have h1 := Int.le_bmod (x := z) (m := 4294967296) (by decide)
  have h2 := Int.bmod_lt (x := z) (m := 4294967296) (by decide)
  unfold fx_R fx_w
  omega
theorem fx_wl_R (z : Int) : fx_Rl (fx_wl z) := by
  have h1 := Int.le_bmod (x := z) (m := 18446744073709551616) (by decide)
  have h2 := Int.bmod_lt (x := z) (m := 18446744073709551616) (by decide)
  unfold fx_Rl fx_wl
  omega
theorem fx_id {z : Int} (h : fx_R z) : fx_w z = z := by
  unfold fx_R at h
  exact Int.bmod_eq_of_le (by omega) (by omega)
theorem fx_idl {z : Int} (h : fx_Rl z) : fx_wl z = z := by
  unfold fx_Rl at h
  exact Int.bmod_eq_of_le (by omega) (by omega)
theorem fx_ti (z : Int) : (Int32.ofInt z).toInt = fx_w z := Int32.toInt_ofInt
theorem fx_til (z : Int) : (Int64.ofInt z).toInt = fx_wl z := Int64.toInt_ofInt
theorem fx_tR {z : Int} (h : fx_R z) : (Int32.ofInt z).toInt = z := (fx_ti z).trans (fx_id h)
theorem fx_tRl {z : Int} (h : fx_Rl z) : (Int64.ofInt z).toInt = z := (fx_til z).trans (fx_idl h)
theorem fx_ofw (z : Int) : Int32.ofInt (fx_w z) = Int32.ofInt z := Int32.toInt_inj.mp (by rw [fx_ti, fx_ti]; exact fx_id (fx_w_R z))
theorem fx_ofwl (z : Int) : Int64.ofInt (fx_wl z) = Int64.ofInt z := Int64.toInt_inj.mp (by rw [fx_til, fx_til]; exact fx_idl (fx_wl_R z))
theorem fx_eq_of {x : Int32} {z : Int} (h : x.toInt = fx_w z) : x = Int32.ofInt (fx_w z) := Int32.toInt_inj.mp (by rw [h, fx_ti]; exact (fx_id (fx_w_R z)).symm)
theorem fx_eq_ofl {x : Int64} {z : Int} (h : x.toInt = fx_wl z) : x = Int64.ofInt (fx_wl z) := Int64.toInt_inj.mp (by rw [h, fx_til]; exact (fx_idl (fx_wl_R z)).symm)
theorem fx_of_toInt (x : Int32) : Int32.ofInt x.toInt = x := Int32.toInt_inj.mp (by rw [fx_ti]; exact fx_id ⟨Int32.le_toInt x, Int.le_of_lt_add_one (Int32.toInt_lt x)⟩)
theorem fx_of_toIntl (x : Int64) : Int64.ofInt x.toInt = x := Int64.toInt_inj.mp (by rw [fx_til]; exact fx_idl ⟨Int64.le_toInt x, Int.le_of_lt_add_one (Int64.toInt_lt x)⟩)
theorem fx_toInt_R (x : Int32) : fx_R x.toInt := ⟨Int32.le_toInt x, Int.le_of_lt_add_one (Int32.toInt_lt x)⟩
theorem fx_toInt_Rl (x : Int64) : fx_Rl x.toInt := ⟨Int64.le_toInt x, Int.le_of_lt_add_one (Int64.toInt_lt x)⟩
theorem fx_lt {x y : Int} (hx : fx_R x) (hy : fx_R y) : Int32.ofInt x < Int32.ofInt y ↔ x < y := by rw [Int32.lt_iff_toInt_lt, fx_tR hx, fx_tR hy]
theorem fx_le {x y : Int} (hx : fx_R x) (hy : fx_R y) : Int32.ofInt x ≤ Int32.ofInt y ↔ x ≤ y := by rw [Int32.le_iff_toInt_le, fx_tR hx, fx_tR hy]
theorem fx_eq {x y : Int} (hx : fx_R x) (hy : fx_R y) : Int32.ofInt x = Int32.ofInt y ↔ x = y := by rw [← Int32.toInt_inj, fx_tR hx, fx_tR hy]
theorem fx_in {x : Int} {n : Nat} (hx : fx_R x) (h0 : 0 ≤ x) (h1 : x < n) : vp_in (Int32.ofInt x) n := vp_in_iff.mpr (by rw [fx_tR hx]; exact ⟨h0, h1⟩)
theorem fx_cl {x : Int} (hx : fx_R x) : (Int32.ofInt x).toNatClampNeg = x.toNat := by
  show (Int32.ofInt x).toInt.toNat = _
  rw [fx_tR hx]
theorem fx_add (x y : Int) : Int32.ofInt x + Int32.ofInt y = Int32.ofInt (fx_w (x + y)) := by rw [fx_ofw, Int32.ofInt_add]
theorem fx_sub (x y : Int) : Int32.ofInt x - Int32.ofInt y = Int32.ofInt (fx_w (x - y)) := by rw [fx_ofw, Int32.ofInt_sub]
theorem fx_mul (x y : Int) : Int32.ofInt x * Int32.ofInt y = Int32.ofInt (fx_w (x * y)) := by rw [fx_ofw, Int32.ofInt_mul]
theorem fx_addl (x y : Int) : Int64.ofInt x + Int64.ofInt y = Int64.ofInt (fx_wl (x + y)) := by rw [fx_ofwl, Int64.ofInt_add]
theorem fx_subl (x y : Int) : Int64.ofInt x - Int64.ofInt y = Int64.ofInt (fx_wl (x - y)) := by rw [fx_ofwl, Int64.ofInt_sub]
theorem fx_mull (x y : Int) : Int64.ofInt x * Int64.ofInt y = Int64.ofInt (fx_wl (x * y)) := by rw [fx_ofwl, Int64.ofInt_mul]
theorem fx_div {x y : Int} (hx : fx_R x) (hy : fx_R y) : Int32.ofInt x / Int32.ofInt y = Int32.ofInt (fx_w (x.tdiv y)) := fx_eq_of (by rw [Int32.toInt_div, fx_tR hx, fx_tR hy]; rfl)
theorem fx_divl {x y : Int} (hx : fx_Rl x) (hy : fx_Rl y) : Int64.ofInt x / Int64.ofInt y = Int64.ofInt (fx_wl (x.tdiv y)) := fx_eq_ofl (by rw [Int64.toInt_div, fx_tRl hx, fx_tRl hy]; rfl)
theorem fx_rem {x y : Int} (hx : fx_R x) (hy : fx_R y) : Int32.ofInt x - Int32.ofInt x / Int32.ofInt y * Int32.ofInt y = Int32.ofInt (fx_w (x.tmod y)) := by
  rw [fx_div hx hy, fx_ofw, fx_ofw, ← Int32.ofInt_mul, ← Int32.ofInt_sub]
  congr 1
  have := Int.mul_tdiv_add_tmod x y
  rw [Int.mul_comm] at this
  omega
theorem fx_reml {x y : Int} (hx : fx_Rl x) (hy : fx_Rl y) : Int64.ofInt x - Int64.ofInt x / Int64.ofInt y * Int64.ofInt y = Int64.ofInt (fx_wl (x.tmod y)) := by
  rw [fx_divl hx hy, fx_ofwl, fx_ofwl, ← Int64.ofInt_mul, ← Int64.ofInt_sub]
  congr 1
  have := Int.mul_tdiv_add_tmod x y
  rw [Int.mul_comm] at this
  omega
def fx_land (x y : Int) : Int := (Int64.ofInt x &&& Int64.ofInt y).toInt
def fx_lor (x y : Int) : Int := (Int64.ofInt x ||| Int64.ofInt y).toInt
def fx_iand (x y : Int) : Int := (Int32.ofInt x &&& Int32.ofInt y).toInt
def fx_lshl (x y : Int) : Int := (Int64.ofInt x <<< ((Int32.ofInt y).toInt64 &&& 63)).toInt
def fx_lushr (x y : Int) : Int := ((Int64.ofInt x).toUInt64 >>> ((Int32.ofInt y).toInt64.toUInt64 &&& Int64.toUInt64 63)).toInt64.toInt
def fx_b (x : Int) : Int := (Int32.ofInt x).toInt8.toInt32.toInt
def fx_cmp (x y : Int) : Int := if y < x then 1 else if x = y then 0 else -1
theorem fx_i2l {x : Int} (hx : fx_R x) : (Int32.ofInt x).toInt64 = Int64.ofInt x := Int64.toInt_inj.mp (by
  rw [Int32.toInt_toInt64, fx_tR hx, fx_til, fx_idl]
  unfold fx_R at hx
  unfold fx_Rl
  omega)
theorem fx_l2i {x : Int} (hx : fx_Rl x) : (Int64.ofInt x).toInt32 = Int32.ofInt (fx_w x) := fx_eq_of (by
  rw [Int64.toInt_toInt32, fx_tRl hx]; rfl)
theorem fx_cmp_eq {x y : Int} (hx : fx_Rl x) (hy : fx_Rl y) : lg_cmp (Int64.ofInt x) (Int64.ofInt y) = Int32.ofInt (fx_cmp x y) := by
  have h1 : Int64.ofInt y < Int64.ofInt x ↔ y < x := by rw [Int64.lt_iff_toInt_lt, fx_tRl hx, fx_tRl hy]
  have h2 : Int64.ofInt x = Int64.ofInt y ↔ x = y := by rw [← Int64.toInt_inj, fx_tRl hx, fx_tRl hy]
  unfold lg_cmp fx_cmp
  simp only [gt_iff_lt, h1, h2]
  split
  · rfl
  · split <;> rfl
theorem fx_cmp_R (x y : Int) : fx_R (fx_cmp x y) := by
  unfold fx_cmp fx_R
  split
  · omega
  · split <;> omega
/-! ===== fx: layout, cells, worlds ===== -/
abbrev fx_H : Type := Int → Int → Int
/-- a value: its tag (0 int, 1 long, k + 2 a cell of kind k, from 20 on a cell that is no part of the world), and it -/
abbrev fx_V : Type := Nat × Int
/-- how many cells; kind; length; what a reference place of a cell names -/
abbrev fx_L : Type := Nat × (Int → Nat) × (Int → Int) × (Int → Int → Int)
def fx_v (ad ex : Nat → Nat) (v : fx_V) : Value := match v.1 with
  | 0 => .int (Int32.ofInt v.2)
  | 1 => .long (Int64.ofInt v.2)
  | k + 2 => match Nat.ble 18 k with
    | true => .ref (ex v.2.toNat)
    | false => .ref (ad v.2.toNat)
def fx_kd (Λ : fx_L) (a : Int) : Nat := Λ.2.1 a
def fx_ln (Λ : fx_L) (a : Int) : Int := Λ.2.2.1 a
def fx_tg (Λ : fx_L) (a i : Int) : Int := Λ.2.2.2 a i
def fx_at (Λ : fx_L) (a : Int) (k : Nat) : Prop := 0 ≤ a ∧ a < Λ.1 ∧ fx_kd Λ a = k
def fx_ok (Λ : fx_L) (v : fx_V) : Prop := match v.1 with
  | 0 => fx_R v.2
  | 1 => fx_Rl v.2
  | k + 2 => match Nat.ble 18 k with
    | true => True
    | false => fx_at Λ v.2 k
def fx_rg (h : fx_H) : Prop := (∀ a i : Int, i < 1000000 → fx_R (h a i)) ∧ ∀ a i : Int, fx_Rl (h a i)
def fx_up (h : fx_H) (a i v : Int) : fx_H := fun a' i' => if a' = a ∧ i' = i then v else h a' i'
theorem fx_up_rg {h : fx_H} {a i v : Int} (hr : fx_rg h) (hv : fx_R v) : fx_rg (fx_up h a i v) := by
  refine ⟨fun b j hj => ?_, fun b j => ?_⟩
  · unfold fx_up
    split
    · exact hv
    · exact hr.1 b j hj
  · unfold fx_up
    split
    · unfold fx_R at hv
      unfold fx_Rl
      omega
    · exact hr.2 b j
theorem fx_up_rgl {h : fx_H} {a i v : Int} (hr : fx_rg h) (hi : 1000000 ≤ i) (hv : fx_Rl v) : fx_rg (fx_up h a i v) := by
  refine ⟨fun b j hj => ?_, fun b j => ?_⟩
  · unfold fx_up
    split
    · omega
    · exact hr.1 b j hj
  · unfold fx_up
    split
    · exact hv
    · exact hr.2 b j
def fx_fv (ad : Nat → Nat) (Λ : fx_L) (h : fx_H) (a : Int) (i t : Nat) : Value := match t with
  | 0 => .int (Int32.ofInt (h a i))
  | 1 => .long (Int64.ofInt (h a (1000000 + i)))
  | _ => .ref (ad (fx_tg Λ a i).toNat)
def fx_fs (ad : Nat → Nat) (Λ : fx_L) (h : fx_H) (a : Int) (ts : List Nat) : List Value := (List.range ts.length).map (fun i => fx_fv ad Λ h a i (ts.getD i 0))
/-- the fields of each kind of object: tags -/
def fx_ft : Nat → List Nat
  | 0 => [10, 10, 10, 10, 0, 0]
  | 1 => [13, 13, 0, 13, 0, 0, 13, 10, 10, 10, 10, 10, 13]
  | 2 => [0, 10, 10, 10, 0, 0]
  | 3 => [9, 0, 0, 0, 0, 0, 0]
  | 4 => [0, 0, 0, 0, 0, 0, 10, 10, 13, 13, 10, 10, 10, 10]
  | 5 => [6, 6, 12, 11, 5, 2, 3, 4, 1, 1, 0, 0, 0, 0]
  | 6 => [10, 10, 11, 10, 1, 1, 10, 10, 10, 10, 10, 10, 10, 10, 10, 10, 10, 0, 0, 0, 0, 0, 10, 0, 10]
  | _ => []
def fx_ai (cy : ClassId) (Λ : fx_L) (h : fx_H) (a : Int) : va_E := .inl (cy, (fx_ln Λ a).toNat, .inl (fun i => Int32.ofInt (h a i)))
def fx_ar (cy : ClassId) (ad : Nat → Nat) (Λ : fx_L) (a : Int) : va_E := .inl (cy, (fx_ln Λ a).toNat, .inr (.inr (.inr (.inr (fun i => some (ad (fx_tg Λ a i).toNat))))))
def fx_cell (cy : Nat → ClassId) (ad : Nat → Nat) (Λ : fx_L) (h : fx_H) (a : Int) : va_E := match fx_kd Λ a with
  | 7 => fx_ai (cy 0) Λ h a
  | 8 => fx_ai (cy 1) Λ h a
  | 9 => fx_ai (cy 2) Λ h a
  | 10 => fx_ar (cy 3) ad Λ a
  | 11 => fx_ar (cy 4) ad Λ a
  | k => .inr (k, fx_fs ad Λ h a (fx_ft k))
def fx_ws (cy : Nat → ClassId) (ad : Nat → Nat) (Λ : fx_L) (h : fx_H) : va_W := (List.range Λ.1).map (fun k => (ad k, fx_cell cy ad Λ h k))
def fx_tys (cy : Nat → ClassId) : List (ClassId × FieldType) := [(cy 0, .byte), (cy 1, .int), (cy 2, .boolean), (cy 3, .object RX4), (cy 4, .array .int)]
def fx_wf (Λ : fx_L) : Prop := ∀ a : Int, 0 ≤ a → a < Λ.1 → 0 ≤ fx_ln Λ a ∧ fx_ln Λ a ≤ 1000000 ∧
  (fx_kd Λ a < 7 → ∀ (i k : Nat), (fx_ft (fx_kd Λ a))[i]? = some (k + 2) → fx_at Λ (fx_tg Λ a i) k) ∧
  (fx_kd Λ a = 10 → ∀ i : Int, 0 ≤ i → i < fx_ln Λ a → fx_at Λ (fx_tg Λ a i) 4) ∧
  (fx_kd Λ a = 11 → ∀ i : Int, 0 ≤ i → i < fx_ln Λ a → fx_at Λ (fx_tg Λ a i) 8)
theorem fx_map_set {α : Type} (n q : Nat) (f g : Nat → α) (hne : ∀ k, k ≠ q → g k = f k) : ((List.range n).map f).set q (g q) = (List.range n).map g := by
  apply List.ext_getElem?
  intro k
  rw [List.getElem?_set]
  by_cases hk : q = k
  · subst hk
    by_cases hn : q < n
    · simp [hn]
    · simp [hn]
  · simp only [hk, if_false, List.getElem?_map]
    by_cases hn : k < n
    · simp [List.getElem?_range hn, hne k (fun e => hk e.symm)]
    · rw [List.getElem?_eq_none (by simpa using hn)]
      rfl
theorem fx_ws_at {cy : Nat → ClassId} {ad : Nat → Nat} {Λ : fx_L} {h : fx_H} {a : Int} (h0 : 0 ≤ a) (h1 : a < Λ.1) : (fx_ws cy ad Λ h)[a.toNat]? = some (ad a.toNat, fx_cell cy ad Λ h a) := by
  unfold fx_ws
  rw [List.getElem?_map, List.getElem?_range (by omega)]
  simp [Int.toNat_of_nonneg h0]
theorem fx_cell_ne {cy : Nat → ClassId} {ad : Nat → Nat} {Λ : fx_L} {h : fx_H} {a b i v : Int} (hb : b ≠ a) : fx_cell cy ad Λ (fx_up h a i v) b = fx_cell cy ad Λ h b := by
  have e : ∀ j : Int, fx_up h a i v b j = h b j := fun j => by simp [fx_up, hb]
  unfold fx_cell
  split <;> simp only [fx_ai, fx_fs, e] <;> (try rfl)
  congr 2
  apply List.map_congr_left
  intro j _
  unfold fx_fv
  split <;> simp only [e]
theorem fx_ws_set {cy : Nat → ClassId} {ad : Nat → Nat} {Λ : fx_L} {h : fx_H} {a i v : Int} (h0 : 0 ≤ a) {e : va_E} (he : fx_cell cy ad Λ (fx_up h a i v) a = e) : (fx_ws cy ad Λ h).set a.toNat (ad a.toNat, e) = fx_ws cy ad Λ (fx_up h a i v) := by
  subst he
  have := fx_map_set Λ.1 a.toNat (fun k : Nat => (ad k, fx_cell cy ad Λ h k)) (fun k : Nat => (ad k, fx_cell cy ad Λ (fx_up h a i v) k)) (fun k hk => by
    show (ad k, fx_cell cy ad Λ (fx_up h a i v) k) = (ad k, fx_cell cy ad Λ h k)
    rw [fx_cell_ne (by omega)])
  rw [Int.toNat_of_nonneg h0] at this
  exact this
theorem fx_cell_obj {cy : Nat → ClassId} {ad : Nat → Nat} {Λ : fx_L} {h : fx_H} {a : Int} {k : Nat} (hk : fx_kd Λ a = k) (h7 : k < 7) : fx_cell cy ad Λ h a = .inr (k, fx_fs ad Λ h a (fx_ft k)) := by
  unfold fx_cell
  rw [hk]
  match k, h7 with
  | 0, _ | 1, _ | 2, _ | 3, _ | 4, _ | 5, _ | 6, _ => rfl
theorem fx_fs_at {ad : Nat → Nat} {Λ : fx_L} {h : fx_H} {a : Int} {ts : List Nat} {i t : Nat} (ht : ts[i]? = some t) : (fx_fs ad Λ h a ts)[i]? = some (fx_fv ad Λ h a i t) := by
  have hl : i < ts.length := (List.getElem?_eq_some_iff.mp ht).1
  unfold fx_fs
  rw [List.getElem?_map, List.getElem?_range hl]
  simp [List.getD, ht]
theorem fx_fs_len {ad : Nat → Nat} {Λ : fx_L} {h : fx_H} {a : Int} {ts : List Nat} : (fx_fs ad Λ h a ts).length = ts.length := by simp [fx_fs]
theorem fx_fs_set {ad : Nat → Nat} {Λ : fx_L} {h : fx_H} {a : Int} {ts : List Nat} {i : Nat} {j v : Int} {x : Value} (hx : fx_fv ad Λ (fx_up h a j v) a i (ts.getD i 0) = x) (ho : ∀ k : Nat, k ≠ i → (k : Int) ≠ j ∧ (1000000 + (k : Int)) ≠ j ∨ (∃ t, ts[k]? = some t ∧ ((t = 0 ∧ (k : Int) ≠ j) ∨ (t = 1 ∧ (1000000 + (k : Int)) ≠ j) ∨ 2 ≤ t)) ∨ ts.length ≤ k) : (fx_fs ad Λ h a ts).set i x = fx_fs ad Λ (fx_up h a j v) a ts := by
  subst hx
  apply List.ext_getElem?
  intro k
  rw [List.getElem?_set]
  by_cases hk : i = k
  · subst hk
    by_cases hn : i < ts.length
    · simp [fx_fs, hn]
    · simp [fx_fs, hn]
  · simp only [hk, if_false]
    unfold fx_fs
    rw [List.getElem?_map, List.getElem?_map]
    by_cases hn : k < ts.length
    · rw [List.getElem?_range hn]
      simp only [Option.map_some, Option.some.injEq]
      have hg : ts[k]? = some (ts.getD k 0) := by simp [List.getD, hn]
      rcases ho k (fun e => hk e.symm) with ⟨h1, h2⟩ | ⟨t, ht, h3⟩ | h4
      · unfold fx_fv
        split <;> simp [fx_up, h1, h2]
      · have e : ts.getD k 0 = t := by rw [ht] at hg; exact (Option.some.inj hg).symm
        rw [e]
        rcases h3 with ⟨rfl, h5⟩ | ⟨rfl, h5⟩ | h5
        · simp [fx_fv, fx_up, h5]
        · simp [fx_fv, fx_up, h5]
        · match t, h5 with
          | t + 2, _ => rfl
      · omega
    · rw [List.getElem?_eq_none (by simpa using hn)]
      rfl
end
section
/-! ===== fx: the judgement J: from this place of the code, with these pure locals, stack and heap, the machine comes to Q ===== -/
def fx_WS : List Cond := lw_tbl.filter goodWord
theorem fx_WS_good : GoodIn fx_WS fx_WS := fun w h => ⟨h, good_of_word (List.mem_filter.mp h).2⟩
/-- what isn't the world's: carried along (statics, links of nest mates, texts) -/
def fx_loc (ad ex : Nat → Nat) (ls : List (Option fx_V)) (nL : Nat) (la : Array Slot) : Prop := la.size = nL ∧ lv_wf la ∧ ∀ (i : Nat) (v : fx_V), ls[i]? = some (some v) → la[i]? = some (.val (fx_v ad ex v))
abbrev fx_M : Type := Program × Launch × Env × Room × State × MethodId × Array Value × List Frame × Method × Code × Nat × Nat × (State → Prop)
abbrev fx_G : Type := va_G × (Nat → ClassId) × (Nat → Nat) × (Nat → Nat) × (Nat → Prop)
def fx_J (M : fx_M) (G : fx_G) (Λ : fx_L) (nL pc : Nat) (ls : List (Option fx_V)) (st : List fx_V) (h : fx_H) : Prop := match M, G with
  | (p, l, e, R, s, m, args, below, meth, c, cells, slots, Q), (D, cy, ad, ex, A) =>
    (∀ (i : Nat) (v : fx_V), ls[i]? = some (some v) → fx_ok Λ v) → (∀ v ∈ st, fx_ok Λ v) → fx_rg h → ∀ (H : Heap) (locs : List Loc) (la : Array Slot),
      va_P D vwCl (fx_ws cy ad Λ h) H → va_D A (fx_ws cy ad Λ h) → va_S A s.heap H locs → fx_loc ad ex ls nL la → W p l e R s m args below meth c H locs cells slots Q (F0 m pc la (st.map (fx_v ad ex)))
def fx_F (X : (Nat → Nat) → (Nat → Prop) → State → Prop) (M : fx_M) (G : fx_G) (Λ : fx_L) (cc : ByteArray) (own : String) (nL : Nat) (rm : Room) : Prop := match M, G with
  | (p, l, e, R, s, m, args, below, meth, c, cells, slots, Q), (D, cy, ad, ex, A) =>
    p.tables.exec = Jvm.exec ∧ c.code = cc ∧ c.maxLocals = nL ∧ s.vm.findClass own = some m.cls ∧ (∀ w ∈ fx_WS, w.before args s = true) ∧ va_K D vwCl (fx_tys cy) s ∧ fx_wf Λ ∧ (∀ q, s.heap.size ≤ q → A q) ∧ R = rm ∧ meth.locks = false ∧ (cells ≤ R.cells ∧ slots ≤ R.slots) ∧ X ex A s
theorem fx_ok_i {Λ : fx_L} {x : Int} (h : fx_ok Λ (0, x)) : fx_R x := h
theorem fx_ok_l {Λ : fx_L} {x : Int} (h : fx_ok Λ (1, x)) : fx_Rl x := h
theorem fx_okc {Λ : fx_L} {v : fx_V} {st : List fx_V} (h1 : fx_ok Λ v) (h2 : ∀ w ∈ st, fx_ok Λ w) : ∀ w ∈ v :: st, fx_ok Λ w := fun w h => by
  rcases List.mem_cons.mp h with rfl | h
  · exact h1
  · exact h2 w h
section FXJ
variable {X : (Nat → Nat) → (Nat → Prop) → State → Prop} {M : fx_M} {G : fx_G} {Λ : fx_L} {cc : ByteArray} {own : String} {nL pc : Nat} {rm : Room} {ls : List (Option fx_V)} {st : List fx_V} {h : fx_H}
theorem fx_iconst (F : fx_F X M G Λ cc own nL rm) {n : Int} (hn : fx_R n) (d : decode cc pc = .ok (.iconst n, 1)) (g : fx_J M G Λ nL (pc + 1) ls ((0, n) :: st) h) : fx_J M G Λ nL pc ls st h := by
  obtain ⟨p, l, e, R, s, m, args, below, meth, c, cells, slots, Q⟩ := M
  obtain ⟨D, cy, ad, ex, A⟩ := G
  obtain ⟨hx, hb, hml, hown, hts, hK, hwf, hA, hRm, hlocks, hcr, hX⟩ := F
  intro hls hst hR H locs la hP hD hS hl
  exact lv_iconst hx hb d rfl (g hls (fx_okc hn hst) hR H locs la hP hD hS hl)
theorem fx_bipush (F : fx_F X M G Λ cc own nL rm) {n : Int} (hn : fx_R n) (hv : (Int8.ofInt n).toInt32 = Int32.ofInt n) (d : decode cc pc = .ok (.bipush n, 2)) (g : fx_J M G Λ nL (pc + 2) ls ((0, n) :: st) h) : fx_J M G Λ nL pc ls st h := by
  obtain ⟨p, l, e, R, s, m, args, below, meth, c, cells, slots, Q⟩ := M
  obtain ⟨D, cy, ad, ex, A⟩ := G
  obtain ⟨hx, hb, hml, hown, hts, hK, hwf, hA, hRm, hlocks, hcr, hX⟩ := F
  intro hls hst hR H locs la hP hD hS hl
  exact lv_bipush hx hb d hv (g hls (fx_okc hn hst) hR H locs la hP hD hS hl)
theorem fx_sipush (F : fx_F X M G Λ cc own nL rm) {n : Int} (hn : fx_R n) (hv : (Int16.ofInt n).toInt32 = Int32.ofInt n) (d : decode cc pc = .ok (.sipush n, 3)) (g : fx_J M G Λ nL (pc + 3) ls ((0, n) :: st) h) : fx_J M G Λ nL pc ls st h := by
  obtain ⟨p, l, e, R, s, m, args, below, meth, c, cells, slots, Q⟩ := M
  obtain ⟨D, cy, ad, ex, A⟩ := G
  obtain ⟨hx, hb, hml, hown, hts, hK, hwf, hA, hRm, hlocks, hcr, hX⟩ := F
  intro hls hst hR H locs la hP hD hS hl
  exact lv_sipush hx hb d hv (g hls (fx_okc hn hst) hR H locs la hP hD hS hl)
theorem fx_lconst (F : fx_F X M G Λ cc own nL rm) {n : Fin 2} {z : Int} (hz : z = (n : Nat)) (hn : fx_Rl z) (hv : Int64.ofNat (n : Nat) = Int64.ofInt z) (d : decode cc pc = .ok (.lconst n, 1)) (g : fx_J M G Λ nL (pc + 1) ls ((1, z) :: st) h) : fx_J M G Λ nL pc ls st h := by
  obtain ⟨p, l, e, R, s, m, args, below, meth, c, cells, slots, Q⟩ := M
  obtain ⟨D, cy, ad, ex, A⟩ := G
  obtain ⟨hx, hb, hml, hown, hts, hK, hwf, hA, hRm, hlocks, hcr, hX⟩ := F
  intro hls hst hR H locs la hP hD hS hl
  exact lv_lconst hx hb d hv (g hls (fx_okc hn hst) hR H locs la hP hD hS hl)
theorem fx_ldc (F : fx_F X M G Λ cc own nL rm) {index : Nat} {v : Int32} {z : Int} (hz : Int32.ofInt z = v) (hn : fx_R z) (lk : Cond.constant own index v ∈ fx_WS) (d : decode cc pc = .ok (.ldc index, 2)) (g : fx_J M G Λ nL (pc + 2) ls ((0, z) :: st) h) : fx_J M G Λ nL pc ls st h := by
  obtain ⟨p, l, e, R, s, m, args, below, meth, c, cells, slots, Q⟩ := M
  obtain ⟨D, cy, ad, ex, A⟩ := G
  obtain ⟨hx, hb, hml, hown, hts, hK, hwf, hA, hRm, hlocks, hcr, hX⟩ := F
  intro hls hst hR H locs la hP hD hS hl
  subst hz
  exact lv_ldc hx hb hown (hts _ lk) d (g hls (fx_okc hn hst) hR H locs la hP hD hS hl)
theorem fx_ldc2 (F : fx_F X M G Λ cc own nL rm) {index : Nat} {v : Int64} {z : Int} (hz : Int64.ofInt z = v) (hn : fx_Rl z) (lk : Cond.constantLong own index v ∈ fx_WS) (d : decode cc pc = .ok (.ldc2_w index, 3)) (g : fx_J M G Λ nL (pc + 3) ls ((1, z) :: st) h) : fx_J M G Λ nL pc ls st h := by
  obtain ⟨p, l, e, R, s, m, args, below, meth, c, cells, slots, Q⟩ := M
  obtain ⟨D, cy, ad, ex, A⟩ := G
  obtain ⟨hx, hb, hml, hown, hts, hK, hwf, hA, hRm, hlocks, hcr, hX⟩ := F
  intro hls hst hR H locs la hP hD hS hl
  subst hz
  exact lv_ldc2 hx hb hown (hts _ lk) d (g hls (fx_okc hn hst) hR H locs la hP hD hS hl)
theorem fx_iload_n (F : fx_F X M G Λ cc own nL rm) {k : Fin 4} {x : Int} (i : Nat) (hi : (k : Nat) = i) (hv : ls[i]? = some (some (0, x))) (d : decode cc pc = .ok (.iload_n k, 1)) (g : fx_J M G Λ nL (pc + 1) ls ((0, x) :: st) h) : fx_J M G Λ nL pc ls st h := by
  obtain ⟨p, l, e, R, s, m, args, below, meth, c, cells, slots, Q⟩ := M
  obtain ⟨D, cy, ad, ex, A⟩ := G
  obtain ⟨hx, hb, hml, hown, hts, hK, hwf, hA, hRm, hlocks, hcr, hX⟩ := F
  intro hls hst hR H locs la hP hD hS hl
  exact lv_iload_n hx hb d hi (hl.2.2 i _ hv) (g hls (fx_okc (hls i _ hv) hst) hR H locs la hP hD hS hl)
theorem fx_iload (F : fx_F X M G Λ cc own nL rm) {x : Int} {i : Nat} (hv : ls[i]? = some (some (0, x))) (d : decode cc pc = .ok (.iload i, 2)) (g : fx_J M G Λ nL (pc + 2) ls ((0, x) :: st) h) : fx_J M G Λ nL pc ls st h := by
  obtain ⟨p, l, e, R, s, m, args, below, meth, c, cells, slots, Q⟩ := M
  obtain ⟨D, cy, ad, ex, A⟩ := G
  obtain ⟨hx, hb, hml, hown, hts, hK, hwf, hA, hRm, hlocks, hcr, hX⟩ := F
  intro hls hst hR H locs la hP hD hS hl
  exact lv_iload hx hb d (hl.2.2 i _ hv) (g hls (fx_okc (hls i _ hv) hst) hR H locs la hP hD hS hl)
theorem fx_lload_n (F : fx_F X M G Λ cc own nL rm) {k : Fin 4} {x : Int} (i : Nat) (hi : (k : Nat) = i) (hv : ls[i]? = some (some (1, x))) (d : decode cc pc = .ok (.lload_n k, 1)) (g : fx_J M G Λ nL (pc + 1) ls ((1, x) :: st) h) : fx_J M G Λ nL pc ls st h := by
  obtain ⟨p, l, e, R, s, m, args, below, meth, c, cells, slots, Q⟩ := M
  obtain ⟨D, cy, ad, ex, A⟩ := G
  obtain ⟨hx, hb, hml, hown, hts, hK, hwf, hA, hRm, hlocks, hcr, hX⟩ := F
  intro hls hst hR H locs la hP hD hS hl
  exact lv_lload_n hx hb d hi (hl.2.2 i _ hv) (g hls (fx_okc (hls i _ hv) hst) hR H locs la hP hD hS hl)
theorem fx_lload (F : fx_F X M G Λ cc own nL rm) {x : Int} {i : Nat} (hv : ls[i]? = some (some (1, x))) (d : decode cc pc = .ok (.lload i, 2)) (g : fx_J M G Λ nL (pc + 2) ls ((1, x) :: st) h) : fx_J M G Λ nL pc ls st h := by
  obtain ⟨p, l, e, R, s, m, args, below, meth, c, cells, slots, Q⟩ := M
  obtain ⟨D, cy, ad, ex, A⟩ := G
  obtain ⟨hx, hb, hml, hown, hts, hK, hwf, hA, hRm, hlocks, hcr, hX⟩ := F
  intro hls hst hR H locs la hP hD hS hl
  exact lv_lload hx hb d (hl.2.2 i _ hv) (g hls (fx_okc (hls i _ hv) hst) hR H locs la hP hD hS hl)
theorem fx_v_ref (ad ex : Nat → Nat) (k : Nat) (x : Int) : ∃ q : Nat, fx_v ad ex (k + 2, x) = .ref q := by
  unfold fx_v
  cases hk : Nat.ble 18 k
  · exact ⟨ad x.toNat, by simp only [hk]⟩
  · exact ⟨ex x.toNat, by simp only [hk]⟩
theorem fx_aload_n (F : fx_F X M G Λ cc own nL rm) {k : Fin 4} {x : Int} {t : Nat} (i : Nat) (hi : (k : Nat) = i) (hv : ls[i]? = some (some (t + 2, x))) (d : decode cc pc = .ok (.aload_n k, 1)) (g : fx_J M G Λ nL (pc + 1) ls ((t + 2, x) :: st) h) : fx_J M G Λ nL pc ls st h := by
  obtain ⟨p, l, e, R, s, m, args, below, meth, c, cells, slots, Q⟩ := M
  obtain ⟨D, cy, ad, ex, A⟩ := G
  obtain ⟨hx, hb, hml, hown, hts, hK, hwf, hA, hRm, hlocks, hcr, hX⟩ := F
  intro hls hst hR H locs la hP hD hS hl
  obtain ⟨q, hq⟩ := fx_v_ref ad ex t x
  have h1 := hl.2.2 i _ hv
  have h2 := g hls (fx_okc (hls i _ hv) hst) hR H locs la hP hD hS hl
  rw [List.map_cons, hq] at h2
  rw [hq] at h1
  exact lv_aload_n hx hb d hi h1 h2
theorem fx_aload (F : fx_F X M G Λ cc own nL rm) {x : Int} {t i : Nat} (hv : ls[i]? = some (some (t + 2, x))) (d : decode cc pc = .ok (.aload i, 2)) (g : fx_J M G Λ nL (pc + 2) ls ((t + 2, x) :: st) h) : fx_J M G Λ nL pc ls st h := by
  obtain ⟨p, l, e, R, s, m, args, below, meth, c, cells, slots, Q⟩ := M
  obtain ⟨D, cy, ad, ex, A⟩ := G
  obtain ⟨hx, hb, hml, hown, hts, hK, hwf, hA, hRm, hlocks, hcr, hX⟩ := F
  intro hls hst hR H locs la hP hD hS hl
  obtain ⟨q, hq⟩ := fx_v_ref ad ex t x
  have h1 := hl.2.2 i _ hv
  have h2 := g hls (fx_okc (hls i _ hv) hst) hR H locs la hP hD hS hl
  rw [List.map_cons, hq] at h2
  rw [hq] at h1
  exact lv_aload hx hb d h1 h2
/-- no long begins just ahead of i -/
def fx_np (ls : List (Option fx_V)) (i : Nat) : Bool := match i with
  | 0 => true
  | j + 1 => match ls[j]? with
    | some (some v) => v.1 != 1
    | _ => true
theorem fx_np_use {ls : List (Option fx_V)} {i : Nat} (hp : fx_np ls i = true) : ∀ j x, j + 1 = i → ls[j]? ≠ some (some (1, x)) := fun j x hj hv => by
  subst hj
  simp [fx_np, hv] at hp
/-- the locals as a list of the kit's form -/
def fx_ll (ad ex : Nat → Nat) (ls : List (Option fx_V)) : List (Nat × Value) := (List.range ls.length).filterMap (fun i => match ls[i]? with
  | some (some v) => some (i, fx_v ad ex v)
  | _ => none)
theorem fx_ll_mem {ad ex : Nat → Nat} {ls : List (Option fx_V)} {q : Nat × Value} : q ∈ fx_ll ad ex ls ↔ ∃ v : fx_V, ls[q.1]? = some (some v) ∧ q.2 = fx_v ad ex v := by
  unfold fx_ll
  rw [List.mem_filterMap]
  constructor
  · rintro ⟨i, -, hi⟩
    split at hi
    · rename_i v hv
      cases hi
      exact ⟨v, hv, rfl⟩
    · cases hi
  · rintro ⟨v, hv, hq⟩
    refine ⟨q.1, List.mem_range.mpr (List.getElem?_eq_some_iff.mp hv).1, ?_⟩
    rw [hv]
    simp only [Option.some.injEq]
    rw [← hq]
theorem fx_loc_has {ad ex : Nat → Nat} {ls : List (Option fx_V)} {nL : Nat} {la : Array Slot} (hl : fx_loc ad ex ls nL la) : lv_has la nL (fx_ll ad ex ls) := ⟨hl.1, hl.2.1, fun q hq => by
  obtain ⟨v, h1, h2⟩ := fx_ll_mem.mp hq
  rw [h2]
  exact hl.2.2 _ _ h1⟩
/-- storing one word at i: no long may begin at i - 1 -/
theorem fx_loc_st1 {ad ex : Nat → Nat} {ls ls' : List (Option fx_V)} {nL i : Nat} {la' : Array Slot} {v : fx_V} (hh : lv_has la' nL ((i, fx_v ad ex v) :: (fx_ll ad ex ls).filter (fun q => !(q.1 == i) && !(q.1 + 1 == i && q.2.category == 2)))) (hs : ls.set i (some v) = ls') (hp : ∀ j x, j + 1 = i → ls[j]? ≠ some (some (1, x))) : fx_loc ad ex ls' nL la' := by
  subst hs
  refine ⟨hh.1, hh.2.1, fun j w hw => ?_⟩
  rw [List.getElem?_set] at hw
  by_cases hj : i = j
  · subst hj
    rw [if_pos rfl] at hw
    split at hw
    · cases hw
      exact hh.2.2 (i, fx_v ad ex v) List.mem_cons_self
    · cases hw
  · rw [if_neg hj] at hw
    refine hh.2.2 (j, fx_v ad ex w) (List.mem_cons_of_mem _ (List.mem_filter.mpr ⟨fx_ll_mem.mpr ⟨w, hw, rfl⟩, ?_⟩))
    have h1 : (j == i) = false := by simpa using fun e => hj e.symm
    by_cases hj1 : j + 1 = i
    · have h2 : (fx_v ad ex w).category ≠ 2 := by
        intro hc
        obtain ⟨t, x⟩ := w
        match t, hc, hw with
        | 0, hc, _ => exact absurd hc (by simp [fx_v, Value.category])
        | 1, _, hw => exact hp j x hj1 hw
        | k + 2, hc, _ =>
          obtain ⟨q, hq⟩ := fx_v_ref ad ex k x
          rw [hq] at hc
          exact absurd hc (by simp [Value.category])
      simp [h1, h2]
    · simp [h1, hj1]
theorem fx_loc_st2 {ad ex : Nat → Nat} {ls ls' : List (Option fx_V)} {nL i : Nat} {la' : Array Slot} {v : fx_V} (hh : lv_has la' nL ((i, fx_v ad ex v) :: (fx_ll ad ex ls).filter (fun q => !(q.1 == i) && (!(q.1 == i + 1) && !(q.1 + 1 == i && q.2.category == 2))))) (hs : (ls.set i (some v)).set (i + 1) none = ls') (hp : ∀ j x, j + 1 = i → ls[j]? ≠ some (some (1, x))) : fx_loc ad ex ls' nL la' := by
  subst hs
  refine ⟨hh.1, hh.2.1, fun j w hw => ?_⟩
  rw [List.getElem?_set] at hw
  by_cases hj2 : i + 1 = j
  · rw [if_pos hj2] at hw
    split at hw <;> cases hw
  · rw [if_neg hj2, List.getElem?_set] at hw
    by_cases hj : i = j
    · subst hj
      rw [if_pos rfl] at hw
      split at hw
      · cases hw
        exact hh.2.2 (i, fx_v ad ex v) List.mem_cons_self
      · cases hw
    · rw [if_neg hj] at hw
      refine hh.2.2 (j, fx_v ad ex w) (List.mem_cons_of_mem _ (List.mem_filter.mpr ⟨fx_ll_mem.mpr ⟨w, hw, rfl⟩, ?_⟩))
      have h1 : (j == i) = false := by simpa using fun e => hj e.symm
      have h3 : (j == i + 1) = false := by simpa using fun e => hj2 e.symm
      by_cases hj1 : j + 1 = i
      · have h2 : (fx_v ad ex w).category ≠ 2 := by
          intro hc
          obtain ⟨t, x⟩ := w
          match t, hc, hw with
          | 0, hc, _ => exact absurd hc (by simp [fx_v, Value.category])
          | 1, _, hw => exact hp j x hj1 hw
          | k + 2, hc, _ =>
            obtain ⟨q, hq⟩ := fx_v_ref ad ex k x
            rw [hq] at hc
            exact absurd hc (by simp [Value.category])
        simp [h1, h2, h3]
      · simp [h1, hj1, h3]
theorem fx_ok_set {Λ : fx_L} {ls ls' : List (Option fx_V)} {i : Nat} {v : fx_V} (hs : ls.set i (some v) = ls') (hls : ∀ (i : Nat) (v : fx_V), ls[i]? = some (some v) → fx_ok Λ v) (hv : fx_ok Λ v) : ∀ (i : Nat) (v : fx_V), ls'[i]? = some (some v) → fx_ok Λ v := by
  subst hs
  intro j w hw
  rw [List.getElem?_set] at hw
  by_cases hj : i = j
  · subst hj
    rw [if_pos rfl] at hw
    split at hw
    · cases hw
      exact hv
    · cases hw
  · rw [if_neg hj] at hw
    exact hls j w hw
theorem fx_ok_set2 {Λ : fx_L} {ls ls' : List (Option fx_V)} {i : Nat} {v : fx_V} (hs : (ls.set i (some v)).set (i + 1) none = ls') (hls : ∀ (i : Nat) (v : fx_V), ls[i]? = some (some v) → fx_ok Λ v) (hv : fx_ok Λ v) : ∀ (i : Nat) (v : fx_V), ls'[i]? = some (some v) → fx_ok Λ v := by
  subst hs
  intro j w hw
  rw [List.getElem?_set] at hw
  by_cases hj : i + 1 = j
  · rw [if_pos hj] at hw
    split at hw <;> cases hw
  · rw [if_neg hj] at hw
    exact fx_ok_set rfl hls hv j w hw
theorem fx_istore_n (F : fx_F X M G Λ cc own nL rm) {k : Fin 4} {x : Int} (i : Nat) {ls' : List (Option fx_V)} (hi : (k : Nat) = i) (hn : i < nL) (hs : ls.set i (some (0, x)) = ls') (hp : fx_np ls i = true) (d : decode cc pc = .ok (.istore_n k, 1)) (g : fx_J M G Λ nL (pc + 1) ls' st h) : fx_J M G Λ nL pc ls ((0, x) :: st) h := by
  obtain ⟨p, l, e, R, s, m, args, below, meth, c, cells, slots, Q⟩ := M
  obtain ⟨D, cy, ad, ex, A⟩ := G
  obtain ⟨hx, hb, hml, hown, hts, hK, hwf, hA, hRm, hlocks, hcr, hX⟩ := F
  intro hls hst hR H locs la hP hD hS hl
  have hp' := fx_np_use hp
  refine lv_istore_n hx hb d hi (fx_loc_has hl) hn rfl (fun la' hh => ?_)
  exact g (fx_ok_set hs hls (hst _ List.mem_cons_self)) (fun v hv => hst v (List.mem_cons_of_mem _ hv)) hR H locs la' hP hD hS (fx_loc_st1 (v := (0, x)) hh hs hp')
theorem fx_istore (F : fx_F X M G Λ cc own nL rm) {x : Int} {i : Nat} {ls' : List (Option fx_V)} (hn : i < nL) (hs : ls.set i (some (0, x)) = ls') (hp : fx_np ls i = true) (d : decode cc pc = .ok (.istore i, 2)) (g : fx_J M G Λ nL (pc + 2) ls' st h) : fx_J M G Λ nL pc ls ((0, x) :: st) h := by
  obtain ⟨p, l, e, R, s, m, args, below, meth, c, cells, slots, Q⟩ := M
  obtain ⟨D, cy, ad, ex, A⟩ := G
  obtain ⟨hx, hb, hml, hown, hts, hK, hwf, hA, hRm, hlocks, hcr, hX⟩ := F
  intro hls hst hR H locs la hP hD hS hl
  have hp' := fx_np_use hp
  refine lv_istore hx hb d (fx_loc_has hl) hn rfl (fun la' hh => ?_)
  exact g (fx_ok_set hs hls (hst _ List.mem_cons_self)) (fun v hv => hst v (List.mem_cons_of_mem _ hv)) hR H locs la' hP hD hS (fx_loc_st1 (v := (0, x)) hh hs hp')
theorem fx_lstore_n (F : fx_F X M G Λ cc own nL rm) {k : Fin 4} {x : Int} (i : Nat) {ls' : List (Option fx_V)} (hi : (k : Nat) = i) (hn : i + 1 < nL) (hs : (ls.set i (some (1, x))).set (i + 1) none = ls') (hp : fx_np ls i = true) (d : decode cc pc = .ok (.lstore_n k, 1)) (g : fx_J M G Λ nL (pc + 1) ls' st h) : fx_J M G Λ nL pc ls ((1, x) :: st) h := by
  obtain ⟨p, l, e, R, s, m, args, below, meth, c, cells, slots, Q⟩ := M
  obtain ⟨D, cy, ad, ex, A⟩ := G
  obtain ⟨hx, hb, hml, hown, hts, hK, hwf, hA, hRm, hlocks, hcr, hX⟩ := F
  intro hls hst hR H locs la hP hD hS hl
  have hp' := fx_np_use hp
  refine lv_lstore_n hx hb d hi (fx_loc_has hl) hn rfl (fun la' hh => ?_)
  exact g (fx_ok_set2 hs hls (hst _ List.mem_cons_self)) (fun v hv => hst v (List.mem_cons_of_mem _ hv)) hR H locs la' hP hD hS (fx_loc_st2 (v := (1, x)) hh hs hp')
theorem fx_lstore (F : fx_F X M G Λ cc own nL rm) {x : Int} {i : Nat} {ls' : List (Option fx_V)} (hn : i + 1 < nL) (hs : (ls.set i (some (1, x))).set (i + 1) none = ls') (hp : fx_np ls i = true) (d : decode cc pc = .ok (.lstore i, 2)) (g : fx_J M G Λ nL (pc + 2) ls' st h) : fx_J M G Λ nL pc ls ((1, x) :: st) h := by
  obtain ⟨p, l, e, R, s, m, args, below, meth, c, cells, slots, Q⟩ := M
  obtain ⟨D, cy, ad, ex, A⟩ := G
  obtain ⟨hx, hb, hml, hown, hts, hK, hwf, hA, hRm, hlocks, hcr, hX⟩ := F
  intro hls hst hR H locs la hP hD hS hl
  have hp' := fx_np_use hp
  refine lv_lstore hx hb d (fx_loc_has hl) hn rfl (fun la' hh => ?_)
  exact g (fx_ok_set2 hs hls (hst _ List.mem_cons_self)) (fun v hv => hst v (List.mem_cons_of_mem _ hv)) hR H locs la' hP hD hS (fx_loc_st2 (v := (1, x)) hh hs hp')
theorem fx_astore_n (F : fx_F X M G Λ cc own nL rm) {k : Fin 4} {x : Int} {t : Nat} (i : Nat) {ls' : List (Option fx_V)} (hi : (k : Nat) = i) (hn : i < nL) (hs : ls.set i (some (t + 2, x)) = ls') (hp : fx_np ls i = true) (d : decode cc pc = .ok (.astore_n k, 1)) (g : fx_J M G Λ nL (pc + 1) ls' st h) : fx_J M G Λ nL pc ls ((t + 2, x) :: st) h := by
  obtain ⟨p, l, e, R, s, m, args, below, meth, c, cells, slots, Q⟩ := M
  obtain ⟨D, cy, ad, ex, A⟩ := G
  obtain ⟨hx, hb, hml, hown, hts, hK, hwf, hA, hRm, hlocks, hcr, hX⟩ := F
  intro hls hst hR H locs la hP hD hS hl
  have hp' := fx_np_use hp
  obtain ⟨q, hq⟩ := fx_v_ref ad ex t x
  rw [List.map_cons, hq]
  refine lv_astore_n hx hb d hi (fx_loc_has hl) hn rfl (fun la' hh => ?_)
  rw [← hq] at hh
  exact g (fx_ok_set hs hls (hst _ List.mem_cons_self)) (fun v hv => hst v (List.mem_cons_of_mem _ hv)) hR H locs la' hP hD hS (fx_loc_st1 hh hs hp')
theorem fx_astore (F : fx_F X M G Λ cc own nL rm) {x : Int} {t i : Nat} {ls' : List (Option fx_V)} (hn : i < nL) (hs : ls.set i (some (t + 2, x)) = ls') (hp : fx_np ls i = true) (d : decode cc pc = .ok (.astore i, 2)) (g : fx_J M G Λ nL (pc + 2) ls' st h) : fx_J M G Λ nL pc ls ((t + 2, x) :: st) h := by
  obtain ⟨p, l, e, R, s, m, args, below, meth, c, cells, slots, Q⟩ := M
  obtain ⟨D, cy, ad, ex, A⟩ := G
  obtain ⟨hx, hb, hml, hown, hts, hK, hwf, hA, hRm, hlocks, hcr, hX⟩ := F
  intro hls hst hR H locs la hP hD hS hl
  have hp' := fx_np_use hp
  obtain ⟨q, hq⟩ := fx_v_ref ad ex t x
  rw [List.map_cons, hq]
  refine lv_astore hx hb d (fx_loc_has hl) hn rfl (fun la' hh => ?_)
  rw [← hq] at hh
  exact g (fx_ok_set hs hls (hst _ List.mem_cons_self)) (fun v hv => hst v (List.mem_cons_of_mem _ hv)) hR H locs la' hP hD hS (fx_loc_st1 hh hs hp')
theorem fx_iinc (F : fx_F X M G Λ cc own nL rm) {x n : Int} {i : Nat} {ls' : List (Option fx_V)} (hn : i < nL) (hv : ls[i]? = some (some (0, x))) (hs : ls.set i (some (0, fx_w (x + n))) = ls') (hp : fx_np ls i = true) (d : decode cc pc = .ok (.iinc i n, 3)) (g : fx_J M G Λ nL (pc + 3) ls' st h) : fx_J M G Λ nL pc ls st h := by
  obtain ⟨p, l, e, R, s, m, args, below, meth, c, cells, slots, Q⟩ := M
  obtain ⟨D, cy, ad, ex, A⟩ := G
  obtain ⟨hx, hb, hml, hown, hts, hK, hwf, hA, hRm, hlocks, hcr, hX⟩ := F
  intro hls hst hR H locs la hP hD hS hl
  have hp' := fx_np_use hp
  obtain ⟨k, hk⟩ := List.getElem?_of_mem (fx_ll_mem (ad := ad) (ex := ex) (q := (i, .int (Int32.ofInt x))) |>.mpr ⟨(0, x), hv, rfl⟩)
  refine lv_iinc hx hb d (fx_loc_has hl) hk (fx_add x n) hn rfl (fun la' hh => ?_)
  exact g (fx_ok_set hs hls (fx_w_R _)) hst hR H locs la' hP hD hS (fx_loc_st1 (v := (0, fx_w (x + n))) hh hs hp')
theorem fx_iadd (F : fx_F X M G Λ cc own nL rm) {x y : Int} (d : decode cc pc = .ok (.iadd, 1)) (g : fx_J M G Λ nL (pc + 1) ls ((0, fx_w (x + y)) :: st) h) : fx_J M G Λ nL pc ls ((0, y) :: (0, x) :: st) h := by
  obtain ⟨p, l, e, R, s, m, args, below, meth, c, cells, slots, Q⟩ := M
  obtain ⟨D, cy, ad, ex, A⟩ := G
  obtain ⟨hx, hb, hml, hown, hts, hK, hwf, hA, hRm, hlocks, hcr, hX⟩ := F
  intro hls hst hR H locs la hP hD hS hl
  have hy' := hst _ List.mem_cons_self
  have hx' := hst _ (List.mem_cons_of_mem _ List.mem_cons_self)
  have hr' : ∀ v ∈ st, fx_ok Λ v := fun v hv => hst v (List.mem_cons_of_mem _ (List.mem_cons_of_mem _ hv))
  refine lv_iadd hx hb d ?_
  rw [fx_add x y]
  exact g hls (fx_okc (fx_w_R _) hr') hR H locs la hP hD hS hl
theorem fx_isub (F : fx_F X M G Λ cc own nL rm) {x y : Int} (d : decode cc pc = .ok (.isub, 1)) (g : fx_J M G Λ nL (pc + 1) ls ((0, fx_w (x - y)) :: st) h) : fx_J M G Λ nL pc ls ((0, y) :: (0, x) :: st) h := by
  obtain ⟨p, l, e, R, s, m, args, below, meth, c, cells, slots, Q⟩ := M
  obtain ⟨D, cy, ad, ex, A⟩ := G
  obtain ⟨hx, hb, hml, hown, hts, hK, hwf, hA, hRm, hlocks, hcr, hX⟩ := F
  intro hls hst hR H locs la hP hD hS hl
  have hy' := hst _ List.mem_cons_self
  have hx' := hst _ (List.mem_cons_of_mem _ List.mem_cons_self)
  have hr' : ∀ v ∈ st, fx_ok Λ v := fun v hv => hst v (List.mem_cons_of_mem _ (List.mem_cons_of_mem _ hv))
  refine lv_isub hx hb d ?_
  rw [fx_sub x y]
  exact g hls (fx_okc (fx_w_R _) hr') hR H locs la hP hD hS hl
theorem fx_imul (F : fx_F X M G Λ cc own nL rm) {x y : Int} (d : decode cc pc = .ok (.imul, 1)) (g : fx_J M G Λ nL (pc + 1) ls ((0, fx_w (x * y)) :: st) h) : fx_J M G Λ nL pc ls ((0, y) :: (0, x) :: st) h := by
  obtain ⟨p, l, e, R, s, m, args, below, meth, c, cells, slots, Q⟩ := M
  obtain ⟨D, cy, ad, ex, A⟩ := G
  obtain ⟨hx, hb, hml, hown, hts, hK, hwf, hA, hRm, hlocks, hcr, hX⟩ := F
  intro hls hst hR H locs la hP hD hS hl
  have hy' := hst _ List.mem_cons_self
  have hx' := hst _ (List.mem_cons_of_mem _ List.mem_cons_self)
  have hr' : ∀ v ∈ st, fx_ok Λ v := fun v hv => hst v (List.mem_cons_of_mem _ (List.mem_cons_of_mem _ hv))
  refine lv_imul hx hb d ?_
  rw [fx_mul x y]
  exact g hls (fx_okc (fx_w_R _) hr') hR H locs la hP hD hS hl
theorem fx_ladd (F : fx_F X M G Λ cc own nL rm) {x y : Int} (d : decode cc pc = .ok (.ladd, 1)) (g : fx_J M G Λ nL (pc + 1) ls ((1, fx_wl (x + y)) :: st) h) : fx_J M G Λ nL pc ls ((1, y) :: (1, x) :: st) h := by
  obtain ⟨p, l, e, R, s, m, args, below, meth, c, cells, slots, Q⟩ := M
  obtain ⟨D, cy, ad, ex, A⟩ := G
  obtain ⟨hx, hb, hml, hown, hts, hK, hwf, hA, hRm, hlocks, hcr, hX⟩ := F
  intro hls hst hR H locs la hP hD hS hl
  have hy' := hst _ List.mem_cons_self
  have hx' := hst _ (List.mem_cons_of_mem _ List.mem_cons_self)
  have hr' : ∀ v ∈ st, fx_ok Λ v := fun v hv => hst v (List.mem_cons_of_mem _ (List.mem_cons_of_mem _ hv))
  refine lv_ladd hx hb d ?_
  rw [fx_addl x y]
  exact g hls (fx_okc (fx_wl_R _) hr') hR H locs la hP hD hS hl
theorem fx_lsub (F : fx_F X M G Λ cc own nL rm) {x y : Int} (d : decode cc pc = .ok (.lsub, 1)) (g : fx_J M G Λ nL (pc + 1) ls ((1, fx_wl (x - y)) :: st) h) : fx_J M G Λ nL pc ls ((1, y) :: (1, x) :: st) h := by
  obtain ⟨p, l, e, R, s, m, args, below, meth, c, cells, slots, Q⟩ := M
  obtain ⟨D, cy, ad, ex, A⟩ := G
  obtain ⟨hx, hb, hml, hown, hts, hK, hwf, hA, hRm, hlocks, hcr, hX⟩ := F
  intro hls hst hR H locs la hP hD hS hl
  have hy' := hst _ List.mem_cons_self
  have hx' := hst _ (List.mem_cons_of_mem _ List.mem_cons_self)
  have hr' : ∀ v ∈ st, fx_ok Λ v := fun v hv => hst v (List.mem_cons_of_mem _ (List.mem_cons_of_mem _ hv))
  refine lv_lsub hx hb d ?_
  rw [fx_subl x y]
  exact g hls (fx_okc (fx_wl_R _) hr') hR H locs la hP hD hS hl
theorem fx_lmul (F : fx_F X M G Λ cc own nL rm) {x y : Int} (d : decode cc pc = .ok (.lmul, 1)) (g : fx_J M G Λ nL (pc + 1) ls ((1, fx_wl (x * y)) :: st) h) : fx_J M G Λ nL pc ls ((1, y) :: (1, x) :: st) h := by
  obtain ⟨p, l, e, R, s, m, args, below, meth, c, cells, slots, Q⟩ := M
  obtain ⟨D, cy, ad, ex, A⟩ := G
  obtain ⟨hx, hb, hml, hown, hts, hK, hwf, hA, hRm, hlocks, hcr, hX⟩ := F
  intro hls hst hR H locs la hP hD hS hl
  have hy' := hst _ List.mem_cons_self
  have hx' := hst _ (List.mem_cons_of_mem _ List.mem_cons_self)
  have hr' : ∀ v ∈ st, fx_ok Λ v := fun v hv => hst v (List.mem_cons_of_mem _ (List.mem_cons_of_mem _ hv))
  refine lv_lmul hx hb d ?_
  rw [fx_mull x y]
  exact g hls (fx_okc (fx_wl_R _) hr') hR H locs la hP hD hS hl
theorem fx_idiv (F : fx_F X M G Λ cc own nL rm) {x y : Int} (h0 : ¬ y = 0) (d : decode cc pc = .ok (.idiv, 1)) (g : fx_J M G Λ nL (pc + 1) ls ((0, fx_w (x.tdiv y)) :: st) h) : fx_J M G Λ nL pc ls ((0, y) :: (0, x) :: st) h := by
  obtain ⟨p, l, e, R, s, m, args, below, meth, c, cells, slots, Q⟩ := M
  obtain ⟨D, cy, ad, ex, A⟩ := G
  obtain ⟨hx, hb, hml, hown, hts, hK, hwf, hA, hRm, hlocks, hcr, hX⟩ := F
  intro hls hst hR H locs la hP hD hS hl
  have hy' := hst _ List.mem_cons_self
  have hx' := hst _ (List.mem_cons_of_mem _ List.mem_cons_self)
  have hr' : ∀ v ∈ st, fx_ok Λ v := fun v hv => hst v (List.mem_cons_of_mem _ (List.mem_cons_of_mem _ hv))
  refine lv_idiv hx hb d (fun q => h0 ((fx_eq (fx_ok_i hy') (by unfold fx_R; omega)).mp q)) ?_
  rw [fx_div (fx_ok_i hx') (fx_ok_i hy')]
  exact g hls (fx_okc (fx_w_R _) hr') hR H locs la hP hD hS hl
theorem fx_irem (F : fx_F X M G Λ cc own nL rm) {x y : Int} (h0 : ¬ y = 0) (d : decode cc pc = .ok (.irem, 1)) (g : fx_J M G Λ nL (pc + 1) ls ((0, fx_w (x.tmod y)) :: st) h) : fx_J M G Λ nL pc ls ((0, y) :: (0, x) :: st) h := by
  obtain ⟨p, l, e, R, s, m, args, below, meth, c, cells, slots, Q⟩ := M
  obtain ⟨D, cy, ad, ex, A⟩ := G
  obtain ⟨hx, hb, hml, hown, hts, hK, hwf, hA, hRm, hlocks, hcr, hX⟩ := F
  intro hls hst hR H locs la hP hD hS hl
  have hy' := hst _ List.mem_cons_self
  have hx' := hst _ (List.mem_cons_of_mem _ List.mem_cons_self)
  have hr' : ∀ v ∈ st, fx_ok Λ v := fun v hv => hst v (List.mem_cons_of_mem _ (List.mem_cons_of_mem _ hv))
  refine lv_irem hx hb d (fun q => h0 ((fx_eq (fx_ok_i hy') (by unfold fx_R; omega)).mp q)) ?_
  rw [fx_rem (fx_ok_i hx') (fx_ok_i hy')]
  exact g hls (fx_okc (fx_w_R _) hr') hR H locs la hP hD hS hl
theorem fx_ldiv (F : fx_F X M G Λ cc own nL rm) {x y : Int} (h0 : ¬ y = 0) (d : decode cc pc = .ok (.ldiv, 1)) (g : fx_J M G Λ nL (pc + 1) ls ((1, fx_wl (x.tdiv y)) :: st) h) : fx_J M G Λ nL pc ls ((1, y) :: (1, x) :: st) h := by
  obtain ⟨p, l, e, R, s, m, args, below, meth, c, cells, slots, Q⟩ := M
  obtain ⟨D, cy, ad, ex, A⟩ := G
  obtain ⟨hx, hb, hml, hown, hts, hK, hwf, hA, hRm, hlocks, hcr, hX⟩ := F
  intro hls hst hR H locs la hP hD hS hl
  have hy' := hst _ List.mem_cons_self
  have hx' := hst _ (List.mem_cons_of_mem _ List.mem_cons_self)
  have hr' : ∀ v ∈ st, fx_ok Λ v := fun v hv => hst v (List.mem_cons_of_mem _ (List.mem_cons_of_mem _ hv))
  refine lv_ldiv hx hb d (fun q => h0 (by have := congrArg Int64.toInt q; rw [fx_tRl (fx_ok_l hy')] at this; exact this)) ?_
  rw [fx_divl (fx_ok_l hx') (fx_ok_l hy')]
  exact g hls (fx_okc (fx_wl_R _) hr') hR H locs la hP hD hS hl
theorem fx_lrem (F : fx_F X M G Λ cc own nL rm) {x y : Int} (h0 : ¬ y = 0) (d : decode cc pc = .ok (.lrem, 1)) (g : fx_J M G Λ nL (pc + 1) ls ((1, fx_wl (x.tmod y)) :: st) h) : fx_J M G Λ nL pc ls ((1, y) :: (1, x) :: st) h := by
  obtain ⟨p, l, e, R, s, m, args, below, meth, c, cells, slots, Q⟩ := M
  obtain ⟨D, cy, ad, ex, A⟩ := G
  obtain ⟨hx, hb, hml, hown, hts, hK, hwf, hA, hRm, hlocks, hcr, hX⟩ := F
  intro hls hst hR H locs la hP hD hS hl
  have hy' := hst _ List.mem_cons_self
  have hx' := hst _ (List.mem_cons_of_mem _ List.mem_cons_self)
  have hr' : ∀ v ∈ st, fx_ok Λ v := fun v hv => hst v (List.mem_cons_of_mem _ (List.mem_cons_of_mem _ hv))
  refine lv_lrem hx hb d (fun q => h0 (by have := congrArg Int64.toInt q; rw [fx_tRl (fx_ok_l hy')] at this; exact this)) ?_
  rw [fx_reml (fx_ok_l hx') (fx_ok_l hy')]
  exact g hls (fx_okc (fx_wl_R _) hr') hR H locs la hP hD hS hl
theorem fx_rland (F : fx_F X M G Λ cc own nL rm) {x y : Int} (d : decode cc pc = .ok (.land, 1)) (g : fx_J M G Λ nL (pc + 1) ls ((1, fx_land x y) :: st) h) : fx_J M G Λ nL pc ls ((1, y) :: (1, x) :: st) h := by
  obtain ⟨p, l, e, R, s, m, args, below, meth, c, cells, slots, Q⟩ := M
  obtain ⟨D, cy, ad, ex, A⟩ := G
  obtain ⟨hx, hb, hml, hown, hts, hK, hwf, hA, hRm, hlocks, hcr, hX⟩ := F
  intro hls hst hR H locs la hP hD hS hl
  have hy' := hst _ List.mem_cons_self
  have hx' := hst _ (List.mem_cons_of_mem _ List.mem_cons_self)
  have hr' : ∀ v ∈ st, fx_ok Λ v := fun v hv => hst v (List.mem_cons_of_mem _ (List.mem_cons_of_mem _ hv))
  refine lv_land hx hb d ?_
  have h2 := g hls (fx_okc (fx_toInt_Rl _) hr') hR H locs la hP hD hS hl
  have e : fx_v ad ex (1, fx_land x y) = .long (Int64.ofInt x &&& Int64.ofInt y) := by
    show Value.long (Int64.ofInt (fx_land x y)) = _
    unfold fx_land
    rw [fx_of_toIntl]
  rw [List.map_cons, e] at h2
  exact h2
theorem fx_rlor (F : fx_F X M G Λ cc own nL rm) {x y : Int} (d : decode cc pc = .ok (.lor, 1)) (g : fx_J M G Λ nL (pc + 1) ls ((1, fx_lor x y) :: st) h) : fx_J M G Λ nL pc ls ((1, y) :: (1, x) :: st) h := by
  obtain ⟨p, l, e, R, s, m, args, below, meth, c, cells, slots, Q⟩ := M
  obtain ⟨D, cy, ad, ex, A⟩ := G
  obtain ⟨hx, hb, hml, hown, hts, hK, hwf, hA, hRm, hlocks, hcr, hX⟩ := F
  intro hls hst hR H locs la hP hD hS hl
  have hy' := hst _ List.mem_cons_self
  have hx' := hst _ (List.mem_cons_of_mem _ List.mem_cons_self)
  have hr' : ∀ v ∈ st, fx_ok Λ v := fun v hv => hst v (List.mem_cons_of_mem _ (List.mem_cons_of_mem _ hv))
  refine lv_lor hx hb d ?_
  have h2 := g hls (fx_okc (fx_toInt_Rl _) hr') hR H locs la hP hD hS hl
  have e : fx_v ad ex (1, fx_lor x y) = .long (Int64.ofInt x ||| Int64.ofInt y) := by
    show Value.long (Int64.ofInt (fx_lor x y)) = _
    unfold fx_lor
    rw [fx_of_toIntl]
  rw [List.map_cons, e] at h2
  exact h2
theorem fx_riand (F : fx_F X M G Λ cc own nL rm) {x y : Int} (d : decode cc pc = .ok (.iand, 1)) (g : fx_J M G Λ nL (pc + 1) ls ((0, fx_iand x y) :: st) h) : fx_J M G Λ nL pc ls ((0, y) :: (0, x) :: st) h := by
  obtain ⟨p, l, e, R, s, m, args, below, meth, c, cells, slots, Q⟩ := M
  obtain ⟨D, cy, ad, ex, A⟩ := G
  obtain ⟨hx, hb, hml, hown, hts, hK, hwf, hA, hRm, hlocks, hcr, hX⟩ := F
  intro hls hst hR H locs la hP hD hS hl
  have hy' := hst _ List.mem_cons_self
  have hx' := hst _ (List.mem_cons_of_mem _ List.mem_cons_self)
  have hr' : ∀ v ∈ st, fx_ok Λ v := fun v hv => hst v (List.mem_cons_of_mem _ (List.mem_cons_of_mem _ hv))
  refine lv_iand hx hb d ?_
  have h2 := g hls (fx_okc (fx_toInt_R _) hr') hR H locs la hP hD hS hl
  have e : fx_v ad ex (0, fx_iand x y) = .int (Int32.ofInt x &&& Int32.ofInt y) := by
    show Value.int (Int32.ofInt (fx_iand x y)) = _
    unfold fx_iand
    rw [fx_of_toInt]
  rw [List.map_cons, e] at h2
  exact h2
theorem fx_rlshl (F : fx_F X M G Λ cc own nL rm) {x y : Int} (d : decode cc pc = .ok (.lshl, 1)) (g : fx_J M G Λ nL (pc + 1) ls ((1, fx_lshl x y) :: st) h) : fx_J M G Λ nL pc ls ((0, y) :: (1, x) :: st) h := by
  obtain ⟨p, l, e, R, s, m, args, below, meth, c, cells, slots, Q⟩ := M
  obtain ⟨D, cy, ad, ex, A⟩ := G
  obtain ⟨hx, hb, hml, hown, hts, hK, hwf, hA, hRm, hlocks, hcr, hX⟩ := F
  intro hls hst hR H locs la hP hD hS hl
  have hy' := hst _ List.mem_cons_self
  have hx' := hst _ (List.mem_cons_of_mem _ List.mem_cons_self)
  have hr' : ∀ v ∈ st, fx_ok Λ v := fun v hv => hst v (List.mem_cons_of_mem _ (List.mem_cons_of_mem _ hv))
  refine lv_lshl hx hb (v := Int64.ofInt x <<< ((Int32.ofInt y).toInt64 &&& 63)) d rfl ?_
  have h2 := g hls (fx_okc (fx_toInt_Rl _) hr') hR H locs la hP hD hS hl
  have e : fx_v ad ex (1, fx_lshl x y) = .long (Int64.ofInt x <<< ((Int32.ofInt y).toInt64 &&& 63)) := by
    show Value.long (Int64.ofInt (fx_lshl x y)) = _
    unfold fx_lshl
    rw [fx_of_toIntl]
  rw [List.map_cons, e] at h2
  exact h2
theorem fx_rlushr (F : fx_F X M G Λ cc own nL rm) {x y : Int} (d : decode cc pc = .ok (.lushr, 1)) (g : fx_J M G Λ nL (pc + 1) ls ((1, fx_lushr x y) :: st) h) : fx_J M G Λ nL pc ls ((0, y) :: (1, x) :: st) h := by
  obtain ⟨p, l, e, R, s, m, args, below, meth, c, cells, slots, Q⟩ := M
  obtain ⟨D, cy, ad, ex, A⟩ := G
  obtain ⟨hx, hb, hml, hown, hts, hK, hwf, hA, hRm, hlocks, hcr, hX⟩ := F
  intro hls hst hR H locs la hP hD hS hl
  have hy' := hst _ List.mem_cons_self
  have hx' := hst _ (List.mem_cons_of_mem _ List.mem_cons_self)
  have hr' : ∀ v ∈ st, fx_ok Λ v := fun v hv => hst v (List.mem_cons_of_mem _ (List.mem_cons_of_mem _ hv))
  refine lv_lushr hx hb (v := ((Int64.ofInt x).toUInt64 >>> ((Int32.ofInt y).toInt64.toUInt64 &&& Int64.toUInt64 63)).toInt64) d rfl ?_
  have h2 := g hls (fx_okc (fx_toInt_Rl _) hr') hR H locs la hP hD hS hl
  have e : fx_v ad ex (1, fx_lushr x y) = .long (((Int64.ofInt x).toUInt64 >>> ((Int32.ofInt y).toInt64.toUInt64 &&& Int64.toUInt64 63)).toInt64) := by
    show Value.long (Int64.ofInt (fx_lushr x y)) = _
    unfold fx_lushr
    rw [fx_of_toIntl]
  rw [List.map_cons, e] at h2
  exact h2
theorem fx_ri2l (F : fx_F X M G Λ cc own nL rm) {x : Int} (d : decode cc pc = .ok (.i2l, 1)) (g : fx_J M G Λ nL (pc + 1) ls ((1, x) :: st) h) : fx_J M G Λ nL pc ls ((0, x) :: st) h := by
  obtain ⟨p, l, e, R, s, m, args, below, meth, c, cells, slots, Q⟩ := M
  obtain ⟨D, cy, ad, ex, A⟩ := G
  obtain ⟨hx, hb, hml, hown, hts, hK, hwf, hA, hRm, hlocks, hcr, hX⟩ := F
  intro hls hst hR H locs la hP hD hS hl
  have hx' := hst _ List.mem_cons_self
  have hr' : ∀ v ∈ st, fx_ok Λ v := fun v hv => hst v (List.mem_cons_of_mem _ hv)
  have hxr := fx_ok_i hx'
  exact lv_i2l hx hb d (fx_i2l hxr) (g hls (fx_okc (by show fx_Rl x; unfold fx_R at hxr; unfold fx_Rl; omega) hr') hR H locs la hP hD hS hl)
theorem fx_rl2i (F : fx_F X M G Λ cc own nL rm) {x : Int} (d : decode cc pc = .ok (.l2i, 1)) (g : fx_J M G Λ nL (pc + 1) ls ((0, fx_w x) :: st) h) : fx_J M G Λ nL pc ls ((1, x) :: st) h := by
  obtain ⟨p, l, e, R, s, m, args, below, meth, c, cells, slots, Q⟩ := M
  obtain ⟨D, cy, ad, ex, A⟩ := G
  obtain ⟨hx, hb, hml, hown, hts, hK, hwf, hA, hRm, hlocks, hcr, hX⟩ := F
  intro hls hst hR H locs la hP hD hS hl
  have hx' := hst _ List.mem_cons_self
  have hr' : ∀ v ∈ st, fx_ok Λ v := fun v hv => hst v (List.mem_cons_of_mem _ hv)
  exact lv_l2i hx hb d (fx_l2i (fx_ok_l hx')) (g hls (fx_okc (fx_w_R _) hr') hR H locs la hP hD hS hl)
theorem fx_ri2b (F : fx_F X M G Λ cc own nL rm) {x : Int} (d : decode cc pc = .ok (.i2b, 1)) (g : fx_J M G Λ nL (pc + 1) ls ((0, fx_b x) :: st) h) : fx_J M G Λ nL pc ls ((0, x) :: st) h := by
  obtain ⟨p, l, e, R, s, m, args, below, meth, c, cells, slots, Q⟩ := M
  obtain ⟨D, cy, ad, ex, A⟩ := G
  obtain ⟨hx, hb, hml, hown, hts, hK, hwf, hA, hRm, hlocks, hcr, hX⟩ := F
  intro hls hst hR H locs la hP hD hS hl
  have hx' := hst _ List.mem_cons_self
  have hr' : ∀ v ∈ st, fx_ok Λ v := fun v hv => hst v (List.mem_cons_of_mem _ hv)
  exact lv_i2b hx hb d (by unfold fx_b; rw [fx_of_toInt]) (g hls (fx_okc (fx_toInt_R _) hr') hR H locs la hP hD hS hl)
theorem fx_rlcmp (F : fx_F X M G Λ cc own nL rm) {x y : Int} (d : decode cc pc = .ok (.lcmp, 1)) (g : fx_J M G Λ nL (pc + 1) ls ((0, fx_cmp x y) :: st) h) : fx_J M G Λ nL pc ls ((1, y) :: (1, x) :: st) h := by
  obtain ⟨p, l, e, R, s, m, args, below, meth, c, cells, slots, Q⟩ := M
  obtain ⟨D, cy, ad, ex, A⟩ := G
  obtain ⟨hx, hb, hml, hown, hts, hK, hwf, hA, hRm, hlocks, hcr, hX⟩ := F
  intro hls hst hR H locs la hP hD hS hl
  have hy' := hst _ List.mem_cons_self
  have hx' := hst _ (List.mem_cons_of_mem _ List.mem_cons_self)
  have hr' : ∀ v ∈ st, fx_ok Λ v := fun v hv => hst v (List.mem_cons_of_mem _ (List.mem_cons_of_mem _ hv))
  refine W.lcmp hx hb d ?_
  rw [fx_cmp_eq (fx_ok_l hx') (fx_ok_l hy')]
  exact g hls (fx_okc (fx_cmp_R x y) hr') hR H locs la hP hD hS hl
theorem fx_cat1 (ad ex : Nat → Nat) {v : fx_V} (hv : v.1 ≠ 1) : (fx_v ad ex v).category = 1 := by
  obtain ⟨t, x⟩ := v
  match t, hv with
  | 0, _ => rfl
  | 1, hv => exact absurd rfl hv
  | k + 2, _ =>
    obtain ⟨q, hq⟩ := fx_v_ref ad ex k x
    rw [hq]
    rfl
theorem fx_dup (F : fx_F X M G Λ cc own nL rm) {v : fx_V} (hv : v.1 ≠ 1) (d : decode cc pc = .ok (.dup, 1)) (g : fx_J M G Λ nL (pc + 1) ls (v :: v :: st) h) : fx_J M G Λ nL pc ls (v :: st) h := by
  obtain ⟨p, l, e, R, s, m, args, below, meth, c, cells, slots, Q⟩ := M
  obtain ⟨D, cy, ad, ex, A⟩ := G
  obtain ⟨hx, hb, hml, hown, hts, hK, hwf, hA, hRm, hlocks, hcr, hX⟩ := F
  intro hls hst hR H locs la hP hD hS hl
  have hx' := hst _ List.mem_cons_self
  have hr' : ∀ v ∈ st, fx_ok Λ v := fun v hv => hst v (List.mem_cons_of_mem _ hv)
  exact lv_dup hx hb d (fx_cat1 ad ex hv) (g hls (fx_okc hx' hst) hR H locs la hP hD hS hl)
theorem fx_dup2 (F : fx_F X M G Λ cc own nL rm) {v w : fx_V} (hv : v.1 ≠ 1) (hw : w.1 ≠ 1) (d : decode cc pc = .ok (.dup2, 1)) (g : fx_J M G Λ nL (pc + 1) ls (v :: w :: v :: w :: st) h) : fx_J M G Λ nL pc ls (v :: w :: st) h := by
  obtain ⟨p, l, e, R, s, m, args, below, meth, c, cells, slots, Q⟩ := M
  obtain ⟨D, cy, ad, ex, A⟩ := G
  obtain ⟨hx, hb, hml, hown, hts, hK, hwf, hA, hRm, hlocks, hcr, hX⟩ := F
  intro hls hst hR H locs la hP hD hS hl
  have hy' := hst _ List.mem_cons_self
  have hx' := hst _ (List.mem_cons_of_mem _ List.mem_cons_self)
  have hr' : ∀ v ∈ st, fx_ok Λ v := fun v hv => hst v (List.mem_cons_of_mem _ (List.mem_cons_of_mem _ hv))
  exact lv_dup2_11 hx hb d (fx_cat1 ad ex hv) (fx_cat1 ad ex hw) (g hls (fx_okc hy' (fx_okc hx' hst)) hR H locs la hP hD hS hl)
theorem fx_goto (F : fx_F X M G Λ cc own nL rm) {off : Int} (tgt : Nat) (ht : (pc : Int) + off = (tgt : Int)) (d : decode cc pc = .ok (.goto off, 3)) (g : fx_J M G Λ nL tgt ls st h) : fx_J M G Λ nL pc ls st h := by
  obtain ⟨p, l, e, R, s, m, args, below, meth, c, cells, slots, Q⟩ := M
  obtain ⟨D, cy, ad, ex, A⟩ := G
  obtain ⟨hx, hb, hml, hown, hts, hK, hwf, hA, hRm, hlocks, hcr, hX⟩ := F
  intro hls hst hR H locs la hP hD hS hl
  exact lv_goto hx hb d ht (g hls hst hR H locs la hP hD hS hl)
theorem fx_icmp_eq (F : fx_F X M G Λ cc own nL rm) {x y off : Int} (tgt : Nat) (ht : (pc : Int) + off = (tgt : Int)) (d : decode cc pc = .ok (.if_icmp .eq off, 3)) (gt : x = y → fx_J M G Λ nL tgt ls st h) (gf : ¬ (x = y) → fx_J M G Λ nL (pc + 3) ls st h) : fx_J M G Λ nL pc ls ((0, y) :: (0, x) :: st) h := by
  obtain ⟨p, l, e, R, s, m, args, below, meth, c, cells, slots, Q⟩ := M
  obtain ⟨D, cy, ad, ex, A⟩ := G
  obtain ⟨hx, hb, hml, hown, hts, hK, hwf, hA, hRm, hlocks, hcr, hX⟩ := F
  intro hls hst hR H locs la hP hD hS hl
  have hy' := hst _ List.mem_cons_self
  have hx' := hst _ (List.mem_cons_of_mem _ List.mem_cons_self)
  have hr' : ∀ v ∈ st, fx_ok Λ v := fun v hv => hst v (List.mem_cons_of_mem _ (List.mem_cons_of_mem _ hv))
  exact lv_icmp_eq hx hb d ht (fun q => (fun q => gt ((fx_eq (fx_ok_i hx') (fx_ok_i hy')).mp q)) q hls hr' hR H locs la hP hD hS hl) (fun q => (fun q => gf (fun e => q ((fx_eq (fx_ok_i hx') (fx_ok_i hy')).mpr e))) q hls hr' hR H locs la hP hD hS hl)
theorem fx_icmp_ne (F : fx_F X M G Λ cc own nL rm) {x y off : Int} (tgt : Nat) (ht : (pc : Int) + off = (tgt : Int)) (d : decode cc pc = .ok (.if_icmp .ne off, 3)) (gt : x ≠ y → fx_J M G Λ nL tgt ls st h) (gf : ¬ (x ≠ y) → fx_J M G Λ nL (pc + 3) ls st h) : fx_J M G Λ nL pc ls ((0, y) :: (0, x) :: st) h := by
  obtain ⟨p, l, e, R, s, m, args, below, meth, c, cells, slots, Q⟩ := M
  obtain ⟨D, cy, ad, ex, A⟩ := G
  obtain ⟨hx, hb, hml, hown, hts, hK, hwf, hA, hRm, hlocks, hcr, hX⟩ := F
  intro hls hst hR H locs la hP hD hS hl
  have hy' := hst _ List.mem_cons_self
  have hx' := hst _ (List.mem_cons_of_mem _ List.mem_cons_self)
  have hr' : ∀ v ∈ st, fx_ok Λ v := fun v hv => hst v (List.mem_cons_of_mem _ (List.mem_cons_of_mem _ hv))
  exact lv_icmp_ne hx hb d ht (fun q => (fun q => gt (fun e => q ((fx_eq (fx_ok_i hx') (fx_ok_i hy')).mpr e))) q hls hr' hR H locs la hP hD hS hl) (fun q => (fun q => gf (fun e => e ((fx_eq (fx_ok_i hx') (fx_ok_i hy')).mp q))) q hls hr' hR H locs la hP hD hS hl)
theorem fx_icmp_lt (F : fx_F X M G Λ cc own nL rm) {x y off : Int} (tgt : Nat) (ht : (pc : Int) + off = (tgt : Int)) (d : decode cc pc = .ok (.if_icmp .lt off, 3)) (gt : x < y → fx_J M G Λ nL tgt ls st h) (gf : ¬ (x < y) → fx_J M G Λ nL (pc + 3) ls st h) : fx_J M G Λ nL pc ls ((0, y) :: (0, x) :: st) h := by
  obtain ⟨p, l, e, R, s, m, args, below, meth, c, cells, slots, Q⟩ := M
  obtain ⟨D, cy, ad, ex, A⟩ := G
  obtain ⟨hx, hb, hml, hown, hts, hK, hwf, hA, hRm, hlocks, hcr, hX⟩ := F
  intro hls hst hR H locs la hP hD hS hl
  have hy' := hst _ List.mem_cons_self
  have hx' := hst _ (List.mem_cons_of_mem _ List.mem_cons_self)
  have hr' : ∀ v ∈ st, fx_ok Λ v := fun v hv => hst v (List.mem_cons_of_mem _ (List.mem_cons_of_mem _ hv))
  exact lv_icmp_lt hx hb d ht (fun q => (fun q => gt ((fx_lt (fx_ok_i hx') (fx_ok_i hy')).mp q)) q hls hr' hR H locs la hP hD hS hl) (fun q => (fun q => gf (fun e => q ((fx_lt (fx_ok_i hx') (fx_ok_i hy')).mpr e))) q hls hr' hR H locs la hP hD hS hl)
theorem fx_icmp_ge (F : fx_F X M G Λ cc own nL rm) {x y off : Int} (tgt : Nat) (ht : (pc : Int) + off = (tgt : Int)) (d : decode cc pc = .ok (.if_icmp .ge off, 3)) (gt : y ≤ x → fx_J M G Λ nL tgt ls st h) (gf : ¬ (y ≤ x) → fx_J M G Λ nL (pc + 3) ls st h) : fx_J M G Λ nL pc ls ((0, y) :: (0, x) :: st) h := by
  obtain ⟨p, l, e, R, s, m, args, below, meth, c, cells, slots, Q⟩ := M
  obtain ⟨D, cy, ad, ex, A⟩ := G
  obtain ⟨hx, hb, hml, hown, hts, hK, hwf, hA, hRm, hlocks, hcr, hX⟩ := F
  intro hls hst hR H locs la hP hD hS hl
  have hy' := hst _ List.mem_cons_self
  have hx' := hst _ (List.mem_cons_of_mem _ List.mem_cons_self)
  have hr' : ∀ v ∈ st, fx_ok Λ v := fun v hv => hst v (List.mem_cons_of_mem _ (List.mem_cons_of_mem _ hv))
  exact lv_icmp_ge hx hb d ht (fun q => (fun q => gt ((fx_le (fx_ok_i hy') (fx_ok_i hx')).mp q)) q hls hr' hR H locs la hP hD hS hl) (fun q => (fun q => gf (fun e => q ((fx_le (fx_ok_i hy') (fx_ok_i hx')).mpr e))) q hls hr' hR H locs la hP hD hS hl)
theorem fx_icmp_gt (F : fx_F X M G Λ cc own nL rm) {x y off : Int} (tgt : Nat) (ht : (pc : Int) + off = (tgt : Int)) (d : decode cc pc = .ok (.if_icmp .gt off, 3)) (gt : y < x → fx_J M G Λ nL tgt ls st h) (gf : ¬ (y < x) → fx_J M G Λ nL (pc + 3) ls st h) : fx_J M G Λ nL pc ls ((0, y) :: (0, x) :: st) h := by
  obtain ⟨p, l, e, R, s, m, args, below, meth, c, cells, slots, Q⟩ := M
  obtain ⟨D, cy, ad, ex, A⟩ := G
  obtain ⟨hx, hb, hml, hown, hts, hK, hwf, hA, hRm, hlocks, hcr, hX⟩ := F
  intro hls hst hR H locs la hP hD hS hl
  have hy' := hst _ List.mem_cons_self
  have hx' := hst _ (List.mem_cons_of_mem _ List.mem_cons_self)
  have hr' : ∀ v ∈ st, fx_ok Λ v := fun v hv => hst v (List.mem_cons_of_mem _ (List.mem_cons_of_mem _ hv))
  exact lv_icmp_gt hx hb d ht (fun q => (fun q => gt ((fx_lt (fx_ok_i hy') (fx_ok_i hx')).mp q)) q hls hr' hR H locs la hP hD hS hl) (fun q => (fun q => gf (fun e => q ((fx_lt (fx_ok_i hy') (fx_ok_i hx')).mpr e))) q hls hr' hR H locs la hP hD hS hl)
theorem fx_icmp_le (F : fx_F X M G Λ cc own nL rm) {x y off : Int} (tgt : Nat) (ht : (pc : Int) + off = (tgt : Int)) (d : decode cc pc = .ok (.if_icmp .le off, 3)) (gt : x ≤ y → fx_J M G Λ nL tgt ls st h) (gf : ¬ (x ≤ y) → fx_J M G Λ nL (pc + 3) ls st h) : fx_J M G Λ nL pc ls ((0, y) :: (0, x) :: st) h := by
  obtain ⟨p, l, e, R, s, m, args, below, meth, c, cells, slots, Q⟩ := M
  obtain ⟨D, cy, ad, ex, A⟩ := G
  obtain ⟨hx, hb, hml, hown, hts, hK, hwf, hA, hRm, hlocks, hcr, hX⟩ := F
  intro hls hst hR H locs la hP hD hS hl
  have hy' := hst _ List.mem_cons_self
  have hx' := hst _ (List.mem_cons_of_mem _ List.mem_cons_self)
  have hr' : ∀ v ∈ st, fx_ok Λ v := fun v hv => hst v (List.mem_cons_of_mem _ (List.mem_cons_of_mem _ hv))
  exact lv_icmp_le hx hb d ht (fun q => (fun q => gt ((fx_le (fx_ok_i hx') (fx_ok_i hy')).mp q)) q hls hr' hR H locs la hP hD hS hl) (fun q => (fun q => gf (fun e => q ((fx_le (fx_ok_i hx') (fx_ok_i hy')).mpr e))) q hls hr' hR H locs la hP hD hS hl)
theorem fx_if_eq (F : fx_F X M G Λ cc own nL rm) {x off : Int} (tgt : Nat) (ht : (pc : Int) + off = (tgt : Int)) (d : decode cc pc = .ok (.ifCond .eq off, 3)) (gt : x = 0 → fx_J M G Λ nL tgt ls st h) (gf : ¬ (x = 0) → fx_J M G Λ nL (pc + 3) ls st h) : fx_J M G Λ nL pc ls ((0, x) :: st) h := by
  obtain ⟨p, l, e, R, s, m, args, below, meth, c, cells, slots, Q⟩ := M
  obtain ⟨D, cy, ad, ex, A⟩ := G
  obtain ⟨hx, hb, hml, hown, hts, hK, hwf, hA, hRm, hlocks, hcr, hX⟩ := F
  intro hls hst hR H locs la hP hD hS hl
  have hx' := hst _ List.mem_cons_self
  have hr' : ∀ v ∈ st, fx_ok Λ v := fun v hv => hst v (List.mem_cons_of_mem _ hv)
  have h00 : fx_R 0 := by unfold fx_R; omega
  exact lv_if_eq hx hb d ht (fun q => (fun q => gt ((fx_eq (fx_ok_i hx') h00).mp q)) q hls hr' hR H locs la hP hD hS hl) (fun q => (fun q => gf (fun e => q ((fx_eq (fx_ok_i hx') h00).mpr e))) q hls hr' hR H locs la hP hD hS hl)
theorem fx_if_ne (F : fx_F X M G Λ cc own nL rm) {x off : Int} (tgt : Nat) (ht : (pc : Int) + off = (tgt : Int)) (d : decode cc pc = .ok (.ifCond .ne off, 3)) (gt : x ≠ 0 → fx_J M G Λ nL tgt ls st h) (gf : ¬ (x ≠ 0) → fx_J M G Λ nL (pc + 3) ls st h) : fx_J M G Λ nL pc ls ((0, x) :: st) h := by
  obtain ⟨p, l, e, R, s, m, args, below, meth, c, cells, slots, Q⟩ := M
  obtain ⟨D, cy, ad, ex, A⟩ := G
  obtain ⟨hx, hb, hml, hown, hts, hK, hwf, hA, hRm, hlocks, hcr, hX⟩ := F
  intro hls hst hR H locs la hP hD hS hl
  have hx' := hst _ List.mem_cons_self
  have hr' : ∀ v ∈ st, fx_ok Λ v := fun v hv => hst v (List.mem_cons_of_mem _ hv)
  have h00 : fx_R 0 := by unfold fx_R; omega
  exact lv_if_ne hx hb d ht (fun q => (fun q => gt (fun e => q ((fx_eq (fx_ok_i hx') h00).mpr e))) q hls hr' hR H locs la hP hD hS hl) (fun q => (fun q => gf (fun e => e ((fx_eq (fx_ok_i hx') h00).mp q))) q hls hr' hR H locs la hP hD hS hl)
theorem fx_if_lt (F : fx_F X M G Λ cc own nL rm) {x off : Int} (tgt : Nat) (ht : (pc : Int) + off = (tgt : Int)) (d : decode cc pc = .ok (.ifCond .lt off, 3)) (gt : x < 0 → fx_J M G Λ nL tgt ls st h) (gf : ¬ (x < 0) → fx_J M G Λ nL (pc + 3) ls st h) : fx_J M G Λ nL pc ls ((0, x) :: st) h := by
  obtain ⟨p, l, e, R, s, m, args, below, meth, c, cells, slots, Q⟩ := M
  obtain ⟨D, cy, ad, ex, A⟩ := G
  obtain ⟨hx, hb, hml, hown, hts, hK, hwf, hA, hRm, hlocks, hcr, hX⟩ := F
  intro hls hst hR H locs la hP hD hS hl
  have hx' := hst _ List.mem_cons_self
  have hr' : ∀ v ∈ st, fx_ok Λ v := fun v hv => hst v (List.mem_cons_of_mem _ hv)
  have h00 : fx_R 0 := by unfold fx_R; omega
  exact lv_if_lt hx hb d ht (fun q => (fun q => gt ((fx_lt (fx_ok_i hx') h00).mp q)) q hls hr' hR H locs la hP hD hS hl) (fun q => (fun q => gf (fun e => q ((fx_lt (fx_ok_i hx') h00).mpr e))) q hls hr' hR H locs la hP hD hS hl)
theorem fx_if_ge (F : fx_F X M G Λ cc own nL rm) {x off : Int} (tgt : Nat) (ht : (pc : Int) + off = (tgt : Int)) (d : decode cc pc = .ok (.ifCond .ge off, 3)) (gt : 0 ≤ x → fx_J M G Λ nL tgt ls st h) (gf : ¬ (0 ≤ x) → fx_J M G Λ nL (pc + 3) ls st h) : fx_J M G Λ nL pc ls ((0, x) :: st) h := by
  obtain ⟨p, l, e, R, s, m, args, below, meth, c, cells, slots, Q⟩ := M
  obtain ⟨D, cy, ad, ex, A⟩ := G
  obtain ⟨hx, hb, hml, hown, hts, hK, hwf, hA, hRm, hlocks, hcr, hX⟩ := F
  intro hls hst hR H locs la hP hD hS hl
  have hx' := hst _ List.mem_cons_self
  have hr' : ∀ v ∈ st, fx_ok Λ v := fun v hv => hst v (List.mem_cons_of_mem _ hv)
  have h00 : fx_R 0 := by unfold fx_R; omega
  exact lv_if_ge hx hb d ht (fun q => (fun q => gt ((fx_le h00 (fx_ok_i hx')).mp q)) q hls hr' hR H locs la hP hD hS hl) (fun q => (fun q => gf (fun e => q ((fx_le h00 (fx_ok_i hx')).mpr e))) q hls hr' hR H locs la hP hD hS hl)
theorem fx_if_gt (F : fx_F X M G Λ cc own nL rm) {x off : Int} (tgt : Nat) (ht : (pc : Int) + off = (tgt : Int)) (d : decode cc pc = .ok (.ifCond .gt off, 3)) (gt : 0 < x → fx_J M G Λ nL tgt ls st h) (gf : ¬ (0 < x) → fx_J M G Λ nL (pc + 3) ls st h) : fx_J M G Λ nL pc ls ((0, x) :: st) h := by
  obtain ⟨p, l, e, R, s, m, args, below, meth, c, cells, slots, Q⟩ := M
  obtain ⟨D, cy, ad, ex, A⟩ := G
  obtain ⟨hx, hb, hml, hown, hts, hK, hwf, hA, hRm, hlocks, hcr, hX⟩ := F
  intro hls hst hR H locs la hP hD hS hl
  have hx' := hst _ List.mem_cons_self
  have hr' : ∀ v ∈ st, fx_ok Λ v := fun v hv => hst v (List.mem_cons_of_mem _ hv)
  have h00 : fx_R 0 := by unfold fx_R; omega
  exact lv_if_gt hx hb d ht (fun q => (fun q => gt ((fx_lt h00 (fx_ok_i hx')).mp q)) q hls hr' hR H locs la hP hD hS hl) (fun q => (fun q => gf (fun e => q ((fx_lt h00 (fx_ok_i hx')).mpr e))) q hls hr' hR H locs la hP hD hS hl)
theorem fx_if_le (F : fx_F X M G Λ cc own nL rm) {x off : Int} (tgt : Nat) (ht : (pc : Int) + off = (tgt : Int)) (d : decode cc pc = .ok (.ifCond .le off, 3)) (gt : x ≤ 0 → fx_J M G Λ nL tgt ls st h) (gf : ¬ (x ≤ 0) → fx_J M G Λ nL (pc + 3) ls st h) : fx_J M G Λ nL pc ls ((0, x) :: st) h := by
  obtain ⟨p, l, e, R, s, m, args, below, meth, c, cells, slots, Q⟩ := M
  obtain ⟨D, cy, ad, ex, A⟩ := G
  obtain ⟨hx, hb, hml, hown, hts, hK, hwf, hA, hRm, hlocks, hcr, hX⟩ := F
  intro hls hst hR H locs la hP hD hS hl
  have hx' := hst _ List.mem_cons_self
  have hr' : ∀ v ∈ st, fx_ok Λ v := fun v hv => hst v (List.mem_cons_of_mem _ hv)
  have h00 : fx_R 0 := by unfold fx_R; omega
  exact lv_if_le hx hb d ht (fun q => (fun q => gt ((fx_le (fx_ok_i hx') h00).mp q)) q hls hr' hR H locs la hP hD hS hl) (fun q => (fun q => gf (fun e => q ((fx_le (fx_ok_i hx') h00).mpr e))) q hls hr' hR H locs la hP hD hS hl)
end FXJ
end
section
/-! ===== fx: rows of fields and arrays ===== -/
theorem fx_v_cell {ad ex : Nat → Nat} {k : Nat} {a : Int} (hk : k < 18) : fx_v ad ex (k + 2, a) = .ref (ad a.toNat) := by
  have hb : Nat.ble 18 k = false := by
    cases hq : Nat.ble 18 k
    · rfl
    · exact absurd (Nat.le_of_ble_eq_true hq) (by omega)
  unfold fx_v
  simp only [hb]
theorem fx_ok_cell {Λ : fx_L} {k : Nat} {a : Int} (hk : k < 18) (h : fx_ok Λ (k + 2, a)) : fx_at Λ a k := by
  have hb : Nat.ble 18 k = false := by
    cases hq : Nat.ble 18 k
    · rfl
    · exact absurd (Nat.le_of_ble_eq_true hq) (by omega)
  unfold fx_ok at h
  simp only [hb] at h
  exact h
theorem fx_cell_ok {Λ : fx_L} {k : Nat} {a : Int} (hk : k < 18) (h : fx_at Λ a k) : fx_ok Λ (k + 2, a) := by
  have hb : Nat.ble 18 k = false := by
    cases hq : Nat.ble 18 k
    · rfl
    · exact absurd (Nat.le_of_ble_eq_true hq) (by omega)
  unfold fx_ok
  simp only [hb]
  exact h
def fx_cls (ci : Nat) (C : String) (T : u_T) (N : Nat) : Prop := vwCl[ci]? = some (C, T, N) ∧ ci < 7 ∧ N ≤ 1000 ∧ (fx_ft ci).length = N ∧ (∀ w ∈ u_ws C T N, w ∈ fx_WS) ∧ (∃ ty : Nat → FieldType, ∀ k, k < N → parseFieldDescriptor (T k).2.2.1 = some (ty k)) ∧ (∀ a, a < N → ∀ b, b < N → a ≠ b → (T a).2.1 ≠ (T b).2.1)
section FXH
variable {X : (Nat → Nat) → (Nat → Prop) → State → Prop} {M : fx_M} {G : fx_G} {Λ : fx_L} {cc : ByteArray} {own : String} {nL pc : Nat} {rm : Room} {ls : List (Option fx_V)} {st : List fx_V} {h : fx_H}
theorem fx_getI (F : fx_F X M G Λ cc own nL rm) {a : Int} {C : String} {T : u_T} {N index : Nat} (ci k : Nat) (hC : fx_cls ci C T N)  (ht : (fx_ft ci)[k]? = some (0)) (lk : Cond.fieldLink own index (T k).1 (T k).2.1 (T k).2.2.1 ∈ fx_WS) (d : decode cc pc = .ok (.getfield index, 3)) (g : fx_J M G Λ nL (pc + 3) ls ((0, h a k) :: st) h) : fx_J M G Λ nL pc ls ((ci + 2, a) :: st) h := by
  obtain ⟨p, l, e, R, s, m, args, below, meth, c, cells, slots, Q⟩ := M
  obtain ⟨D, cy, ad, ex, A⟩ := G
  obtain ⟨hx, hb, hml, hown, hts, hK, hwf, hA, hRm, hlocks, hcr, hX⟩ := F
  intro hls hst hR H locs la hP hD hS hl
  have hx' := hst _ List.mem_cons_self
  have hr' : ∀ v ∈ st, fx_ok Λ v := fun v hv => hst v (List.mem_cons_of_mem _ hv)
  obtain ⟨hc, h7, hN, hlen, hin, ⟨ty0, hty⟩, hnm⟩ := hC
  obtain ⟨h0, h1, hkd⟩ := fx_ok_cell (by omega) hx'
  have hk : k < N := by rw [← hlen]; exact (List.getElem?_eq_some_iff.mp ht).1
  have he := fx_ws_at (cy := cy) (ad := ad) (h := h) h0 h1
  rw [fx_cell_obj hkd h7] at he
  rw [List.map_cons, fx_v_cell (by omega)]
  have h9 := g hls (fx_okc (hR.1 a k (by omega)) hr') hR H locs la hP hD hS hl
  rw [List.map_cons] at h9
  exact va_get (C := C) (T := T) (N := N) hx hb hts hin hown hK hP a.toNat he hc k hk (hts _ lk) (fun _ q => q) (fx_fs_at ht) d h9
theorem fx_getL (F : fx_F X M G Λ cc own nL rm) {a : Int} {C : String} {T : u_T} {N index : Nat} (ci k : Nat) (hC : fx_cls ci C T N)  (ht : (fx_ft ci)[k]? = some (1)) (lk : Cond.fieldLink own index (T k).1 (T k).2.1 (T k).2.2.1 ∈ fx_WS) (d : decode cc pc = .ok (.getfield index, 3)) (g : fx_J M G Λ nL (pc + 3) ls ((1, h a (1000000 + k)) :: st) h) : fx_J M G Λ nL pc ls ((ci + 2, a) :: st) h := by
  obtain ⟨p, l, e, R, s, m, args, below, meth, c, cells, slots, Q⟩ := M
  obtain ⟨D, cy, ad, ex, A⟩ := G
  obtain ⟨hx, hb, hml, hown, hts, hK, hwf, hA, hRm, hlocks, hcr, hX⟩ := F
  intro hls hst hR H locs la hP hD hS hl
  have hx' := hst _ List.mem_cons_self
  have hr' : ∀ v ∈ st, fx_ok Λ v := fun v hv => hst v (List.mem_cons_of_mem _ hv)
  obtain ⟨hc, h7, hN, hlen, hin, ⟨ty0, hty⟩, hnm⟩ := hC
  obtain ⟨h0, h1, hkd⟩ := fx_ok_cell (by omega) hx'
  have hk : k < N := by rw [← hlen]; exact (List.getElem?_eq_some_iff.mp ht).1
  have he := fx_ws_at (cy := cy) (ad := ad) (h := h) h0 h1
  rw [fx_cell_obj hkd h7] at he
  rw [List.map_cons, fx_v_cell (by omega)]
  have h9 := g hls (fx_okc (hR.2 a _) hr') hR H locs la hP hD hS hl
  rw [List.map_cons] at h9
  exact va_get (C := C) (T := T) (N := N) hx hb hts hin hown hK hP a.toNat he hc k hk (hts _ lk) (fun _ q => q) (fx_fs_at ht) d h9
theorem fx_getR (F : fx_F X M G Λ cc own nL rm) {a : Int} {C : String} {T : u_T} {N index : Nat} (ci k : Nat) (hC : fx_cls ci C T N)  {r : Nat} (hr18 : r < 18) (ht : (fx_ft ci)[k]? = some (r + 2)) (lk : Cond.fieldLink own index (T k).1 (T k).2.1 (T k).2.2.1 ∈ fx_WS) (d : decode cc pc = .ok (.getfield index, 3)) (g : fx_J M G Λ nL (pc + 3) ls ((r + 2, fx_tg Λ a k) :: st) h) : fx_J M G Λ nL pc ls ((ci + 2, a) :: st) h := by
  obtain ⟨p, l, e, R, s, m, args, below, meth, c, cells, slots, Q⟩ := M
  obtain ⟨D, cy, ad, ex, A⟩ := G
  obtain ⟨hx, hb, hml, hown, hts, hK, hwf, hA, hRm, hlocks, hcr, hX⟩ := F
  intro hls hst hR H locs la hP hD hS hl
  have hx' := hst _ List.mem_cons_self
  have hr' : ∀ v ∈ st, fx_ok Λ v := fun v hv => hst v (List.mem_cons_of_mem _ hv)
  obtain ⟨hc, h7, hN, hlen, hin, ⟨ty0, hty⟩, hnm⟩ := hC
  obtain ⟨h0, h1, hkd⟩ := fx_ok_cell (by omega) hx'
  have hk : k < N := by rw [← hlen]; exact (List.getElem?_eq_some_iff.mp ht).1
  have he := fx_ws_at (cy := cy) (ad := ad) (h := h) h0 h1
  rw [fx_cell_obj hkd h7] at he
  rw [List.map_cons, fx_v_cell (by omega)]
  have h9 := g hls (fx_okc (fx_cell_ok hr18 ((hwf a h0 h1).2.2.1 (by rw [hkd]; exact h7) k r (by rw [hkd]; exact ht))) hr') hR H locs la hP hD hS hl
  rw [List.map_cons, fx_v_cell hr18] at h9
  exact va_get (C := C) (T := T) (N := N) hx hb hts hin hown hK hP a.toNat he hc k hk (hts _ lk) (fun _ q => q) (fx_fs_at ht) d h9
theorem fx_putI (F : fx_F X M G Λ cc own nL rm) {a : Int} {C : String} {T : u_T} {N index : Nat} (ci k : Nat) (hC : fx_cls ci C T N) (ht : (fx_ft ci)[k]? = some 0) (hfin : (T k).2.2.2 = false) (hd : parseFieldDescriptor (T k).2.2.1 = some .int) (lk : Cond.fieldLink own index (T k).1 (T k).2.1 (T k).2.2.1 ∈ fx_WS) {x : Int} (d : decode cc pc = .ok (.putfield index, 3)) (g : fx_J M G Λ nL (pc + 3) ls st (fx_up h a k x)) : fx_J M G Λ nL pc ls ((0, x) :: (ci + 2, a) :: st) h := by
  obtain ⟨p, l, e, R, s, m, args, below, meth, c, cells, slots, Q⟩ := M
  obtain ⟨D, cy, ad, ex, A⟩ := G
  obtain ⟨hx, hb, hml, hown, hts, hK, hwf, hA, hRm, hlocks, hcr, hX⟩ := F
  intro hls hst hR H locs la hP hD hS hl
  have hz' := hst _ List.mem_cons_self
  have hx' := hst _ (List.mem_cons_of_mem _ List.mem_cons_self)
  have hr' : ∀ v ∈ st, fx_ok Λ v := fun v hv => hst v (List.mem_cons_of_mem _ (List.mem_cons_of_mem _ hv))
  obtain ⟨hc, h7, hN, hlen, hin, ⟨ty0, hty⟩, hnm⟩ := hC
  obtain ⟨h0, h1, hkd⟩ := fx_ok_cell (by omega) hx'
  have hk : k < N := by rw [← hlen]; exact (List.getElem?_eq_some_iff.mp ht).1
  have he := fx_ws_at (cy := cy) (ad := ad) (h := h) h0 h1
  rw [fx_cell_obj hkd h7] at he
  rw [List.map_cons, List.map_cons, fx_v_cell (by omega)]
  refine va_put (C := C) (T := T) (N := N) (v := .int (Int32.ofInt x)) hx hb hts hin ty0 hty hnm hown hK hP hD hS a.toNat he hc k hk (hts _ lk) (fun _ q => q) hfin hd rfl rfl (by rw [fx_fs_len, hlen]; exact hk) d (fun H1 locs1 hP1 hD1 hS1 => ?_)
  have hg : (fx_ft ci).getD k 0 = 0 := by simp [List.getD, ht]
  have hcell : fx_cell cy ad Λ (fx_up h a k x) a = .inr (ci, (fx_fs ad Λ h a (fx_ft ci)).set k (.int (Int32.ofInt x))) := by
    rw [fx_cell_obj hkd h7]
    congr 2
    refine (fx_fs_set ?_ (fun k' hk' => ?_)).symm
    · rw [hg]
      simp [fx_fv, fx_up]
    · by_cases hq : (fx_ft ci).length ≤ k'
      · exact Or.inr (Or.inr hq)
      · exact Or.inl ⟨by omega, by omega⟩
  rw [fx_ws_set h0 hcell] at hP1 hD1
  exact g hls hr' (fx_up_rg hR (fx_ok_i hz')) H1 locs1 la hP1 hD1 hS1 hl
theorem fx_putZ (F : fx_F X M G Λ cc own nL rm) {a : Int} {C : String} {T : u_T} {N index : Nat} (ci k : Nat) (hC : fx_cls ci C T N) (ht : (fx_ft ci)[k]? = some 0) (hfin : (T k).2.2.2 = false) (hd : parseFieldDescriptor (T k).2.2.1 = some .boolean) (lk : Cond.fieldLink own index (T k).1 (T k).2.1 (T k).2.2.1 ∈ fx_WS) {x : Int} (hbz : x = 0 ∨ x = 1) (d : decode cc pc = .ok (.putfield index, 3)) (g : fx_J M G Λ nL (pc + 3) ls st (fx_up h a k x)) : fx_J M G Λ nL pc ls ((0, x) :: (ci + 2, a) :: st) h := by
  obtain ⟨p, l, e, R, s, m, args, below, meth, c, cells, slots, Q⟩ := M
  obtain ⟨D, cy, ad, ex, A⟩ := G
  obtain ⟨hx, hb, hml, hown, hts, hK, hwf, hA, hRm, hlocks, hcr, hX⟩ := F
  intro hls hst hR H locs la hP hD hS hl
  have hz' := hst _ List.mem_cons_self
  have hx' := hst _ (List.mem_cons_of_mem _ List.mem_cons_self)
  have hr' : ∀ v ∈ st, fx_ok Λ v := fun v hv => hst v (List.mem_cons_of_mem _ (List.mem_cons_of_mem _ hv))
  obtain ⟨hc, h7, hN, hlen, hin, ⟨ty0, hty⟩, hnm⟩ := hC
  obtain ⟨h0, h1, hkd⟩ := fx_ok_cell (by omega) hx'
  have hk : k < N := by rw [← hlen]; exact (List.getElem?_eq_some_iff.mp ht).1
  have he := fx_ws_at (cy := cy) (ad := ad) (h := h) h0 h1
  rw [fx_cell_obj hkd h7] at he
  rw [List.map_cons, List.map_cons, fx_v_cell (by omega)]
  refine va_put (C := C) (T := T) (N := N) (v := .int (Int32.ofInt x)) hx hb hts hin ty0 hty hnm hown hK hP hD hS a.toNat he hc k hk (hts _ lk) (fun _ q => q) hfin hd (by rcases hbz with rfl | rfl <;> rfl) (by rcases hbz with rfl | rfl <;> rfl) (by rw [fx_fs_len, hlen]; exact hk) d (fun H1 locs1 hP1 hD1 hS1 => ?_)
  have hg : (fx_ft ci).getD k 0 = 0 := by simp [List.getD, ht]
  have hcell : fx_cell cy ad Λ (fx_up h a k x) a = .inr (ci, (fx_fs ad Λ h a (fx_ft ci)).set k (.int (Int32.ofInt x))) := by
    rw [fx_cell_obj hkd h7]
    congr 2
    refine (fx_fs_set ?_ (fun k' hk' => ?_)).symm
    · rw [hg]
      simp [fx_fv, fx_up]
    · by_cases hq : (fx_ft ci).length ≤ k'
      · exact Or.inr (Or.inr hq)
      · exact Or.inl ⟨by omega, by omega⟩
  rw [fx_ws_set h0 hcell] at hP1 hD1
  exact g hls hr' (fx_up_rg hR (fx_ok_i hz')) H1 locs1 la hP1 hD1 hS1 hl
theorem fx_putL (F : fx_F X M G Λ cc own nL rm) {a : Int} {C : String} {T : u_T} {N index : Nat} (ci k : Nat) (hC : fx_cls ci C T N) (ht : (fx_ft ci)[k]? = some 1) (hfin : (T k).2.2.2 = false) (hd : parseFieldDescriptor (T k).2.2.1 = some .long) (lk : Cond.fieldLink own index (T k).1 (T k).2.1 (T k).2.2.1 ∈ fx_WS) {x : Int} (d : decode cc pc = .ok (.putfield index, 3)) (g : fx_J M G Λ nL (pc + 3) ls st (fx_up h a (1000000 + k) x)) : fx_J M G Λ nL pc ls ((1, x) :: (ci + 2, a) :: st) h := by
  obtain ⟨p, l, e, R, s, m, args, below, meth, c, cells, slots, Q⟩ := M
  obtain ⟨D, cy, ad, ex, A⟩ := G
  obtain ⟨hx, hb, hml, hown, hts, hK, hwf, hA, hRm, hlocks, hcr, hX⟩ := F
  intro hls hst hR H locs la hP hD hS hl
  have hz' := hst _ List.mem_cons_self
  have hx' := hst _ (List.mem_cons_of_mem _ List.mem_cons_self)
  have hr' : ∀ v ∈ st, fx_ok Λ v := fun v hv => hst v (List.mem_cons_of_mem _ (List.mem_cons_of_mem _ hv))
  obtain ⟨hc, h7, hN, hlen, hin, ⟨ty0, hty⟩, hnm⟩ := hC
  obtain ⟨h0, h1, hkd⟩ := fx_ok_cell (by omega) hx'
  have hk : k < N := by rw [← hlen]; exact (List.getElem?_eq_some_iff.mp ht).1
  have he := fx_ws_at (cy := cy) (ad := ad) (h := h) h0 h1
  rw [fx_cell_obj hkd h7] at he
  rw [List.map_cons, List.map_cons, fx_v_cell (by omega)]
  refine va_put (C := C) (T := T) (N := N) (v := .long (Int64.ofInt x)) hx hb hts hin ty0 hty hnm hown hK hP hD hS a.toNat he hc k hk (hts _ lk) (fun _ q => q) hfin hd rfl rfl (by rw [fx_fs_len, hlen]; exact hk) d (fun H1 locs1 hP1 hD1 hS1 => ?_)
  have hg : (fx_ft ci).getD k 0 = 1 := by simp [List.getD, ht]
  have hcell : fx_cell cy ad Λ (fx_up h a (1000000 + k) x) a = .inr (ci, (fx_fs ad Λ h a (fx_ft ci)).set k (.long (Int64.ofInt x))) := by
    rw [fx_cell_obj hkd h7]
    congr 2
    refine (fx_fs_set ?_ (fun k' hk' => ?_)).symm
    · rw [hg]
      simp [fx_fv, fx_up]
    · by_cases hq : (fx_ft ci).length ≤ k'
      · exact Or.inr (Or.inr hq)
      · exact Or.inl ⟨by omega, by omega⟩
  rw [fx_ws_set h0 hcell] at hP1 hD1
  exact g hls hr' (fx_up_rgl hR (by omega) (fx_ok_l hz')) H1 locs1 la hP1 hD1 hS1 hl
theorem fx_aldI (F : fx_F X M G Λ cc own nL rm) {a i : Int} (h2 : 0 ≤ i) (h3 : i < fx_ln Λ a) (d : decode cc pc = .ok (.iaload, 1)) (g : fx_J M G Λ nL (pc + 1) ls ((0, h a i) :: st) h) : fx_J M G Λ nL pc ls ((0, i) :: (8 + 2, a) :: st) h := by
  obtain ⟨p, l, e, R, s, m, args, below, meth, c, cells, slots, Q⟩ := M
  obtain ⟨D, cy, ad, ex, A⟩ := G
  obtain ⟨hx, hb, hml, hown, hts, hK, hwf, hA, hRm, hlocks, hcr, hX⟩ := F
  intro hls hst hR H locs la hP hD hS hl
  have hy' := hst _ List.mem_cons_self
  have hx' := hst _ (List.mem_cons_of_mem _ List.mem_cons_self)
  have hr' : ∀ v ∈ st, fx_ok Λ v := fun v hv => hst v (List.mem_cons_of_mem _ (List.mem_cons_of_mem _ hv))
  obtain ⟨h0, h1, hkd⟩ := fx_ok_cell (by omega) hx'
  have he := fx_ws_at (cy := cy) (ad := ad) (h := h) h0 h1
  have hcell : fx_cell cy ad Λ h a = fx_ai (cy 1) Λ h a := by unfold fx_cell; rw [hkd]; rfl
  rw [hcell] at he
  have hln := (hwf a h0 h1).1
  have hlm := (hwf a h0 h1).2.1
  have h9 := g hls (fx_okc (hR.1 a i (by omega)) hr') hR H locs la hP hD hS hl
  rw [List.map_cons, List.map_cons, fx_v_cell (by omega)]
  refine va_iald hx hb hK hP a.toNat 1 he rfl (fx_in (fx_ok_i hy') h2 (by omega)) d ?_
  have e9 : ((Int32.ofInt (0, i).2).toNatClampNeg : Int) = i := by rw [fx_cl (fx_ok_i hy')]; exact Int.toNat_of_nonneg h2
  simp only [e9]
  exact h9
theorem fx_aldB (F : fx_F X M G Λ cc own nL rm) {a i : Int} (h2 : 0 ≤ i) (h3 : i < fx_ln Λ a) (d : decode cc pc = .ok (.baload, 1)) (g : fx_J M G Λ nL (pc + 1) ls ((0, h a i) :: st) h) : fx_J M G Λ nL pc ls ((0, i) :: (7 + 2, a) :: st) h := by
  obtain ⟨p, l, e, R, s, m, args, below, meth, c, cells, slots, Q⟩ := M
  obtain ⟨D, cy, ad, ex, A⟩ := G
  obtain ⟨hx, hb, hml, hown, hts, hK, hwf, hA, hRm, hlocks, hcr, hX⟩ := F
  intro hls hst hR H locs la hP hD hS hl
  have hy' := hst _ List.mem_cons_self
  have hx' := hst _ (List.mem_cons_of_mem _ List.mem_cons_self)
  have hr' : ∀ v ∈ st, fx_ok Λ v := fun v hv => hst v (List.mem_cons_of_mem _ (List.mem_cons_of_mem _ hv))
  obtain ⟨h0, h1, hkd⟩ := fx_ok_cell (by omega) hx'
  have he := fx_ws_at (cy := cy) (ad := ad) (h := h) h0 h1
  have hcell : fx_cell cy ad Λ h a = fx_ai (cy 0) Λ h a := by unfold fx_cell; rw [hkd]; rfl
  rw [hcell] at he
  have hln := (hwf a h0 h1).1
  have hlm := (hwf a h0 h1).2.1
  have h9 := g hls (fx_okc (hR.1 a i (by omega)) hr') hR H locs la hP hD hS hl
  rw [List.map_cons, List.map_cons, fx_v_cell (by omega)]
  refine va_bald hx hb hK hP a.toNat 0 he rfl (fx_in (fx_ok_i hy') h2 (by omega)) d ?_
  have e9 : ((Int32.ofInt (0, i).2).toNatClampNeg : Int) = i := by rw [fx_cl (fx_ok_i hy')]; exact Int.toNat_of_nonneg h2
  simp only [e9]
  exact h9
theorem fx_aldZ (F : fx_F X M G Λ cc own nL rm) {a i : Int} (h2 : 0 ≤ i) (h3 : i < fx_ln Λ a) (d : decode cc pc = .ok (.baload, 1)) (g : fx_J M G Λ nL (pc + 1) ls ((0, h a i) :: st) h) : fx_J M G Λ nL pc ls ((0, i) :: (9 + 2, a) :: st) h := by
  obtain ⟨p, l, e, R, s, m, args, below, meth, c, cells, slots, Q⟩ := M
  obtain ⟨D, cy, ad, ex, A⟩ := G
  obtain ⟨hx, hb, hml, hown, hts, hK, hwf, hA, hRm, hlocks, hcr, hX⟩ := F
  intro hls hst hR H locs la hP hD hS hl
  have hy' := hst _ List.mem_cons_self
  have hx' := hst _ (List.mem_cons_of_mem _ List.mem_cons_self)
  have hr' : ∀ v ∈ st, fx_ok Λ v := fun v hv => hst v (List.mem_cons_of_mem _ (List.mem_cons_of_mem _ hv))
  obtain ⟨h0, h1, hkd⟩ := fx_ok_cell (by omega) hx'
  have he := fx_ws_at (cy := cy) (ad := ad) (h := h) h0 h1
  have hcell : fx_cell cy ad Λ h a = fx_ai (cy 2) Λ h a := by unfold fx_cell; rw [hkd]; rfl
  rw [hcell] at he
  have hln := (hwf a h0 h1).1
  have hlm := (hwf a h0 h1).2.1
  have h9 := g hls (fx_okc (hR.1 a i (by omega)) hr') hR H locs la hP hD hS hl
  rw [List.map_cons, List.map_cons, fx_v_cell (by omega)]
  refine va_zald hx hb hK hP a.toNat 2 he rfl (fx_in (fx_ok_i hy') h2 (by omega)) d ?_
  have e9 : ((Int32.ofInt (0, i).2).toNatClampNeg : Int) = i := by rw [fx_cl (fx_ok_i hy')]; exact Int.toNat_of_nonneg h2
  simp only [e9]
  exact h9
theorem fx_astI (F : fx_F X M G Λ cc own nL rm) {a i x : Int} (h2 : 0 ≤ i) (h3 : i < fx_ln Λ a) (d : decode cc pc = .ok (.iastore, 1)) (g : fx_J M G Λ nL (pc + 1) ls st (fx_up h a i x)) : fx_J M G Λ nL pc ls ((0, x) :: (0, i) :: (8 + 2, a) :: st) h := by
  obtain ⟨p, l, e, R, s, m, args, below, meth, c, cells, slots, Q⟩ := M
  obtain ⟨D, cy, ad, ex, A⟩ := G
  obtain ⟨hx, hb, hml, hown, hts, hK, hwf, hA, hRm, hlocks, hcr, hX⟩ := F
  intro hls hst hR H locs la hP hD hS hl
  have hz' := hst _ List.mem_cons_self
  have hy' := hst _ (List.mem_cons_of_mem _ List.mem_cons_self)
  have hx' := hst _ (List.mem_cons_of_mem _ (List.mem_cons_of_mem _ List.mem_cons_self))
  have hr' : ∀ v ∈ st, fx_ok Λ v := fun v hv => hst v (List.mem_cons_of_mem _ (List.mem_cons_of_mem _ (List.mem_cons_of_mem _ hv)))
  obtain ⟨h0, h1, hkd⟩ := fx_ok_cell (by omega) hx'
  have he := fx_ws_at (cy := cy) (ad := ad) (h := h) h0 h1
  have hcell : ∀ h : fx_H, fx_cell cy ad Λ h a = fx_ai (cy 1) Λ h a := fun h => by unfold fx_cell; rw [hkd]; rfl
  rw [hcell] at he
  rw [List.map_cons, List.map_cons, List.map_cons, fx_v_cell (by omega)]
  refine va_iast hx hb hK hP hD hS a.toNat 1 he rfl (fx_in (fx_ok_i hy') h2 (by omega)) d (fun H1 locs1 hP1 hD1 hS1 => ?_)
  have ev : Int32.ofInt x = Int32.ofInt x := rfl
  have hc1 : fx_cell cy ad Λ (fx_up h a i x) a = .inl (cy 1, (fx_ln Λ a).toNat, .inl (upd (fun j : Nat => Int32.ofInt (h a j)) (Int32.ofInt (0, i).2).toNatClampNeg (Int32.ofInt x))) := by
    rw [hcell, ev]
    unfold fx_ai
    congr 4
    funext j
    rw [fx_cl (fx_ok_i hy')]
    unfold upd fx_up
    by_cases hj : j = i.toNat
    · subst hj
      simp [Int.toNat_of_nonneg h2]
    · have hj2 : ¬ (j : Int) = i := by omega
      simp [hj, hj2]
  rw [fx_ws_set h0 hc1] at hP1 hD1
  exact g hls hr' (fx_up_rg hR (fx_ok_i hz')) H1 locs1 la hP1 hD1 hS1 hl
theorem fx_astB (F : fx_F X M G Λ cc own nL rm) {a i x : Int} (h2 : 0 ≤ i) (h3 : i < fx_ln Λ a) (d : decode cc pc = .ok (.bastore, 1)) (g : fx_J M G Λ nL (pc + 1) ls st (fx_up h a i (fx_b x))) : fx_J M G Λ nL pc ls ((0, x) :: (0, i) :: (7 + 2, a) :: st) h := by
  obtain ⟨p, l, e, R, s, m, args, below, meth, c, cells, slots, Q⟩ := M
  obtain ⟨D, cy, ad, ex, A⟩ := G
  obtain ⟨hx, hb, hml, hown, hts, hK, hwf, hA, hRm, hlocks, hcr, hX⟩ := F
  intro hls hst hR H locs la hP hD hS hl
  have hz' := hst _ List.mem_cons_self
  have hy' := hst _ (List.mem_cons_of_mem _ List.mem_cons_self)
  have hx' := hst _ (List.mem_cons_of_mem _ (List.mem_cons_of_mem _ List.mem_cons_self))
  have hr' : ∀ v ∈ st, fx_ok Λ v := fun v hv => hst v (List.mem_cons_of_mem _ (List.mem_cons_of_mem _ (List.mem_cons_of_mem _ hv)))
  obtain ⟨h0, h1, hkd⟩ := fx_ok_cell (by omega) hx'
  have he := fx_ws_at (cy := cy) (ad := ad) (h := h) h0 h1
  have hcell : ∀ h : fx_H, fx_cell cy ad Λ h a = fx_ai (cy 0) Λ h a := fun h => by unfold fx_cell; rw [hkd]; rfl
  rw [hcell] at he
  rw [List.map_cons, List.map_cons, List.map_cons, fx_v_cell (by omega)]
  refine va_bast hx hb hK hP hD hS a.toNat 0 he rfl (fx_in (fx_ok_i hy') h2 (by omega)) d (fun H1 locs1 hP1 hD1 hS1 => ?_)
  have ev : vp_nar .byte (Int32.ofInt x) = Int32.ofInt (fx_b x) := by show (Int32.ofInt x).toInt8.toInt32 = Int32.ofInt (fx_b x); unfold fx_b; rw [fx_of_toInt]
  have hc1 : fx_cell cy ad Λ (fx_up h a i (fx_b x)) a = .inl (cy 0, (fx_ln Λ a).toNat, .inl (upd (fun j : Nat => Int32.ofInt (h a j)) (Int32.ofInt (0, i).2).toNatClampNeg (vp_nar .byte (Int32.ofInt x)))) := by
    rw [hcell, ev]
    unfold fx_ai
    congr 4
    funext j
    rw [fx_cl (fx_ok_i hy')]
    unfold upd fx_up
    by_cases hj : j = i.toNat
    · subst hj
      simp [Int.toNat_of_nonneg h2]
    · have hj2 : ¬ (j : Int) = i := by omega
      simp [hj, hj2]
  rw [fx_ws_set h0 hc1] at hP1 hD1
  exact g hls hr' (fx_up_rg hR (fx_toInt_R _)) H1 locs1 la hP1 hD1 hS1 hl
theorem fx_astZ (F : fx_F X M G Λ cc own nL rm) {a i x : Int} (h2 : 0 ≤ i) (h3 : i < fx_ln Λ a) (hbz : x = 0 ∨ x = 1) (d : decode cc pc = .ok (.bastore, 1)) (g : fx_J M G Λ nL (pc + 1) ls st (fx_up h a i x)) : fx_J M G Λ nL pc ls ((0, x) :: (0, i) :: (9 + 2, a) :: st) h := by
  obtain ⟨p, l, e, R, s, m, args, below, meth, c, cells, slots, Q⟩ := M
  obtain ⟨D, cy, ad, ex, A⟩ := G
  obtain ⟨hx, hb, hml, hown, hts, hK, hwf, hA, hRm, hlocks, hcr, hX⟩ := F
  intro hls hst hR H locs la hP hD hS hl
  have hz' := hst _ List.mem_cons_self
  have hy' := hst _ (List.mem_cons_of_mem _ List.mem_cons_self)
  have hx' := hst _ (List.mem_cons_of_mem _ (List.mem_cons_of_mem _ List.mem_cons_self))
  have hr' : ∀ v ∈ st, fx_ok Λ v := fun v hv => hst v (List.mem_cons_of_mem _ (List.mem_cons_of_mem _ (List.mem_cons_of_mem _ hv)))
  obtain ⟨h0, h1, hkd⟩ := fx_ok_cell (by omega) hx'
  have he := fx_ws_at (cy := cy) (ad := ad) (h := h) h0 h1
  have hcell : ∀ h : fx_H, fx_cell cy ad Λ h a = fx_ai (cy 2) Λ h a := fun h => by unfold fx_cell; rw [hkd]; rfl
  rw [hcell] at he
  rw [List.map_cons, List.map_cons, List.map_cons, fx_v_cell (by omega)]
  refine va_zast hx hb hK hP hD hS a.toNat 2 he rfl (fx_in (fx_ok_i hy') h2 (by omega)) d (fun H1 locs1 hP1 hD1 hS1 => ?_)
  have ev : vp_nar .boolean (Int32.ofInt x) = Int32.ofInt x := by rcases hbz with rfl | rfl <;> rfl
  have hc1 : fx_cell cy ad Λ (fx_up h a i x) a = .inl (cy 2, (fx_ln Λ a).toNat, .inl (upd (fun j : Nat => Int32.ofInt (h a j)) (Int32.ofInt (0, i).2).toNatClampNeg (vp_nar .boolean (Int32.ofInt x)))) := by
    rw [hcell, ev]
    unfold fx_ai
    congr 4
    funext j
    rw [fx_cl (fx_ok_i hy')]
    unfold upd fx_up
    by_cases hj : j = i.toNat
    · subst hj
      simp [Int.toNat_of_nonneg h2]
    · have hj2 : ¬ (j : Int) = i := by omega
      simp [hj, hj2]
  rw [fx_ws_set h0 hc1] at hP1 hD1
  exact g hls hr' (fx_up_rg hR (fx_ok_i hz')) H1 locs1 la hP1 hD1 hS1 hl
theorem fx_aldT (F : fx_F X M G Λ cc own nL rm) {a i : Int} (h2 : 0 ≤ i) (h3 : i < fx_ln Λ a) (d : decode cc pc = .ok (.aaload, 1)) (g : fx_J M G Λ nL (pc + 1) ls ((4 + 2, fx_tg Λ a i) :: st) h) : fx_J M G Λ nL pc ls ((0, i) :: (10 + 2, a) :: st) h := by
  obtain ⟨p, l, e, R, s, m, args, below, meth, c, cells, slots, Q⟩ := M
  obtain ⟨D, cy, ad, ex, A⟩ := G
  obtain ⟨hx, hb, hml, hown, hts, hK, hwf, hA, hRm, hlocks, hcr, hX⟩ := F
  intro hls hst hR H locs la hP hD hS hl
  have hy' := hst _ List.mem_cons_self
  have hx' := hst _ (List.mem_cons_of_mem _ List.mem_cons_self)
  have hr' : ∀ v ∈ st, fx_ok Λ v := fun v hv => hst v (List.mem_cons_of_mem _ (List.mem_cons_of_mem _ hv))
  obtain ⟨h0, h1, hkd⟩ := fx_ok_cell (by omega) hx'
  have he := fx_ws_at (cy := cy) (ad := ad) (h := h) h0 h1
  have hcell : fx_cell cy ad Λ h a = fx_ar (cy 3) ad Λ a := by unfold fx_cell; rw [hkd]; rfl
  rw [hcell] at he
  have h9 := g hls (fx_okc (fx_cell_ok (by omega) ((hwf a h0 h1).2.2.2.1 hkd i h2 h3)) hr') hR H locs la hP hD hS hl
  rw [List.map_cons, fx_v_cell (by omega)] at h9
  rw [List.map_cons, List.map_cons, fx_v_cell (by omega)]
  refine va_aldq hx hb hK hP a.toNat 3 he rfl (fx_in (fx_ok_i hy') h2 (by omega)) d ?_
  have e9 : ((Int32.ofInt (0, i).2).toNatClampNeg : Int) = i := by rw [fx_cl (fx_ok_i hy')]; exact Int.toNat_of_nonneg h2
  simp only [e9]
  exact h9
theorem va_aldg {p : Program} {l : Launch} {e : Env} {R : Room} {s : State} {m : MethodId} {args : Array Value} {below : List Frame} {meth : Method} {c : Code} {H : Heap} {locs : List Loc} {cells slots : Nat} {Q : State → Prop} {la : Array Slot} {rest : List Value} {D : va_G} {cl : List vw_C} {a : Nat} {tys : List (ClassId × FieldType)} {ws : va_W} (hexec : p.tables.exec = Jvm.exec) (hb : c.code = cc) (hK : va_K D cl tys s) (hP : va_P D cl ws H) (q0 t0 : Nat) {cA : ClassId} {ty : FieldType} {n : Nat} {f : Nat → Option Nat} (ha : ws[q0]? = some (a, .inl (cA, n, .inr (.inr (.inr (.inr f)))))) (ht : tys[t0]? = some (cA, .array ty)) {i : Int32} (hin : vp_in i n) (hdg : decode cc pc = .ok (.aaload, 1))
    (kk : W p l e R s m args below meth c H locs cells slots Q (F0 m (pc + 1) la (va_rf (f i.toNatClampNeg) :: rest))) : W p l e R s m args below meth c H locs cells slots Q (F0 m pc la (.int i :: .ref a :: rest)) := by
  have hlt : i.toNatClampNeg < n := Nat.not_le.mp fun q => hin (Or.inr q)
  exact W.aald (v := va_rf (f i.toNatClampNeg)) (ty := .array ty) hexec hb (hP q0 _ ha) ((hK.2 t0 _ ht).1 n (fun j => va_rf (f j))) rfl (fun q => by cases q) (by show ¬ (i < 0 ∨ (arrV _ _ _).slots.size ≤ _); rw [arrV_size]; exact hin) (by show (arrV _ _ _).slots[_]? = _; rw [arrV_read _ _ hlt]) rfl rfl hdg kk
theorem fx_aldG (F : fx_F X M G Λ cc own nL rm) {a i : Int} (h2 : 0 ≤ i) (h3 : i < fx_ln Λ a) (d : decode cc pc = .ok (.aaload, 1)) (g : fx_J M G Λ nL (pc + 1) ls ((8 + 2, fx_tg Λ a i) :: st) h) : fx_J M G Λ nL pc ls ((0, i) :: (11 + 2, a) :: st) h := by
  obtain ⟨p, l, e, R, s, m, args, below, meth, c, cells, slots, Q⟩ := M
  obtain ⟨D, cy, ad, ex, A⟩ := G
  obtain ⟨hx, hb, hml, hown, hts, hK, hwf, hA, hRm, hlocks, hcr, hX⟩ := F
  intro hls hst hR H locs la hP hD hS hl
  have hy' := hst _ List.mem_cons_self
  have hx' := hst _ (List.mem_cons_of_mem _ List.mem_cons_self)
  have hr' : ∀ v ∈ st, fx_ok Λ v := fun v hv => hst v (List.mem_cons_of_mem _ (List.mem_cons_of_mem _ hv))
  obtain ⟨h0, h1, hkd⟩ := fx_ok_cell (by omega) hx'
  have he := fx_ws_at (cy := cy) (ad := ad) (h := h) h0 h1
  have hcell : fx_cell cy ad Λ h a = fx_ar (cy 4) ad Λ a := by unfold fx_cell; rw [hkd]; rfl
  rw [hcell] at he
  have h9 := g hls (fx_okc (fx_cell_ok (by omega) ((hwf a h0 h1).2.2.2.2 hkd i h2 h3)) hr') hR H locs la hP hD hS hl
  rw [List.map_cons, fx_v_cell (by omega)] at h9
  rw [List.map_cons, List.map_cons, fx_v_cell (by omega)]
  refine va_aldg hx hb hK hP a.toNat 4 he rfl (fx_in (fx_ok_i hy') h2 (by omega)) d ?_
  have e9 : ((Int32.ofInt (0, i).2).toNatClampNeg : Int) = i := by rw [fx_cl (fx_ok_i hy')]; exact Int.toNat_of_nonneg h2
  simp only [e9]
  exact h9
theorem fx_alenI (F : fx_F X M G Λ cc own nL rm) {a : Int} (d : decode cc pc = .ok (.arraylength, 1)) (g : fx_J M G Λ nL (pc + 1) ls ((0, fx_ln Λ a) :: st) h) : fx_J M G Λ nL pc ls ((8 + 2, a) :: st) h := by
  obtain ⟨p, l, e, R, s, m, args, below, meth, c, cells, slots, Q⟩ := M
  obtain ⟨D, cy, ad, ex, A⟩ := G
  obtain ⟨hx, hb, hml, hown, hts, hK, hwf, hA, hRm, hlocks, hcr, hX⟩ := F
  intro hls hst hR H locs la hP hD hS hl
  have hx' := hst _ List.mem_cons_self
  have hr' : ∀ v ∈ st, fx_ok Λ v := fun v hv => hst v (List.mem_cons_of_mem _ hv)
  obtain ⟨h0, h1, hkd⟩ := fx_ok_cell (by omega) hx'
  have he := fx_ws_at (cy := cy) (ad := ad) (h := h) h0 h1
  have hcell : fx_cell cy ad Λ h a = fx_ai (cy 1) Λ h a := by unfold fx_cell; rw [hkd]; rfl
  rw [hcell] at he
  have hw1 := (hwf a h0 h1).1
  have hw2 := (hwf a h0 h1).2.1
  rw [List.map_cons, fx_v_cell (by omega)]
  have hlr : fx_R (fx_ln Λ a) := by unfold fx_R; omega
  refine va_alen hx hb hK hP a.toNat 1 he rfl (v := Int32.ofInt (fx_ln Λ a)) ?_ d (g hls (fx_okc hlr hr') hR H locs la hP hD hS hl)
  show Int32.ofNat (fx_ln Λ a).toNat = _
  refine Int32.toInt_inj.mp ?_
  rw [fx_tR hlr]
  have := nI_toInt (n := (fx_ln Λ a).toNat) (by omega)
  unfold nI at this
  rw [this]
  omega
end FXH
end
section
/-! ===== fx: what isn't the world's ===== -/
def fx_nm : List (String × Nat × MethodName) := [(RX4, 76, yX5_within), (RX3, 145, yX5_within), (RX0, 47, yX5_within), (RX1, 89, yX5_nextOrder)]
def fx_nf : List (String × Nat × String) := [(RX0, 92, "PAIR_PAYS"), (RX2, 71, "NEXT_ONE_ADDS")]
def fx_tab (t j : Nat) : Int := (([[2, 4, 2, 1, 4, 1], [1, 2, 8, 0, 2, 0]] : List (List Int)).getD t []).getD j 0
def fx_si : List Nat := [47, 56, 61, 66, 71, 76, 81, 86]
def fx_sx : List String := ["thing", "people", "hours", "hour", "line", "rich", "does", "need"]
def fx_sl : List Nat := [5, 6, 5, 4, 4, 4, 4, 4]
def fx_sb : List (List Int32) := [[116, 104, 105, 110, 103], [112, 101, 111, 112, 108, 101], [104, 111, 117, 114, 115], [104, 111, 117, 114], [108, 105, 110, 101], [114, 105, 99, 104], [100, 111, 101, 115], [110, 101, 101, 100]]
def fx_X (ex : Nat → Nat) (A : Nat → Prop) (U : State) : Prop :=
  (∀ q ∈ fx_nm, va_Nw (.methodLinkNest q.1 q.2.1 q.2.2 RX5) U) ∧ (∀ q ∈ fx_nf, va_Nw (.fieldLinkNest q.1 q.2.1 RX5 q.2.2 "[I" RX5) U) ∧
  (va_Z RX5 "PAIR_PAYS" "[I" (.ref (ex 0)) A U U.heap ∧ va_T .int (ex 0) 6 (fun j => .int (Int32.ofInt (fx_tab 0 j))) A U U.heap) ∧
  (va_Z RX5 "NEXT_ONE_ADDS" "[I" (.ref (ex 1)) A U U.heap ∧ va_T .int (ex 1) 6 (fun j => .int (Int32.ofInt (fx_tab 1 j))) A U U.heap) ∧
  va_Z "java/lang/String" "COMPACT_STRINGS" "Z" (.int 1) A U U.heap ∧ vk_S 8 fx_sl fx_sb (fun i => ex (10 + i)) (fun i => ex (20 + i)) A U U.heap ∧ ∀ i : Nat, i < 8 → vk_R RX3 (fx_si.getD i 0) (fx_sx.getD i "") (ex (10 + i)) U
theorem fx_X_go {ex : Nat → Nat} {A B : Nat → Prop} {s U : State} (hW : s.WarmedH U.vm) (hq : ∀ a : Nat, a < s.heap.size → ¬ A a → U.heap[a]? = s.heap[a]?) (hAB : ∀ q, B q → A q) (h : fx_X ex A s) : fx_X ex B U := by
  obtain ⟨h1, h2, ⟨h3, h4⟩, ⟨h5, h6⟩, h7, h8, h9⟩ := h
  exact ⟨fun q hq => va_Nw.warmM hW (h1 q hq), fun q hq => va_Nw.warmF hW (h2 q hq), ⟨((h3.kept hq).moved hW.alike).narrow hAB, ((h4.kept hq).moved hW.alike).narrow hAB⟩, ⟨((h5.kept hq).moved hW.alike).narrow hAB, ((h6.kept hq).moved hW.alike).narrow hAB⟩,
    ((h7.kept hq).moved hW.alike).narrow hAB, ((h8.kept hq).moved hW.alike).narrow hAB, fun i hi => (h9 i hi).warm hW⟩
theorem fx_X_same {ex : Nat → Nat} {A : Nat → Prop} {u U : State} (hv : U.vm = u.vm) (hh : U.heap = u.heap) (h : fx_X ex A u) : fx_X ex A U := by
  have ha : u.vm.Alike U.vm := by rw [hv]; exact Vm.Alike.refl _
  obtain ⟨h1, h2, ⟨h3, h4⟩, ⟨h5, h6⟩, h7, h8, h9⟩ := h
  rw [← hh] at h3 h4 h5 h6 h7 h8
  exact ⟨fun q hq => va_Nw.same rfl hv.symm (h1 q hq), fun q hq => va_Nw.same rfl hv.symm (h2 q hq), ⟨h3.moved ha, h4.moved ha⟩, ⟨h5.moved ha, h6.moved ha⟩, h7.moved ha, h8.moved ha, fun i hi => (h9 i hi).same hv⟩
/-! ===== fx: contracts ===== -/
def fx_Pc (D : va_G) (cy : Nat → ClassId) (ad ex : Nat → Nat) (Λ : fx_L) (as : List fx_V) (h : fx_H) (sz : Nat) : Array Value → State → Prop := va_Pc (as.map (fx_v ad ex)) (fun U => U.heap.size = sz ∧ va_P D vwCl (fx_ws cy ad Λ h) U.heap ∧ va_K D vwCl (fx_tys cy) U ∧ va_D (fun _ => True) (fx_ws cy ad Λ h) ∧ fx_X ex (va_A (fx_ws cy ad Λ h) sz) U)
def fx_Qc (D : va_G) (cy : Nat → ClassId) (ad ex : Nat → Nat) (Λ : fx_L) (A : Nat → Prop) (ro : Option fx_V) (ho : fx_H) : Array Value → State → Outcome → State → Prop := fun _ st oc t => (oc = .returned (ro.map (fx_v ad ex)) ∧ va_P D vwCl (fx_ws cy ad Λ ho) t.heap ∧ va_D A (fx_ws cy ad Λ ho) ∧ fx_rg ho ∧ ∀ v, ro = some v → fx_ok Λ v) ∧ va_F A st t
/-- the contract: the method, from these values and this heap, comes back with this answer and this heap -/
def fx_Met (y : MethodName) (cc : ByteArray) (nL : Nat) (ret : Option FieldType) (rm : Room) (Λ : fx_L) (as : List fx_V) (h : fx_H) (ro : Option fx_V) (ho : fx_H) : Prop := fx_rg h → (∀ v ∈ as, fx_ok Λ v) → fx_wf Λ → ∀ (l : Launch) (D : va_G) (cy : Nat → ClassId) (ad ex : Nat → Nat) (sz : Nat),
  Met l y (Cond.code y cc nL ret :: fx_WS) rm (fx_Pc D cy ad ex Λ as h sz) (fx_Qc D cy ad ex Λ (va_A (fx_ws cy ad Λ h) sz) ro ho) 0 0 (va_A (fx_ws cy ad Λ h) sz)
def fx_Fr (M : fx_M) (G : fx_G) (Λ : fx_L) (ret : Option FieldType) (ro : Option fx_V) (ho : fx_H) : Prop := match M, G with
  | (p, l, e, R, s, m, args, below, meth, c, cells, slots, Q), (D, cy, ad, ex, A) => meth.sig.returnType = ret ∧ Q = MQ below (fx_Qc D cy ad ex Λ A ro ho) args s cells slots A
def fx_lay : List fx_V → List (Option fx_V)
  | [] => []
  | v :: vs => match v.1 with
    | 1 => some v :: none :: fx_lay vs
    | _ => some v :: fx_lay vs
theorem fx_lay_1 (v : fx_V) (vs : List fx_V) (h : v.1 = 1) : fx_lay (v :: vs) = some v :: none :: fx_lay vs := by
  obtain ⟨t, x⟩ := v
  cases h
  rfl
theorem fx_lay_n (v : fx_V) (vs : List fx_V) (h : v.1 ≠ 1) : fx_lay (v :: vs) = some v :: fx_lay vs := by
  obtain ⟨t, x⟩ := v
  match t, h with
  | 0, _ => rfl
  | 1, h => exact absurd rfl h
  | t + 2, _ => rfl
theorem fx_cat2 (ad ex : Nat → Nat) {v : fx_V} (hv : v.1 = 1) : (fx_v ad ex v).category = 2 := by
  obtain ⟨t, x⟩ := v
  cases hv
  rfl
theorem fx_lay_len (ad ex : Nat → Nat) : ∀ as : List fx_V, (lg_sl (as.map (fx_v ad ex))).length = (fx_lay as).length
  | [] => rfl
  | v :: vs => by
    have ih := fx_lay_len ad ex vs
    by_cases h : v.1 = 1
    · rw [fx_lay_1 v vs h]
      simp only [List.map_cons, lg_sl, List.flatMap_cons, fx_cat2 ad ex h, if_true, List.length_append, List.length_cons, List.length_nil]
      unfold lg_sl at ih
      omega
    · rw [fx_lay_n v vs h]
      have hc : ¬ (fx_v ad ex v).category = 2 := by rw [fx_cat1 ad ex h]; decide
      simp only [List.map_cons, lg_sl, List.flatMap_cons, hc, if_false, List.length_append, List.length_cons, List.length_nil]
      unfold lg_sl at ih
      omega
theorem fx_lay_args (ad ex : Nat → Nat) : ∀ (as : List fx_V) (i j : Nat) (v : fx_V), (fx_lay as)[j]? = some (some v) → (i + j, fx_v ad ex v) ∈ lv_args i (as.map (fx_v ad ex)) ∧ v ∈ as
  | [], i, j, v, h => by simp [fx_lay] at h
  | w :: vs, i, j, v, h => by
    by_cases hw : w.1 = 1
    · rw [fx_lay_1 w vs hw] at h
      simp only [List.map_cons, lv_args, fx_cat2 ad ex hw, if_true]
      match j, h with
      | 0, h =>
        simp only [List.getElem?_cons_zero, Option.some.injEq] at h
        subst h
        exact ⟨List.mem_cons_self, List.mem_cons_self⟩
      | 1, h => simp at h
      | j + 2, h =>
        have h2 : (fx_lay vs)[j]? = some (some v) := by simpa using h
        obtain ⟨a1, a2⟩ := fx_lay_args ad ex vs (i + 2) j v h2
        refine ⟨List.mem_cons_of_mem _ ?_, List.mem_cons_of_mem _ a2⟩
        rw [show i + (j + 2) = i + 2 + j by omega]
        exact a1
    · rw [fx_lay_n w vs hw] at h
      have hc : ¬ (fx_v ad ex w).category = 2 := by rw [fx_cat1 ad ex hw]; decide
      simp only [List.map_cons, lv_args, hc, if_false]
      match j, h with
      | 0, h =>
        simp only [List.getElem?_cons_zero, Option.some.injEq] at h
        subst h
        exact ⟨List.mem_cons_self, List.mem_cons_self⟩
      | j + 1, h =>
        have h2 : (fx_lay vs)[j]? = some (some v) := by simpa using h
        obtain ⟨a1, a2⟩ := fx_lay_args ad ex vs (i + 1) j v h2
        refine ⟨List.mem_cons_of_mem _ ?_, List.mem_cons_of_mem _ a2⟩
        rw [show i + (j + 1) = i + 1 + j by omega]
        exact a1
theorem fx_enter {y : MethodName} {cc : ByteArray} {nL : Nat} {ret : Option FieldType} {rm : Room} {Λ : fx_L} {as : List fx_V} {h : fx_H} {ro : Option fx_V} {ho : fx_H} {ls : List (Option fx_V)} (hy : plainName y.cls = true) (hlen : (fx_lay as).length ≤ nL) (hls : fx_lay as ++ List.replicate (nL - (fx_lay as).length) none = ls)
    (body : ∀ (M : fx_M) (G : fx_G), fx_F fx_X M G Λ cc y.cls nL rm → fx_Fr M G Λ ret ro ho → fx_J M G Λ nL 0 ls [] h) : fx_Met y cc nL ret rm Λ as h ro ho := by
  subst hls
  intro hR hok hwf l D cy ad ex sz
  refine Met.ofW (cc := cc) (maxL := nL) (ret := ret) hy rfl ?_
  intro p e s m args below meth c s₁ B hml hv
  obtain ⟨rfl, hsz, hP, hK, hD0, hX⟩ := hv
  have hts := atoms_spec (ws := Cond.code y cc nL ret :: fx_WS) B.pre
  have hown : s.vm.findClass y.cls = some m.cls := findClass_of_methodNamed B.named
  subst hsz
  have hD := hD0.self (sz := s.heap.size)
  rw [lg_entry_eq]
  have hsub : ∀ (i : Nat) (v : fx_V), (fx_lay as ++ List.replicate (nL - (fx_lay as).length) none)[i]? = some (some v) → (fx_lay as)[i]? = some (some v) := fun i v hi => by
    by_cases hi2 : i < (fx_lay as).length
    · rwa [List.getElem?_append_left hi2] at hi
    · rw [List.getElem?_append_right (by omega)] at hi
      have := List.mem_of_getElem? hi
      rw [List.mem_replicate] at this
      cases this.2
  have hen := lv_entry (as.map (fx_v ad ex)) (n := nL) (by rw [fx_lay_len]; exact hlen)
  exact body (p, l, e, rm, s, m, _, below, meth, c, 0, 0, _) (D, cy, ad, ex, va_A (fx_ws cy ad Λ h) s.heap.size) ⟨B.exec, B.bytes, hml, hown, fun w hw => hts w (List.mem_cons_of_mem _ hw), hK, hwf, fun q hq => Or.inr hq, rfl, B.notSynchronized, ⟨Nat.zero_le _, Nat.zero_le _⟩, hX⟩ ⟨B.returns, rfl⟩
    (fun i v hi => hok v (fx_lay_args ad ex as 0 i v (hsub i v hi)).2) (fun v hv => by cases hv) hR s.heap [] _ hP hD va_S.rf ⟨hen.1, hen.2.1, fun i v hi => by
      have := hen.2.2 _ (fx_lay_args ad ex as 0 i v (hsub i v hi)).1
      simpa using this⟩
section FXC
variable {M : fx_M} {G : fx_G} {Λ : fx_L} {cc : ByteArray} {own : String} {nL pc : Nat} {rm : Room} {ls : List (Option fx_V)} {st : List fx_V} {h : fx_H}
theorem fx_free {A : Nat → Prop} {ws : va_W} {H0 H : Heap} {locs : List Loc} (hD : va_D A ws) (hS : va_S A H0 H locs) (hA : ∀ q, H0.size ≤ q → A q) : ∀ q, va_A ws H.size q → A q := fun q hq => by
  rcases hq with ⟨k, e, hk⟩ | hq
  · exact hD.2 k _ hk
  · exact hA q (Nat.le_trans hS.1 hq)
theorem fx_ireturn (F : fx_F fx_X M G Λ cc own nL rm) {x : Int} (K : fx_Fr M G Λ (some .int) (some (0, x)) h) (d : decode cc pc = .ok (.ireturn, 1)) : fx_J M G Λ nL pc ls [(0, x)] h := by
  obtain ⟨p, l, e, R, s, m, args, below, meth, c, cells, slots, Q⟩ := M
  obtain ⟨D, cy, ad, ex, A⟩ := G
  obtain ⟨hx, hb, hml, hown, hts, hK, hwf, hA, hRm, hlocks, hcr, hX⟩ := F
  intro hls hst hR H locs la hP hD hS hl
  obtain ⟨hrt, hQ⟩ := K
  subst hQ
  exact W.iret hx hb hrt (fun t ht _ => ⟨⟨rfl, by rw [ht]; exact hP, hD, hR, fun v hv => by cases hv; exact hst _ List.mem_cons_self⟩, hS.F ht⟩) hS.2.2 d hlocks
theorem fx_zreturn (F : fx_F fx_X M G Λ cc own nL rm) {x : Int} (hbz : x = 0 ∨ x = 1) (K : fx_Fr M G Λ (some .boolean) (some (0, x)) h) (d : decode cc pc = .ok (.ireturn, 1)) : fx_J M G Λ nL pc ls [(0, x)] h := by
  obtain ⟨p, l, e, R, s, m, args, below, meth, c, cells, slots, Q⟩ := M
  obtain ⟨D, cy, ad, ex, A⟩ := G
  obtain ⟨hx, hb, hml, hown, hts, hK, hwf, hA, hRm, hlocks, hcr, hX⟩ := F
  intro hls hst hR H locs la hP hD hS hl
  obtain ⟨hrt, hQ⟩ := K
  subst hQ
  exact W.zret hx hb hrt (by rcases hbz with rfl | rfl <;> rfl) (fun t ht _ => ⟨⟨rfl, by rw [ht]; exact hP, hD, hR, fun v hv => by cases hv; exact hst _ List.mem_cons_self⟩, hS.F ht⟩) hS.2.2 d hlocks
theorem fx_lreturn (F : fx_F fx_X M G Λ cc own nL rm) {x : Int} (K : fx_Fr M G Λ (some .long) (some (1, x)) h) (d : decode cc pc = .ok (.lreturn, 1)) : fx_J M G Λ nL pc ls [(1, x)] h := by
  obtain ⟨p, l, e, R, s, m, args, below, meth, c, cells, slots, Q⟩ := M
  obtain ⟨D, cy, ad, ex, A⟩ := G
  obtain ⟨hx, hb, hml, hown, hts, hK, hwf, hA, hRm, hlocks, hcr, hX⟩ := F
  intro hls hst hR H locs la hP hD hS hl
  obtain ⟨hrt, hQ⟩ := K
  subst hQ
  exact W.lret hx hb hrt (fun t ht _ => ⟨⟨rfl, by rw [ht]; exact hP, hD, hR, fun v hv => by cases hv; exact hst _ List.mem_cons_self⟩, hS.F ht⟩) hS.2.2 d hlocks
theorem fx_vreturn (F : fx_F fx_X M G Λ cc own nL rm) (K : fx_Fr M G Λ none none h) (d : decode cc pc = .ok (.return_, 1)) : fx_J M G Λ nL pc ls [] h := by
  obtain ⟨p, l, e, R, s, m, args, below, meth, c, cells, slots, Q⟩ := M
  obtain ⟨D, cy, ad, ex, A⟩ := G
  obtain ⟨hx, hb, hml, hown, hts, hK, hwf, hA, hRm, hlocks, hcr, hX⟩ := F
  intro hls hst hR H locs la hP hD hS hl
  obtain ⟨hrt, hQ⟩ := K
  subst hQ
  exact W.vret hx hb hrt (fun t ht _ => ⟨⟨rfl, by rw [ht]; exact hP, hD, hR, fun v hv => by cases hv⟩, hS.F ht⟩) hS.2.2 d hlocks
theorem fx_areturn (F : fx_F fx_X M G Λ cc own nL rm) {x : Int} {k : Nat} {ty : FieldType} (K : fx_Fr M G Λ (some (.array ty)) (some (k + 2, x)) h) (d : decode cc pc = .ok (.areturn, 1)) : fx_J M G Λ nL pc ls [(k + 2, x)] h := by
  obtain ⟨p, l, e, R, s, m, args, below, meth, c, cells, slots, Q⟩ := M
  obtain ⟨D, cy, ad, ex, A⟩ := G
  obtain ⟨hx, hb, hml, hown, hts, hK, hwf, hA, hRm, hlocks, hcr, hX⟩ := F
  intro hls hst hR H locs la hP hD hS hl
  obtain ⟨hrt, hQ⟩ := K
  subst hQ
  obtain ⟨q, hq⟩ := fx_v_ref ad ex k x
  exact W.aret hx hb hrt (Or.inr ⟨_, rfl⟩) (Or.inr ⟨q, hq⟩) (fun t ht _ => ⟨⟨rfl, by rw [ht]; exact hP, hD, hR, fun v hv => by cases hv; exact hst _ List.mem_cons_self⟩, hS.F ht⟩) hS.2.2 d hlocks
theorem fx_blind {D : va_G} {cy : Nat → ClassId} {ad ex : Nat → Nat} {as : List fx_V} {sz : Nat} : FrameBlind (fx_Pc D cy ad ex Λ as h sz) := fun a U g mk q => by
  obtain ⟨q0, q1, qP, qK, qD, qX⟩ := q
  exact ⟨q0, q1, qP, va_K.moved (u := U) (U := U.calling g mk a) (Vm.Alike.refl U.vm) qK, qD, fx_X_same (u := U) rfl rfl qX⟩
theorem fx_pre {D : va_G} {cy : Nat → ClassId} {ad ex : Nat → Nat} {A : Nat → Prop} {s : State} {H : Heap} {locs : List Loc} {as : List fx_V} (hK : va_K D vwCl (fx_tys cy) s) (hP : va_P D vwCl (fx_ws cy ad Λ h) H) (hD : va_D A (fx_ws cy ad Λ h)) (hS : va_S A s.heap H locs) (hA : ∀ q, s.heap.size ≤ q → A q) (hX : fx_X ex A s) : ∀ U : State, U.heap = H → s.WarmedH U.vm → fx_Pc D cy ad ex Λ as h H.size (as.map (fx_v ad ex)).toArray U := fun U hU hW =>
  ⟨rfl, by rw [hU], by rw [hU]; exact hP, va_K.moved hW.alike hK, hD.weaken (fun _ _ _ _ => trivial), fx_X_go hW (fun a h1 h2 => by rw [hU]; exact hS.2.1 a h1 h2) (fx_free hD hS hA) hX⟩
theorem fx_after {p : Program} {l : Launch} {e : Env} {R : Room} {s : State} {m : MethodId} {args aa : Array Value} {below : List Frame} {meth : Method} {c : Code} {H : Heap} {locs : List Loc} {cells slots : Nat} {Q : State → Prop} {la : Array Slot} {rest stk : List Value} {D : va_G} {cy : Nat → ClassId} {ad ex : Nat → Nat} {A : Nat → Prop} {ro : Option fx_V} {ho : fx_H}
    (hr : va_Run p l e R s m args below meth c H locs cells slots 0 0 (F0 m pc la stk) rest (fx_Qc D cy ad ex Λ (va_A (fx_ws cy ad Λ h) H.size) ro ho aa) (va_A (fx_ws cy ad Λ h) H.size)) (hD : va_D A (fx_ws cy ad Λ h)) (hS : va_S A s.heap H locs) (hA : ∀ q, s.heap.size ≤ q → A q)
    (kk : ∀ (H1 : Heap) (locs1 : List Loc), va_P D vwCl (fx_ws cy ad Λ ho) H1 → va_D A (fx_ws cy ad Λ ho) → va_S A s.heap H1 locs1 → fx_rg ho → (∀ v, ro = some v → fx_ok Λ v) → W p l e R s m args below meth c H1 locs1 cells slots Q (F0 m (pc + 3) la ((ro.map (fx_v ad ex)).toList ++ rest))) : W p l e R s m args below meth c H locs cells slots Q (F0 m pc la stk) := by
  intro T hT X
  have hF := fx_free hD hS hA
  obtain ⟨v, st₀, t, T', L, h0, X', hL, e1, e2, ⟨⟨hv, hP1, hD1, hR1, hO1⟩, hz, hk⟩, st⟩ := hr T hT X
  cases hv
  rw [h0] at hz hk
  obtain ⟨t2, a1, b1⟩ := kk T'.heap (locs ++ L) (by rw [e1]; exact hP1) (hD1.weaken (fun k q _ h => hF q.1 h))
    ⟨Nat.le_trans hS.1 (by rw [e1]; exact hz), fun q h1 h2 => by rw [e1, hk q (Nat.lt_of_lt_of_le h1 hS.1) (fun z => h2 (hF q z))]; exact hS.2.1 q h1 h2, fun q hq => by
      rcases List.mem_append.mp hq with h | h
      · exact hS.2.2 q h
      · exact hF _ (hL q h)⟩ hR1 hO1 T' rfl X'
  exact ⟨t2, st t2 a1, b1⟩
/-- what the words say of a method -/
def fx_md (y : MethodName) (cc : ByteArray) (nL : Nat) (ret : Option FieldType) (n : Nat) : Prop := (y.cls ≠ "java/lang/invoke/MethodHandle" ∧ y.cls ≠ "java/lang/invoke/VarHandle" ∧ (parseMethodDescriptor y.desc).map (fun d => d.parameters.length) = some n) ∧ Cond.code y cc nL ret ∈ fx_WS ∧ Cond.initialized y.cls ∈ fx_WS
def fx_mi (y : MethodName) : Prop := Cond.instanceMethod y ∈ fx_WS ∧ Cond.selects y.cls y y ∈ fx_WS
theorem fx_goodm {y : MethodName} {cc' : ByteArray} {nL' : Nat} {ret : Option FieldType} {n : Nat} (hd : fx_md y cc' nL' ret n) : GoodIn fx_WS (Cond.code y cc' nL' ret :: fx_WS) := fun w hw => by
  rcases List.mem_cons.mp hw with rfl | hw
  · exact fx_WS_good _ hd.2.1
  · exact fx_WS_good _ hw
def fx_c8 (st : List fx_V) : Nat := (st.map (fun v : fx_V => match v.1 with | 1 => 2 | _ => 1)).sum
theorem fx_c8_le {ad ex : Nat → Nat} : ∀ st : List fx_V, ((st.map (fx_v ad ex)).map fun v => v.category).sum = fx_c8 st
  | [] => rfl
  | v :: st => by
    have ih := fx_c8_le (ad := ad) (ex := ex) st
    unfold fx_c8 at ih ⊢
    simp only [List.map_cons, List.sum_cons, ih]
    congr 1
    obtain ⟨t, x⟩ := v
    match t with
    | 0 => rfl
    | 1 => rfl
    | k + 2 =>
      obtain ⟨q, hq⟩ := fx_v_ref ad ex k x
      rw [hq]
      rfl
theorem fx_okr {ro : Option fx_V} {st : List fx_V} (h1 : ∀ v, ro = some v → fx_ok Λ v) (h2 : ∀ w ∈ st, fx_ok Λ w) : ∀ w ∈ ro.toList ++ st, fx_ok Λ w := fun w hw => by
  rcases List.mem_append.mp hw with hw | hw
  · cases ro with
    | none => cases hw
    | some v =>
      rcases List.mem_cons.mp hw with rfl | hw
      · exact h1 _ rfl
      · cases hw
  · exact h2 w hw
theorem fx_mapr {ad ex : Nat → Nat} {ro : Option fx_V} {st : List fx_V} : (ro.toList ++ st).map (fx_v ad ex) = (ro.map (fx_v ad ex)).toList ++ st.map (fx_v ad ex) := by
  cases ro <;> rfl
theorem fx_callV (F : fx_F fx_X M G Λ cc own nL rm) {y : MethodName} {cc' : ByteArray} {nL' index N : Nat} {ret : Option FieldType} {rm' : Room} {C : String} {T : u_T} (ci : Nat) (hC : fx_cls ci C T N) (as : List fx_V) {b : Int} {ro : Option fx_V} {ho : fx_H} (hM : fx_Met y cc' nL' ret rm' Λ ((ci + 2, b) :: as) h ro ho) (hd : fx_md y cc' nL' ret as.length) (hi : fx_mi y) (hyC : y.cls = C) (lk : Cond.methodLink own index y ∈ fx_WS) (hrm : rm'.cells = 0 ∧ rm'.slots = 0) (hRR : rm'.frames + 1 ≤ rm.frames ∧ 8 + (nL' + 11) + rm'.locals ≤ rm.locals) (hc8 : fx_c8 st ≤ 8) {stk : List fx_V} (hstk : stk = as.reverse ++ (ci + 2, b) :: st) (d : decode cc pc = .ok (.invokevirtual index, 3)) (g : fx_J M G Λ nL (pc + 3) ls (ro.toList ++ st) ho) : fx_J M G Λ nL pc ls stk h := by
  subst hstk
  obtain ⟨p, l, e, R, s, m, args, below, meth, c, cells, slots, Q⟩ := M
  obtain ⟨D, cy, ad, ex, A⟩ := G
  obtain ⟨hx, hb, hml, hown, hts, hK, hwf, hA, hRm, hlocks, hcr, hX⟩ := F
  intro hls hst hR H locs la hP hD hS hl
  subst hRm
  subst hyC
  obtain ⟨hc, h7, hN, hlen, hin, -, hnm⟩ := hC
  have hbok : fx_ok Λ (ci + 2, b) := hst _ (List.mem_append_right _ List.mem_cons_self)
  have has : ∀ v ∈ as, fx_ok Λ v := fun v hv => hst v (List.mem_append_left _ (List.mem_reverse.mpr hv))
  have hr' : ∀ v ∈ st, fx_ok Λ v := fun v hv => hst v (List.mem_append_right _ (List.mem_cons_of_mem _ hv))
  obtain ⟨h0, h1, hkd⟩ := fx_ok_cell (by omega) hbok
  have he := fx_ws_at (cy := cy) (ad := ad) (h := h) h0 h1
  rw [fx_cell_obj hkd h7] at he
  have hM' := hM hR (fx_okc hbok has) hwf l D cy ad ex H.size
  have hbv : fx_v ad ex (ci + 2, b) = .ref (ad b.toNat) := fx_v_cell (by omega)
  have hcB : CallB R s args own index y cc' nL' ret (Cond.code y cc' nL' ret :: fx_WS) rm' 0 0 as.length := callB_of as.length hts (fx_goodm hd) rfl hrm.1 hrm.2 (hts _ hd.2.2) (hts _ lk) hd.1 hRR
  have hpre := fx_pre (as := (ci + 2, b) :: as) hK hP hD hS hA hX
  rw [List.map_cons, hbv] at hpre
  rw [List.map_append, List.map_reverse, List.map_cons, hbv]
  refine fx_after (va_runV (C := y.cls) (As := as.map (fx_v ad ex)) (rest := st.map (fx_v ad ex)) ⟨hx, hb, hml, hown, hts⟩ hM' ⟨hcB, hts _ hi.1, hts _ hi.2⟩ ⟨fx_blind, va_recv hK hP hc he, hpre⟩ rfl (by simp) hl.1 rfl (lv_room (by rw [fx_c8_le]; exact hc8)) d ⟨?_, ?_⟩) hD hS hA (fun H1 locs1 hP1 hD1 hS1 hR1 hO1 => ?_)
  · exact hcr.1
  · exact hcr.2
  · rw [← fx_mapr]
    exact g hls (fx_okr hO1 hr') hR1 H1 locs1 la hP1 hD1 hS1 hl
end FXC
end
section
section FXD
variable {M : fx_M} {G : fx_G} {Λ : fx_L} {cc : ByteArray} {own : String} {nL pc : Nat} {rm : Room} {ls : List (Option fx_V)} {st : List fx_V} {h : fx_H}
theorem fx_callS (F : fx_F fx_X M G Λ cc own nL rm) {y : MethodName} {cc' : ByteArray} {nL' index : Nat} {ret : Option FieldType} {rm' : Room} (as : List fx_V) {ro : Option fx_V} {ho : fx_H} (hM : fx_Met y cc' nL' ret rm' Λ as h ro ho) (hd : fx_md y cc' nL' ret as.length) (hss : Cond.static y ∈ fx_WS) (lk : Cond.methodLink own index y ∈ fx_WS) (hrm : rm'.cells = 0 ∧ rm'.slots = 0) (hRR : rm'.frames + 1 ≤ rm.frames ∧ 8 + (nL' + 11) + rm'.locals ≤ rm.locals) (hc8 : fx_c8 st ≤ 8) {stk : List fx_V} (hstk : stk = as.reverse ++ st) (d : decode cc pc = .ok (.invokestatic index, 3)) (g : fx_J M G Λ nL (pc + 3) ls (ro.toList ++ st) ho) : fx_J M G Λ nL pc ls stk h := by
  subst hstk
  obtain ⟨p, l, e, R, s, m, args, below, meth, c, cells, slots, Q⟩ := M
  obtain ⟨D, cy, ad, ex, A⟩ := G
  obtain ⟨hx, hb, hml, hown, hts, hK, hwf, hA, hRm, hlocks, hcr, hX⟩ := F
  intro hls hst hR H locs la hP hD hS hl
  subst hRm
  have has : ∀ v ∈ as, fx_ok Λ v := fun v hv => hst v (List.mem_append_left _ (List.mem_reverse.mpr hv))
  have hr' : ∀ v ∈ st, fx_ok Λ v := fun v hv => hst v (List.mem_append_right _ hv)
  have hM' := hM hR has hwf l D cy ad ex H.size
  have hcB : CallB R s args own index y cc' nL' ret (Cond.code y cc' nL' ret :: fx_WS) rm' 0 0 as.length := callB_of as.length hts (fx_goodm hd) rfl hrm.1 hrm.2 (hts _ hd.2.2) (hts _ lk) hd.1 hRR
  have hpre := fx_pre (as := as) hK hP hD hS hA hX
  rw [List.map_append, List.map_reverse]
  refine fx_after (va_runS (As := as.map (fx_v ad ex)) (rest := st.map (fx_v ad ex)) ⟨hx, hb, hml, hown, hts⟩ hM' ⟨hcB, hts _ hss⟩ ⟨fx_blind, hpre⟩ rfl (by simp) hl.1 rfl (lv_room (by rw [fx_c8_le]; exact hc8)) d hcr) hD hS hA (fun H1 locs1 hP1 hD1 hS1 hR1 hO1 => ?_)
  rw [← fx_mapr]
  exact g hls (fx_okr hO1 hr') hR1 H1 locs1 la hP1 hD1 hS1 hl
theorem fx_callSN (F : fx_F fx_X M G Λ cc own nL rm) {y : MethodName} {cc' : ByteArray} {nL' index : Nat} {ret : Option FieldType} {rm' : Room} (as : List fx_V) {ro : Option fx_V} {ho : fx_H} (hM : fx_Met y cc' nL' ret rm' Λ as h ro ho) (hd : fx_md y cc' nL' ret as.length) (hss : Cond.static y ∈ fx_WS) (lk : (own, index, y) ∈ fx_nm) (hrm : rm'.cells = 0 ∧ rm'.slots = 0) (hRR : rm'.frames + 1 ≤ rm.frames ∧ 8 + (nL' + 11) + rm'.locals ≤ rm.locals) (hc8 : fx_c8 st ≤ 8) {stk : List fx_V} (hstk : stk = as.reverse ++ st) (d : decode cc pc = .ok (.invokestatic index, 3)) (g : fx_J M G Λ nL (pc + 3) ls (ro.toList ++ st) ho) : fx_J M G Λ nL pc ls stk h := by
  subst hstk
  obtain ⟨p, l, e, R, s, m, args, below, meth, c, cells, slots, Q⟩ := M
  obtain ⟨D, cy, ad, ex, A⟩ := G
  obtain ⟨hx, hb, hml, hown, hts, hK, hwf, hA, hRm, hlocks, hcr, hX⟩ := F
  intro hls hst hR H locs la hP hD hS hl
  subst hRm
  have has : ∀ v ∈ as, fx_ok Λ v := fun v hv => hst v (List.mem_append_left _ (List.mem_reverse.mpr hv))
  have hr' : ∀ v ∈ st, fx_ok Λ v := fun v hv => hst v (List.mem_append_right _ hv)
  have hM' := hM hR has hwf l D cy ad ex H.size
  have hcB : va_CN R s args own index y RX5 cc' nL' ret (Cond.code y cc' nL' ret :: fx_WS) rm' 0 0 as.length := va_cnB as.length hts (fx_goodm hd) rfl hrm.1 hrm.2 (hX.1 _ lk) (hts _ hd.2.2) hd.1 hRR
  have hpre := fx_pre (as := as) hK hP hD hS hA hX
  rw [List.map_append, List.map_reverse]
  refine fx_after (va_runSN (host := RX5) (As := as.map (fx_v ad ex)) (rest := st.map (fx_v ad ex)) ⟨hx, hb, hml, hown, hts⟩ hM' ⟨hcB, hts _ hss, trivial⟩ ⟨fx_blind, hpre⟩ rfl (by simp) hl.1 rfl (lv_room (by rw [fx_c8_le]; exact hc8)) d hcr) hD hS hA (fun H1 locs1 hP1 hD1 hS1 hR1 hO1 => ?_)
  rw [← fx_mapr]
  exact g hls (fx_okr hO1 hr') hR1 H1 locs1 la hP1 hD1 hS1 hl
theorem fx_imin (F : fx_F fx_X M G Λ cc own nL rm) {x y : Int} {index : Nat} (lk : Cond.methodLink own index Lib.Math.min.name ∈ fx_WS) (hk1 : Cond.static Lib.Math.min.name ∈ fx_WS) (hk2 : Cond.initialized "java/lang/Math" ∈ fx_WS) (hk3 : Cond.code Lib.Math.min.name Lib.Math.min.code 2 (some .int) ∈ fx_WS) (hf1 : 1 ≤ rm.frames) (hf2 : fx_c8 st + 13 ≤ rm.locals) (d : decode cc pc = .ok (.invokestatic index, 3)) (g : fx_J M G Λ nL (pc + 3) ls ((0, min x y) :: st) h) : fx_J M G Λ nL pc ls ((0, y) :: (0, x) :: st) h := by
  obtain ⟨p, l, e, R, s, m, args, below, meth, c, cells, slots, Q⟩ := M
  obtain ⟨D, cy, ad, ex, A⟩ := G
  obtain ⟨hx, hb, hml, hown, hts, hK, hwf, hA, hRm, hlocks, hcr, hX⟩ := F
  intro hls hst hR H locs la hP hD hS hl
  have hy' := hst _ List.mem_cons_self
  have hx' := hst _ (List.mem_cons_of_mem _ List.mem_cons_self)
  have hr' : ∀ v ∈ st, fx_ok Λ v := fun v hv => hst v (List.mem_cons_of_mem _ (List.mem_cons_of_mem _ hv))
  subst hRm
  have e9 : (if Int32.ofInt y < Int32.ofInt x then Int32.ofInt y else Int32.ofInt x) = Int32.ofInt (min x y) := by
    have h3 := fx_lt (fx_ok_i hy') (fx_ok_i hx')
    by_cases hq : y < x
    · rw [if_pos (h3.mpr hq), Int.min_eq_right (by omega)]
    · rw [if_neg (fun z => hq (h3.mp z)), Int.min_eq_left (by omega)]
  refine va_mmin hx hb (hml.trans hl.1.symm) hown (hts _ lk) (hts _ hk1) (hts _ hk2) (hts _ hk3) hf1 (by rw [fx_c8_le]; exact hf2) hcr.1 hcr.2 d ?_
  rw [e9]
  have hxr := fx_ok_i hx'
  have hyr := fx_ok_i hy'
  exact g hls (fx_okc (by show fx_R (min x y); unfold fx_R at hxr hyr ⊢; omega) hr') hR H locs la hP hD hS hl
theorem fx_imax (F : fx_F fx_X M G Λ cc own nL rm) {x y : Int} {index : Nat} (lk : Cond.methodLink own index Lib.Math.max.name ∈ fx_WS) (hk1 : Cond.static Lib.Math.max.name ∈ fx_WS) (hk2 : Cond.initialized "java/lang/Math" ∈ fx_WS) (hk3 : Cond.code Lib.Math.max.name Lib.Math.max.code 2 (some .int) ∈ fx_WS) (hf1 : 1 ≤ rm.frames) (hf2 : fx_c8 st + 13 ≤ rm.locals) (d : decode cc pc = .ok (.invokestatic index, 3)) (g : fx_J M G Λ nL (pc + 3) ls ((0, max x y) :: st) h) : fx_J M G Λ nL pc ls ((0, y) :: (0, x) :: st) h := by
  obtain ⟨p, l, e, R, s, m, args, below, meth, c, cells, slots, Q⟩ := M
  obtain ⟨D, cy, ad, ex, A⟩ := G
  obtain ⟨hx, hb, hml, hown, hts, hK, hwf, hA, hRm, hlocks, hcr, hX⟩ := F
  intro hls hst hR H locs la hP hD hS hl
  have hy' := hst _ List.mem_cons_self
  have hx' := hst _ (List.mem_cons_of_mem _ List.mem_cons_self)
  have hr' : ∀ v ∈ st, fx_ok Λ v := fun v hv => hst v (List.mem_cons_of_mem _ (List.mem_cons_of_mem _ hv))
  subst hRm
  have e9 : (if Int32.ofInt x < Int32.ofInt y then Int32.ofInt y else Int32.ofInt x) = Int32.ofInt (max x y) := by
    have h3 := fx_lt (fx_ok_i hx') (fx_ok_i hy')
    by_cases hq : x < y
    · rw [if_pos (h3.mpr hq), Int.max_eq_right (by omega)]
    · rw [if_neg (fun z => hq (h3.mp z)), Int.max_eq_left (by omega)]
  refine va_mmax hx hb (hml.trans hl.1.symm) hown (hts _ lk) (hts _ hk1) (hts _ hk2) (hts _ hk3) hf1 (by rw [fx_c8_le]; exact hf2) hcr.1 hcr.2 d ?_
  rw [e9]
  have hxr := fx_ok_i hx'
  have hyr := fx_ok_i hy'
  exact g hls (fx_okc (by show fx_R (max x y); unfold fx_R at hxr hyr ⊢; omega) hr') hR H locs la hP hD hS hl
def fx_cpy (h : fx_H) (src sp dst dp n : Int) : fx_H := fun a i => if a = dst ∧ dp ≤ i ∧ i < dp + n then h src (sp + (i - dp)) else h a i
theorem fx_cell_eq {cy : Nat → ClassId} {ad : Nat → Nat} {h' : fx_H} {b : Int} (e : ∀ j : Int, h' b j = h b j) : fx_cell cy ad Λ h' b = fx_cell cy ad Λ h b := by
  unfold fx_cell
  split <;> simp only [fx_ai, fx_fs, e] <;> (try rfl)
  congr 2
  apply List.map_congr_left
  intro j _
  unfold fx_fv
  split <;> simp only [e]
theorem fx_ws_setG {cy : Nat → ClassId} {ad : Nat → Nat} {h' : fx_H} {a : Int} (h0 : 0 ≤ a) {e : va_E} (hne : ∀ b : Int, b ≠ a → ∀ j : Int, h' b j = h b j) (he : fx_cell cy ad Λ h' a = e) : (fx_ws cy ad Λ h).set a.toNat (ad a.toNat, e) = fx_ws cy ad Λ h' := by
  subst he
  have := fx_map_set Λ.1 a.toNat (fun k : Nat => (ad k, fx_cell cy ad Λ h k)) (fun k : Nat => (ad k, fx_cell cy ad Λ h' k)) (fun k hk => by
    show (ad k, fx_cell cy ad Λ h' k) = (ad k, fx_cell cy ad Λ h k)
    rw [fx_cell_eq (hne k (by omega))])
  rw [Int.toNat_of_nonneg h0] at this
  exact this
theorem fx_acopy (F : fx_F fx_X M G Λ cc own nL rm) {a0 a sp dp n : Int} {index : Nat} (lk : Cond.methodLink own index arraycopyName ∈ fx_WS) (hk1 : Cond.native arraycopyName ∈ fx_WS) (hk2 : Cond.static arraycopyName ∈ fx_WS) (hk3 : Cond.initialized "java/lang/System" ∈ fx_WS) (hf1 : 1 ≤ rm.frames) (hf2 : fx_c8 st + 18 ≤ rm.locals) (h1 : 0 ≤ sp) (h2 : 0 ≤ dp) (h3 : 0 ≤ n) (h4 : sp + n ≤ fx_ln Λ a0) (h5 : dp + n ≤ fx_ln Λ a) (d : decode cc pc = .ok (.invokestatic index, 3)) (g : fx_J M G Λ nL (pc + 3) ls st (fx_cpy h a0 sp a dp n)) : fx_J M G Λ nL pc ls ((0, n) :: (0, dp) :: (8 + 2, a) :: (0, sp) :: (8 + 2, a0) :: st) h := by
  obtain ⟨p, l, e, R, s, m, args, below, meth, c, cells, slots, Q⟩ := M
  obtain ⟨D, cy, ad, ex, A⟩ := G
  obtain ⟨hx, hb, hml, hown, hts, hK, hwf, hA, hRm, hlocks, hcr, hX⟩ := F
  intro hls hst hR H locs la hP hD hS hl
  have q1 := hst _ List.mem_cons_self
  have q2 := hst _ (List.mem_cons_of_mem _ List.mem_cons_self)
  have q3 := hst _ (List.mem_cons_of_mem _ (List.mem_cons_of_mem _ List.mem_cons_self))
  have q4 := hst _ (List.mem_cons_of_mem _ (List.mem_cons_of_mem _ (List.mem_cons_of_mem _ List.mem_cons_self)))
  have q5 := hst _ (List.mem_cons_of_mem _ (List.mem_cons_of_mem _ (List.mem_cons_of_mem _ (List.mem_cons_of_mem _ List.mem_cons_self))))
  have hr' : ∀ v ∈ st, fx_ok Λ v := fun v hv => hst v (List.mem_cons_of_mem _ (List.mem_cons_of_mem _ (List.mem_cons_of_mem _ (List.mem_cons_of_mem _ (List.mem_cons_of_mem _ hv)))))
  subst hRm
  obtain ⟨a1, a2, hkd⟩ := fx_ok_cell (by omega) q3
  obtain ⟨b1, b2, hkd0⟩ := fx_ok_cell (by omega) q5
  have he := fx_ws_at (cy := cy) (ad := ad) (h := h) a1 a2
  have he0 := fx_ws_at (cy := cy) (ad := ad) (h := h) b1 b2
  have hcell : ∀ (h : fx_H), fx_cell cy ad Λ h a = fx_ai (cy 1) Λ h a := fun h => by unfold fx_cell; rw [hkd]; rfl
  have hcell0 : ∀ (h : fx_H), fx_cell cy ad Λ h a0 = fx_ai (cy 1) Λ h a0 := fun h => by unfold fx_cell; rw [hkd0]; rfl
  rw [hcell] at he
  rw [hcell0] at he0
  have r1 := fx_ok_i q1
  have r2 := fx_ok_i q2
  have r4 := fx_ok_i q4
  have z0 : fx_R 0 := by unfold fx_R; omega
  have nn : ∀ z : Int, fx_R z → 0 ≤ z → ¬ Int32.ofInt z < 0 := fun z hz h0 q => by
    have := (fx_lt hz z0).mp q
    omega
  rw [List.map_cons, List.map_cons, List.map_cons, List.map_cons, List.map_cons, fx_v_cell (by omega), fx_v_cell (by omega)]
  refine va_copyi (ty := .int) hx hb (hml.trans hl.1.symm) hown (hts _ lk) (hts _ hk1) (hts _ hk2) (hts _ hk3) hK hP hD hS a0.toNat a.toNat 1 1 he0 he rfl rfl rfl (nn sp r4 h1) (nn dp r2 h2) (nn n r1 h3) (by rw [fx_cl r4, fx_cl r1]; omega) (by rw [fx_cl r2, fx_cl r1]; omega) (fun i _ => rfl) hf1 (by rw [fx_c8_le]; show fx_c8 st + 18 ≤ R.locals; exact hf2) d (fun H1 locs1 hP1 hD1 hS1 => ?_)
  have hc1 : fx_cell cy ad Λ (fx_cpy h a0 sp a dp n) a = .inl (cy 1, (fx_ln Λ a).toNat, .inl (va_cpy (fun j : Nat => Int32.ofInt (h a0 j)) (fun j : Nat => Int32.ofInt (h a j)) (Int32.ofInt sp).toNatClampNeg (Int32.ofInt dp).toNatClampNeg (Int32.ofInt n).toNatClampNeg)) := by
    rw [hcell]
    unfold fx_ai
    congr 4
    funext j
    rw [fx_cl r1, fx_cl r2, fx_cl r4]
    unfold va_cpy fx_cpy
    by_cases hj : dp.toNat ≤ j ∧ j < dp.toNat + n.toNat
    · have hj2 : dp ≤ (j : Int) ∧ (j : Int) < dp + n := by omega
      rw [if_pos hj, if_pos ⟨rfl, hj2.1, hj2.2⟩]
      congr 2
      omega
    · rw [if_neg hj, if_neg (fun z => hj (by omega))]
  rw [fx_ws_setG a1 (fun b hb' j => by simp [fx_cpy, hb']) hc1] at hP1 hD1
  refine g hls hr' ⟨fun b j hj => ?_, fun b j => ?_⟩ H1 locs1 la hP1 hD1 hS1 hl
  · unfold fx_cpy
    split
    · refine hR.1 _ _ ?_
      have := (hwf a0 b1 b2).2.1
      omega
    · exact hR.1 b j hj
  · unfold fx_cpy
    split
    · exact hR.2 _ _
    · exact hR.2 b j
theorem fx_gets (F : fx_F fx_X M G Λ cc own nL rm) {index : Nat} (t : Nat) {nm : String} (ht : (t = 0 ∧ nm = "PAIR_PAYS") ∨ (t = 1 ∧ nm = "NEXT_ONE_ADDS")) (lk : (own, index, nm) ∈ fx_nf) (d : decode cc pc = .ok (.getstatic index, 3)) (g : fx_J M G Λ nL (pc + 3) ls ((20, (t : Int)) :: st) h) : fx_J M G Λ nL pc ls st h := by
  obtain ⟨p, l, e, R, s, m, args, below, meth, c, cells, slots, Q⟩ := M
  obtain ⟨D, cy, ad, ex, A⟩ := G
  obtain ⟨hx, hb, hml, hown, hts, hK, hwf, hA, hRm, hlocks, hcr, hX⟩ := F
  intro hls hst hR H locs la hP hD hS hl
  have h9 := g hls (fx_okc trivial hst) hR H locs la hP hD hS hl
  rcases ht with ⟨rfl, rfl⟩ | ⟨rfl, rfl⟩
  · exact va_getsN hx hb hX.2.2.1.1 hS hown (va_Nw.use rfl (hX.2.1 _ lk)) (fun _ q => q) d h9
  · exact va_getsN hx hb hX.2.2.2.1.1 hS hown (va_Nw.use rfl (hX.2.1 _ lk)) (fun _ q => q) d h9
theorem fx_tald (F : fx_F fx_X M G Λ cc own nL rm) {i : Int} (t : Nat) (ht : t = 0 ∨ t = 1) (h2 : 0 ≤ i) (h3 : i < 6) (d : decode cc pc = .ok (.iaload, 1)) (g : fx_J M G Λ nL (pc + 1) ls ((0, fx_tab t i.toNat) :: st) h) : fx_J M G Λ nL pc ls ((0, i) :: (20, (t : Int)) :: st) h := by
  obtain ⟨p, l, e, R, s, m, args, below, meth, c, cells, slots, Q⟩ := M
  obtain ⟨D, cy, ad, ex, A⟩ := G
  obtain ⟨hx, hb, hml, hown, hts, hK, hwf, hA, hRm, hlocks, hcr, hX⟩ := F
  intro hls hst hR H locs la hP hD hS hl
  have hy' := hst _ List.mem_cons_self
  have hx' := hst _ (List.mem_cons_of_mem _ List.mem_cons_self)
  have hr' : ∀ v ∈ st, fx_ok Λ v := fun v hv => hst v (List.mem_cons_of_mem _ (List.mem_cons_of_mem _ hv))
  have hir := fx_ok_i hy'
  have ht9 : fx_R (fx_tab t i.toNat) := by
    have : i.toNat < 6 := by omega
    generalize i.toNat = j at this
    have h6 : ∀ t, t < 2 → ∀ j, j < 6 → -2147483648 ≤ fx_tab t j ∧ fx_tab t j ≤ 2147483647 := by decide +kernel
    exact h6 t (by omega) j this
  have h9 := g hls (fx_okc ht9 hr') hR H locs la hP hD hS hl
  rcases ht with rfl | rfl
  · exact va_ti hx hb hX.2.2.1.2 hS (fx_in hir h2 (by omega)) (by rw [fx_cl hir]; rfl) d h9
  · exact va_ti hx hb hX.2.2.2.1.2 hS (fx_in hir h2 (by omega)) (by rw [fx_cl hir]; rfl) d h9
theorem fx_tswO (F : fx_F fx_X M G Λ cc own nL rm) {x dflt lo hi : Int} {offs : Array Int} {len : Nat} (tgt : Nat) (d : decode cc pc = .ok (.tableswitch dflt lo hi offs, len)) (hq : x < lo ∨ hi < x) (ht : (pc : Int) + dflt = (tgt : Int)) (g : fx_J M G Λ nL tgt ls st h) : fx_J M G Λ nL pc ls ((0, x) :: st) h := by
  obtain ⟨p, l, e, R, s, m, args, below, meth, c, cells, slots, Q⟩ := M
  obtain ⟨D, cy, ad, ex, A⟩ := G
  obtain ⟨hx, hb, hml, hown, hts, hK, hwf, hA, hRm, hlocks, hcr, hX⟩ := F
  intro hls hst hR H locs la hP hD hS hl
  have hx' := hst _ List.mem_cons_self
  have hr' : ∀ v ∈ st, fx_ok Λ v := fun v hv => hst v (List.mem_cons_of_mem _ hv)
  exact lv_tableOut hx hb d (by show (Int32.ofInt x).toInt < lo ∨ hi < (Int32.ofInt x).toInt; rw [fx_tR (fx_ok_i hx')]; exact hq) ht (g hls hr' hR H locs la hP hD hS hl)
theorem fx_tswI (F : fx_F fx_X M G Λ cc own nL rm) {x dflt lo hi off : Int} {offs : Array Int} {len : Nat} (tgt k : Nat) (d : decode cc pc = .ok (.tableswitch dflt lo hi offs, len)) (hq : x = lo + k) (hk : lo + k ≤ hi) (ho : offs[k]? = some off) (ht : (pc : Int) + off = (tgt : Int)) (g : fx_J M G Λ nL tgt ls st h) : fx_J M G Λ nL pc ls ((0, x) :: st) h := by
  obtain ⟨p, l, e, R, s, m, args, below, meth, c, cells, slots, Q⟩ := M
  obtain ⟨D, cy, ad, ex, A⟩ := G
  obtain ⟨hx, hb, hml, hown, hts, hK, hwf, hA, hRm, hlocks, hcr, hX⟩ := F
  intro hls hst hR H locs la hP hD hS hl
  have hx' := hst _ List.mem_cons_self
  have hr' : ∀ v ∈ st, fx_ok Λ v := fun v hv => hst v (List.mem_cons_of_mem _ hv)
  have e := fx_tR (fx_ok_i hx')
  exact lv_tableIn hx hb d (by show ¬ (Int32.ofInt x).toInt < lo; rw [e]; omega) (by show ¬ hi < (Int32.ofInt x).toInt; rw [e]; omega) (by show offs[((Int32.ofInt x).toInt - lo).toNat]? = some off; rw [e, show (x - lo).toNat = k by omega]; exact ho) ht (g hls hr' hR H locs la hP hD hS hl)
theorem fx_lsw (F : fx_F fx_X M G Λ cc own nL rm) {x dflt off : Int} {ps : Array (Int × Int)} {len : Nat} (tgt : Nat) (d : decode cc pc = .ok (.lookupswitch dflt ps, len)) (hp : (ps.toList.zip (ps.toList.drop 1)).all (fun (a, next) => a.1 < next.1) = true) (ho : Op.lookupswitch.offset ps.toList dflt x = off) (ht : (pc : Int) + off = (tgt : Int)) (g : fx_J M G Λ nL tgt ls st h) : fx_J M G Λ nL pc ls ((0, x) :: st) h := by
  obtain ⟨p, l, e, R, s, m, args, below, meth, c, cells, slots, Q⟩ := M
  obtain ⟨D, cy, ad, ex, A⟩ := G
  obtain ⟨hx, hb, hml, hown, hts, hK, hwf, hA, hRm, hlocks, hcr, hX⟩ := F
  intro hls hst hR H locs la hP hD hS hl
  have hx' := hst _ List.mem_cons_self
  have hr' : ∀ v ∈ st, fx_ok Λ v := fun v hv => hst v (List.mem_cons_of_mem _ hv)
  exact lv_lookup hx hb d hp (by show Op.lookupswitch.offset ps.toList dflt (Int32.ofInt x).toInt = off; rw [fx_tR (fx_ok_i hx')]; exact ho) ht (g hls hr' hR H locs la hP hD hS hl)
theorem fx_top {X : (Nat → Nat) → (Nat → Prop) → State → Prop} {t : Nat} {x y : Int} (e : x = y) (g : fx_J M G Λ nL pc ls ((t, y) :: st) h) : fx_J M G Λ nL pc ls ((t, x) :: st) h := by
  rw [e]; exact g
/-! source relations: j: the jump is taken when it holds, n: when it doesn't -/
theorem fx_jlt (F : fx_F fx_X M G Λ cc own nL rm) {x y off : Int} (tgt : Nat) (ht : (pc : Int) + off = (tgt : Int)) (d : decode cc pc = .ok (.if_icmp .lt off, 3)) (gT : x < y → fx_J M G Λ nL tgt ls st h) (gF : ¬ (x < y) → fx_J M G Λ nL (pc + 3) ls st h) : fx_J M G Λ nL pc ls ((0, y) :: (0, x) :: st) h := fx_icmp_lt F tgt ht d gT gF
theorem fx_nlt (F : fx_F fx_X M G Λ cc own nL rm) {x y off : Int} (tgt : Nat) (ht : (pc : Int) + off = (tgt : Int)) (d : decode cc pc = .ok (.if_icmp .ge off, 3)) (gT : x < y → fx_J M G Λ nL (pc + 3) ls st h) (gF : ¬ (x < y) → fx_J M G Λ nL tgt ls st h) : fx_J M G Λ nL pc ls ((0, y) :: (0, x) :: st) h := fx_icmp_ge F tgt ht d (fun q => gF (Int.not_lt.mpr q)) (fun q => gT (Int.not_le.mp q))
theorem fx_jzlt (F : fx_F fx_X M G Λ cc own nL rm) {x off : Int} (tgt : Nat) (ht : (pc : Int) + off = (tgt : Int)) (d : decode cc pc = .ok (.ifCond .lt off, 3)) (gT : x < 0 → fx_J M G Λ nL tgt ls st h) (gF : ¬ (x < 0) → fx_J M G Λ nL (pc + 3) ls st h) : fx_J M G Λ nL pc ls ((0, x) :: st) h := fx_if_lt F tgt ht d gT gF
theorem fx_nzlt (F : fx_F fx_X M G Λ cc own nL rm) {x off : Int} (tgt : Nat) (ht : (pc : Int) + off = (tgt : Int)) (d : decode cc pc = .ok (.ifCond .ge off, 3)) (gT : x < 0 → fx_J M G Λ nL (pc + 3) ls st h) (gF : ¬ (x < 0) → fx_J M G Λ nL tgt ls st h) : fx_J M G Λ nL pc ls ((0, x) :: st) h := fx_if_ge F tgt ht d (fun q => gF (Int.not_lt.mpr q)) (fun q => gT (Int.not_le.mp q))
theorem fx_cm_lt (x y : Int) : (fx_cmp x y < 0) ↔ (x < y) := by
  unfold fx_cmp
  by_cases h1 : y < x
  · simp only [if_pos h1]; omega
  · by_cases h2 : x = y
    · simp only [if_neg h1, if_pos h2]; first | omega | simp [h2]
    · simp only [if_neg h1, if_neg h2]; omega
theorem fx_jllt (F : fx_F fx_X M G Λ cc own nL rm) {x y off : Int} (tgt : Nat) (ht : ((pc + 1 : Nat) : Int) + off = (tgt : Int)) (d : decode cc pc = .ok (.lcmp, 1)) (d2 : decode cc (pc + 1) = .ok (.ifCond .lt off, 3)) (gT : x < y → fx_J M G Λ nL tgt ls st h) (gF : ¬ (x < y) → fx_J M G Λ nL (pc + 1 + 3) ls st h) : fx_J M G Λ nL pc ls ((1, y) :: (1, x) :: st) h := fx_rlcmp F d (fx_jzlt F tgt ht d2 (fun q => gT ((fx_cm_lt x y).mp q)) (fun q => gF (fun z => q ((fx_cm_lt x y).mpr z))))
theorem fx_nllt (F : fx_F fx_X M G Λ cc own nL rm) {x y off : Int} (tgt : Nat) (ht : ((pc + 1 : Nat) : Int) + off = (tgt : Int)) (d : decode cc pc = .ok (.lcmp, 1)) (d2 : decode cc (pc + 1) = .ok (.ifCond .ge off, 3)) (gT : x < y → fx_J M G Λ nL (pc + 1 + 3) ls st h) (gF : ¬ (x < y) → fx_J M G Λ nL tgt ls st h) : fx_J M G Λ nL pc ls ((1, y) :: (1, x) :: st) h := fx_rlcmp F d (fx_nzlt F tgt ht d2 (fun q => gT ((fx_cm_lt x y).mp q)) (fun q => gF (fun z => q ((fx_cm_lt x y).mpr z))))
theorem fx_jle (F : fx_F fx_X M G Λ cc own nL rm) {x y off : Int} (tgt : Nat) (ht : (pc : Int) + off = (tgt : Int)) (d : decode cc pc = .ok (.if_icmp .le off, 3)) (gT : x ≤ y → fx_J M G Λ nL tgt ls st h) (gF : ¬ (x ≤ y) → fx_J M G Λ nL (pc + 3) ls st h) : fx_J M G Λ nL pc ls ((0, y) :: (0, x) :: st) h := fx_icmp_le F tgt ht d gT gF
theorem fx_nle (F : fx_F fx_X M G Λ cc own nL rm) {x y off : Int} (tgt : Nat) (ht : (pc : Int) + off = (tgt : Int)) (d : decode cc pc = .ok (.if_icmp .gt off, 3)) (gT : x ≤ y → fx_J M G Λ nL (pc + 3) ls st h) (gF : ¬ (x ≤ y) → fx_J M G Λ nL tgt ls st h) : fx_J M G Λ nL pc ls ((0, y) :: (0, x) :: st) h := fx_icmp_gt F tgt ht d (fun q => gF (Int.not_le.mpr q)) (fun q => gT (Int.not_lt.mp q))
theorem fx_jzle (F : fx_F fx_X M G Λ cc own nL rm) {x off : Int} (tgt : Nat) (ht : (pc : Int) + off = (tgt : Int)) (d : decode cc pc = .ok (.ifCond .le off, 3)) (gT : x ≤ 0 → fx_J M G Λ nL tgt ls st h) (gF : ¬ (x ≤ 0) → fx_J M G Λ nL (pc + 3) ls st h) : fx_J M G Λ nL pc ls ((0, x) :: st) h := fx_if_le F tgt ht d gT gF
theorem fx_nzle (F : fx_F fx_X M G Λ cc own nL rm) {x off : Int} (tgt : Nat) (ht : (pc : Int) + off = (tgt : Int)) (d : decode cc pc = .ok (.ifCond .gt off, 3)) (gT : x ≤ 0 → fx_J M G Λ nL (pc + 3) ls st h) (gF : ¬ (x ≤ 0) → fx_J M G Λ nL tgt ls st h) : fx_J M G Λ nL pc ls ((0, x) :: st) h := fx_if_gt F tgt ht d (fun q => gF (Int.not_le.mpr q)) (fun q => gT (Int.not_lt.mp q))
theorem fx_cm_le (x y : Int) : (fx_cmp x y ≤ 0) ↔ (x ≤ y) := by
  unfold fx_cmp
  by_cases h1 : y < x
  · simp only [if_pos h1]; omega
  · by_cases h2 : x = y
    · simp only [if_neg h1, if_pos h2]; first | omega | simp [h2]
    · simp only [if_neg h1, if_neg h2]; omega
theorem fx_jlle (F : fx_F fx_X M G Λ cc own nL rm) {x y off : Int} (tgt : Nat) (ht : ((pc + 1 : Nat) : Int) + off = (tgt : Int)) (d : decode cc pc = .ok (.lcmp, 1)) (d2 : decode cc (pc + 1) = .ok (.ifCond .le off, 3)) (gT : x ≤ y → fx_J M G Λ nL tgt ls st h) (gF : ¬ (x ≤ y) → fx_J M G Λ nL (pc + 1 + 3) ls st h) : fx_J M G Λ nL pc ls ((1, y) :: (1, x) :: st) h := fx_rlcmp F d (fx_jzle F tgt ht d2 (fun q => gT ((fx_cm_le x y).mp q)) (fun q => gF (fun z => q ((fx_cm_le x y).mpr z))))
theorem fx_nlle (F : fx_F fx_X M G Λ cc own nL rm) {x y off : Int} (tgt : Nat) (ht : ((pc + 1 : Nat) : Int) + off = (tgt : Int)) (d : decode cc pc = .ok (.lcmp, 1)) (d2 : decode cc (pc + 1) = .ok (.ifCond .gt off, 3)) (gT : x ≤ y → fx_J M G Λ nL (pc + 1 + 3) ls st h) (gF : ¬ (x ≤ y) → fx_J M G Λ nL tgt ls st h) : fx_J M G Λ nL pc ls ((1, y) :: (1, x) :: st) h := fx_rlcmp F d (fx_nzle F tgt ht d2 (fun q => gT ((fx_cm_le x y).mp q)) (fun q => gF (fun z => q ((fx_cm_le x y).mpr z))))
theorem fx_jgt (F : fx_F fx_X M G Λ cc own nL rm) {x y off : Int} (tgt : Nat) (ht : (pc : Int) + off = (tgt : Int)) (d : decode cc pc = .ok (.if_icmp .gt off, 3)) (gT : y < x → fx_J M G Λ nL tgt ls st h) (gF : ¬ (y < x) → fx_J M G Λ nL (pc + 3) ls st h) : fx_J M G Λ nL pc ls ((0, y) :: (0, x) :: st) h := fx_icmp_gt F tgt ht d gT gF
theorem fx_ngt (F : fx_F fx_X M G Λ cc own nL rm) {x y off : Int} (tgt : Nat) (ht : (pc : Int) + off = (tgt : Int)) (d : decode cc pc = .ok (.if_icmp .le off, 3)) (gT : y < x → fx_J M G Λ nL (pc + 3) ls st h) (gF : ¬ (y < x) → fx_J M G Λ nL tgt ls st h) : fx_J M G Λ nL pc ls ((0, y) :: (0, x) :: st) h := fx_icmp_le F tgt ht d (fun q => gF (Int.not_lt.mpr q)) (fun q => gT (Int.not_le.mp q))
theorem fx_jzgt (F : fx_F fx_X M G Λ cc own nL rm) {x off : Int} (tgt : Nat) (ht : (pc : Int) + off = (tgt : Int)) (d : decode cc pc = .ok (.ifCond .gt off, 3)) (gT : 0 < x → fx_J M G Λ nL tgt ls st h) (gF : ¬ (0 < x) → fx_J M G Λ nL (pc + 3) ls st h) : fx_J M G Λ nL pc ls ((0, x) :: st) h := fx_if_gt F tgt ht d gT gF
theorem fx_nzgt (F : fx_F fx_X M G Λ cc own nL rm) {x off : Int} (tgt : Nat) (ht : (pc : Int) + off = (tgt : Int)) (d : decode cc pc = .ok (.ifCond .le off, 3)) (gT : 0 < x → fx_J M G Λ nL (pc + 3) ls st h) (gF : ¬ (0 < x) → fx_J M G Λ nL tgt ls st h) : fx_J M G Λ nL pc ls ((0, x) :: st) h := fx_if_le F tgt ht d (fun q => gF (Int.not_lt.mpr q)) (fun q => gT (Int.not_le.mp q))
theorem fx_cm_gt (x y : Int) : (0 < fx_cmp x y) ↔ (y < x) := by
  unfold fx_cmp
  by_cases h1 : y < x
  · simp only [if_pos h1]; omega
  · by_cases h2 : x = y
    · simp only [if_neg h1, if_pos h2]; first | omega | simp [h2]
    · simp only [if_neg h1, if_neg h2]; omega
theorem fx_jlgt (F : fx_F fx_X M G Λ cc own nL rm) {x y off : Int} (tgt : Nat) (ht : ((pc + 1 : Nat) : Int) + off = (tgt : Int)) (d : decode cc pc = .ok (.lcmp, 1)) (d2 : decode cc (pc + 1) = .ok (.ifCond .gt off, 3)) (gT : y < x → fx_J M G Λ nL tgt ls st h) (gF : ¬ (y < x) → fx_J M G Λ nL (pc + 1 + 3) ls st h) : fx_J M G Λ nL pc ls ((1, y) :: (1, x) :: st) h := fx_rlcmp F d (fx_jzgt F tgt ht d2 (fun q => gT ((fx_cm_gt x y).mp q)) (fun q => gF (fun z => q ((fx_cm_gt x y).mpr z))))
theorem fx_nlgt (F : fx_F fx_X M G Λ cc own nL rm) {x y off : Int} (tgt : Nat) (ht : ((pc + 1 : Nat) : Int) + off = (tgt : Int)) (d : decode cc pc = .ok (.lcmp, 1)) (d2 : decode cc (pc + 1) = .ok (.ifCond .le off, 3)) (gT : y < x → fx_J M G Λ nL (pc + 1 + 3) ls st h) (gF : ¬ (y < x) → fx_J M G Λ nL tgt ls st h) : fx_J M G Λ nL pc ls ((1, y) :: (1, x) :: st) h := fx_rlcmp F d (fx_nzgt F tgt ht d2 (fun q => gT ((fx_cm_gt x y).mp q)) (fun q => gF (fun z => q ((fx_cm_gt x y).mpr z))))
theorem fx_jge (F : fx_F fx_X M G Λ cc own nL rm) {x y off : Int} (tgt : Nat) (ht : (pc : Int) + off = (tgt : Int)) (d : decode cc pc = .ok (.if_icmp .ge off, 3)) (gT : y ≤ x → fx_J M G Λ nL tgt ls st h) (gF : ¬ (y ≤ x) → fx_J M G Λ nL (pc + 3) ls st h) : fx_J M G Λ nL pc ls ((0, y) :: (0, x) :: st) h := fx_icmp_ge F tgt ht d gT gF
theorem fx_nge (F : fx_F fx_X M G Λ cc own nL rm) {x y off : Int} (tgt : Nat) (ht : (pc : Int) + off = (tgt : Int)) (d : decode cc pc = .ok (.if_icmp .lt off, 3)) (gT : y ≤ x → fx_J M G Λ nL (pc + 3) ls st h) (gF : ¬ (y ≤ x) → fx_J M G Λ nL tgt ls st h) : fx_J M G Λ nL pc ls ((0, y) :: (0, x) :: st) h := fx_icmp_lt F tgt ht d (fun q => gF (Int.not_le.mpr q)) (fun q => gT (Int.not_lt.mp q))
theorem fx_jzge (F : fx_F fx_X M G Λ cc own nL rm) {x off : Int} (tgt : Nat) (ht : (pc : Int) + off = (tgt : Int)) (d : decode cc pc = .ok (.ifCond .ge off, 3)) (gT : 0 ≤ x → fx_J M G Λ nL tgt ls st h) (gF : ¬ (0 ≤ x) → fx_J M G Λ nL (pc + 3) ls st h) : fx_J M G Λ nL pc ls ((0, x) :: st) h := fx_if_ge F tgt ht d gT gF
theorem fx_nzge (F : fx_F fx_X M G Λ cc own nL rm) {x off : Int} (tgt : Nat) (ht : (pc : Int) + off = (tgt : Int)) (d : decode cc pc = .ok (.ifCond .lt off, 3)) (gT : 0 ≤ x → fx_J M G Λ nL (pc + 3) ls st h) (gF : ¬ (0 ≤ x) → fx_J M G Λ nL tgt ls st h) : fx_J M G Λ nL pc ls ((0, x) :: st) h := fx_if_lt F tgt ht d (fun q => gF (Int.not_le.mpr q)) (fun q => gT (Int.not_lt.mp q))
theorem fx_cm_ge (x y : Int) : (0 ≤ fx_cmp x y) ↔ (y ≤ x) := by
  unfold fx_cmp
  by_cases h1 : y < x
  · simp only [if_pos h1]; omega
  · by_cases h2 : x = y
    · simp only [if_neg h1, if_pos h2]; first | omega | simp [h2]
    · simp only [if_neg h1, if_neg h2]; omega
theorem fx_jlge (F : fx_F fx_X M G Λ cc own nL rm) {x y off : Int} (tgt : Nat) (ht : ((pc + 1 : Nat) : Int) + off = (tgt : Int)) (d : decode cc pc = .ok (.lcmp, 1)) (d2 : decode cc (pc + 1) = .ok (.ifCond .ge off, 3)) (gT : y ≤ x → fx_J M G Λ nL tgt ls st h) (gF : ¬ (y ≤ x) → fx_J M G Λ nL (pc + 1 + 3) ls st h) : fx_J M G Λ nL pc ls ((1, y) :: (1, x) :: st) h := fx_rlcmp F d (fx_jzge F tgt ht d2 (fun q => gT ((fx_cm_ge x y).mp q)) (fun q => gF (fun z => q ((fx_cm_ge x y).mpr z))))
theorem fx_nlge (F : fx_F fx_X M G Λ cc own nL rm) {x y off : Int} (tgt : Nat) (ht : ((pc + 1 : Nat) : Int) + off = (tgt : Int)) (d : decode cc pc = .ok (.lcmp, 1)) (d2 : decode cc (pc + 1) = .ok (.ifCond .lt off, 3)) (gT : y ≤ x → fx_J M G Λ nL (pc + 1 + 3) ls st h) (gF : ¬ (y ≤ x) → fx_J M G Λ nL tgt ls st h) : fx_J M G Λ nL pc ls ((1, y) :: (1, x) :: st) h := fx_rlcmp F d (fx_nzge F tgt ht d2 (fun q => gT ((fx_cm_ge x y).mp q)) (fun q => gF (fun z => q ((fx_cm_ge x y).mpr z))))
theorem fx_jeq (F : fx_F fx_X M G Λ cc own nL rm) {x y off : Int} (tgt : Nat) (ht : (pc : Int) + off = (tgt : Int)) (d : decode cc pc = .ok (.if_icmp .eq off, 3)) (gT : x = y → fx_J M G Λ nL tgt ls st h) (gF : ¬ (x = y) → fx_J M G Λ nL (pc + 3) ls st h) : fx_J M G Λ nL pc ls ((0, y) :: (0, x) :: st) h := fx_icmp_eq F tgt ht d gT gF
theorem fx_neq (F : fx_F fx_X M G Λ cc own nL rm) {x y off : Int} (tgt : Nat) (ht : (pc : Int) + off = (tgt : Int)) (d : decode cc pc = .ok (.if_icmp .ne off, 3)) (gT : x = y → fx_J M G Λ nL (pc + 3) ls st h) (gF : ¬ (x = y) → fx_J M G Λ nL tgt ls st h) : fx_J M G Λ nL pc ls ((0, y) :: (0, x) :: st) h := fx_icmp_ne F tgt ht d gF (fun q => gT (Decidable.not_not.mp q))
theorem fx_jzeq (F : fx_F fx_X M G Λ cc own nL rm) {x off : Int} (tgt : Nat) (ht : (pc : Int) + off = (tgt : Int)) (d : decode cc pc = .ok (.ifCond .eq off, 3)) (gT : x = 0 → fx_J M G Λ nL tgt ls st h) (gF : ¬ (x = 0) → fx_J M G Λ nL (pc + 3) ls st h) : fx_J M G Λ nL pc ls ((0, x) :: st) h := fx_if_eq F tgt ht d gT gF
theorem fx_nzeq (F : fx_F fx_X M G Λ cc own nL rm) {x off : Int} (tgt : Nat) (ht : (pc : Int) + off = (tgt : Int)) (d : decode cc pc = .ok (.ifCond .ne off, 3)) (gT : x = 0 → fx_J M G Λ nL (pc + 3) ls st h) (gF : ¬ (x = 0) → fx_J M G Λ nL tgt ls st h) : fx_J M G Λ nL pc ls ((0, x) :: st) h := fx_if_ne F tgt ht d gF (fun q => gT (Decidable.not_not.mp q))
theorem fx_cm_eq (x y : Int) : (fx_cmp x y = 0) ↔ (x = y) := by
  unfold fx_cmp
  by_cases h1 : y < x
  · simp only [if_pos h1]; omega
  · by_cases h2 : x = y
    · simp only [if_neg h1, if_pos h2]; first | omega | simp [h2]
    · simp only [if_neg h1, if_neg h2]; omega
theorem fx_jleq (F : fx_F fx_X M G Λ cc own nL rm) {x y off : Int} (tgt : Nat) (ht : ((pc + 1 : Nat) : Int) + off = (tgt : Int)) (d : decode cc pc = .ok (.lcmp, 1)) (d2 : decode cc (pc + 1) = .ok (.ifCond .eq off, 3)) (gT : x = y → fx_J M G Λ nL tgt ls st h) (gF : ¬ (x = y) → fx_J M G Λ nL (pc + 1 + 3) ls st h) : fx_J M G Λ nL pc ls ((1, y) :: (1, x) :: st) h := fx_rlcmp F d (fx_jzeq F tgt ht d2 (fun q => gT ((fx_cm_eq x y).mp q)) (fun q => gF (fun z => q ((fx_cm_eq x y).mpr z))))
theorem fx_nleq (F : fx_F fx_X M G Λ cc own nL rm) {x y off : Int} (tgt : Nat) (ht : ((pc + 1 : Nat) : Int) + off = (tgt : Int)) (d : decode cc pc = .ok (.lcmp, 1)) (d2 : decode cc (pc + 1) = .ok (.ifCond .ne off, 3)) (gT : x = y → fx_J M G Λ nL (pc + 1 + 3) ls st h) (gF : ¬ (x = y) → fx_J M G Λ nL tgt ls st h) : fx_J M G Λ nL pc ls ((1, y) :: (1, x) :: st) h := fx_rlcmp F d (fx_nzeq F tgt ht d2 (fun q => gT ((fx_cm_eq x y).mp q)) (fun q => gF (fun z => q ((fx_cm_eq x y).mpr z))))
theorem fx_jne (F : fx_F fx_X M G Λ cc own nL rm) {x y off : Int} (tgt : Nat) (ht : (pc : Int) + off = (tgt : Int)) (d : decode cc pc = .ok (.if_icmp .ne off, 3)) (gT : ¬ x = y → fx_J M G Λ nL tgt ls st h) (gF : ¬ (¬ x = y) → fx_J M G Λ nL (pc + 3) ls st h) : fx_J M G Λ nL pc ls ((0, y) :: (0, x) :: st) h := fx_icmp_ne F tgt ht d gT (fun q => gF (fun z => q z))
theorem fx_nne (F : fx_F fx_X M G Λ cc own nL rm) {x y off : Int} (tgt : Nat) (ht : (pc : Int) + off = (tgt : Int)) (d : decode cc pc = .ok (.if_icmp .eq off, 3)) (gT : ¬ x = y → fx_J M G Λ nL (pc + 3) ls st h) (gF : ¬ (¬ x = y) → fx_J M G Λ nL tgt ls st h) : fx_J M G Λ nL pc ls ((0, y) :: (0, x) :: st) h := fx_icmp_eq F tgt ht d (fun q => gF (fun z => z q)) gT
theorem fx_jzne (F : fx_F fx_X M G Λ cc own nL rm) {x off : Int} (tgt : Nat) (ht : (pc : Int) + off = (tgt : Int)) (d : decode cc pc = .ok (.ifCond .ne off, 3)) (gT : ¬ x = 0 → fx_J M G Λ nL tgt ls st h) (gF : ¬ (¬ x = 0) → fx_J M G Λ nL (pc + 3) ls st h) : fx_J M G Λ nL pc ls ((0, x) :: st) h := fx_if_ne F tgt ht d gT (fun q => gF (fun z => q z))
theorem fx_nzne (F : fx_F fx_X M G Λ cc own nL rm) {x off : Int} (tgt : Nat) (ht : (pc : Int) + off = (tgt : Int)) (d : decode cc pc = .ok (.ifCond .eq off, 3)) (gT : ¬ x = 0 → fx_J M G Λ nL (pc + 3) ls st h) (gF : ¬ (¬ x = 0) → fx_J M G Λ nL tgt ls st h) : fx_J M G Λ nL pc ls ((0, x) :: st) h := fx_if_eq F tgt ht d (fun q => gF (fun z => z q)) gT
theorem fx_cm_ne (x y : Int) : (¬ fx_cmp x y = 0) ↔ (¬ x = y) := by
  unfold fx_cmp
  by_cases h1 : y < x
  · simp only [if_pos h1]; omega
  · by_cases h2 : x = y
    · simp only [if_neg h1, if_pos h2]; first | omega | simp [h2]
    · simp only [if_neg h1, if_neg h2]; omega
theorem fx_jlne (F : fx_F fx_X M G Λ cc own nL rm) {x y off : Int} (tgt : Nat) (ht : ((pc + 1 : Nat) : Int) + off = (tgt : Int)) (d : decode cc pc = .ok (.lcmp, 1)) (d2 : decode cc (pc + 1) = .ok (.ifCond .ne off, 3)) (gT : ¬ x = y → fx_J M G Λ nL tgt ls st h) (gF : ¬ (¬ x = y) → fx_J M G Λ nL (pc + 1 + 3) ls st h) : fx_J M G Λ nL pc ls ((1, y) :: (1, x) :: st) h := fx_rlcmp F d (fx_jzne F tgt ht d2 (fun q => gT ((fx_cm_ne x y).mp q)) (fun q => gF (fun z => q ((fx_cm_ne x y).mpr z))))
theorem fx_nlne (F : fx_F fx_X M G Λ cc own nL rm) {x y off : Int} (tgt : Nat) (ht : ((pc + 1 : Nat) : Int) + off = (tgt : Int)) (d : decode cc pc = .ok (.lcmp, 1)) (d2 : decode cc (pc + 1) = .ok (.ifCond .eq off, 3)) (gT : ¬ x = y → fx_J M G Λ nL (pc + 1 + 3) ls st h) (gF : ¬ (¬ x = y) → fx_J M G Λ nL tgt ls st h) : fx_J M G Λ nL pc ls ((1, y) :: (1, x) :: st) h := fx_rlcmp F d (fx_nzne F tgt ht d2 (fun q => gT ((fx_cm_ne x y).mp q)) (fun q => gF (fun z => q ((fx_cm_ne x y).mpr z))))
end FXD
/-! ===== fx: the words of pure programs ===== -/
def fx_rd (Λ : fx_L) (h : fx_H) (a i : Int) : Option Int := if 0 ≤ i ∧ i < fx_ln Λ a then some (h a i) else none
def fx_wr (Λ : fx_L) (h : fx_H) (a i v : Int) : Option fx_H := if 0 ≤ i ∧ i < fx_ln Λ a then some (fx_up h a i v) else none
def fx_rr (Λ : fx_L) (a i : Int) : Option Int := if 0 ≤ i ∧ i < fx_ln Λ a then some (fx_tg Λ a i) else none
def fx_rt (t : Nat) (i : Int) : Option Int := if 0 ≤ i ∧ i < 6 then some (fx_tab t i.toNat) else none
def fx_dv (x y : Int) : Option Int := if y = 0 then none else some (fx_w (x.tdiv y))
def fx_rm (x y : Int) : Option Int := if y = 0 then none else some (fx_w (x.tmod y))
def fx_dvl (x y : Int) : Option Int := if y = 0 then none else some (fx_wl (x.tdiv y))
def fx_rml (x y : Int) : Option Int := if y = 0 then none else some (fx_wl (x.tmod y))
def fx_cp (Λ : fx_L) (h : fx_H) (a0 sp a dp n : Int) : Option fx_H := if 0 ≤ sp ∧ 0 ≤ dp ∧ 0 ≤ n ∧ sp + n ≤ fx_ln Λ a0 ∧ dp + n ≤ fx_ln Λ a then some (fx_cpy h a0 sp a dp n) else none
def fx_loop {S E : Type} (step : S → Option (S ⊕ E)) : Nat → S → Option E
  | 0, _ => none
  | n + 1, s => match step s with
    | none => none
    | some (.inl s') => fx_loop step n s'
    | some (.inr e) => some e
theorem fx_bnd {α β : Type} {x : Option α} {f : α → Option β} {b : β} (h : x.bind f = some b) : ∃ a, x = some a ∧ f a = some b := by
  cases x with
  | none => cases h
  | some a => exact ⟨a, rfl, h⟩
theorem fx_loop_J {S E : Type} {step : S → Option (S ⊕ E)} {Hd : S → Prop} {Ex : E → Prop} (hstep : ∀ s o, step s = some o → (∀ s', o = .inl s' → Hd s') → (∀ x, o = .inr x → Ex x) → Hd s) : ∀ (n : Nat) (s : S) (e : E), fx_loop step n s = some e → Ex e → Hd s
  | 0, s, e, h, _ => by cases h
  | n + 1, s, e, h, he => by
    unfold fx_loop at h
    cases hs : step s with
    | none => rw [hs] at h; cases h
    | some o =>
      rw [hs] at h
      cases o with
      | inl s' => exact hstep s _ hs (fun s'' q => by cases q; exact fx_loop_J hstep n s' e h he) (fun x q => by cases q)
      | inr x => exact hstep s _ hs (fun s'' q => by cases q) (fun x' q => by cases q; cases h; exact he)
section FXE
variable {X : (Nat → Nat) → (Nat → Prop) → State → Prop} {M : fx_M} {G : fx_G} {Λ : fx_L} {cc : ByteArray} {own : String} {nL pc : Nat} {rm : Room} {ls : List (Option fx_V)} {st : List fx_V} {h : fx_H}
theorem fx_in_of {Λ : fx_L} {a i : Int} {α : Type} {x y : α} (hv : (if 0 ≤ i ∧ i < fx_ln Λ a then some x else none) = some y) : (0 ≤ i ∧ i < fx_ln Λ a) ∧ x = y := by
  split at hv
  · rename_i h; exact ⟨h, Option.some.inj hv⟩
  · cases hv
theorem fx_raldI (F : fx_F X M G Λ cc own nL rm) {a i v : Int} (hv : fx_rd Λ h a i = some v) (d : decode cc pc = .ok (.iaload, 1)) (g : fx_J M G Λ nL (pc + 1) ls ((0, v) :: st) h) : fx_J M G Λ nL pc ls ((0, i) :: (10, a) :: st) h := by
  obtain ⟨hq, rfl⟩ := fx_in_of hv
  exact fx_aldI F hq.1 hq.2 d g
theorem fx_raldB (F : fx_F X M G Λ cc own nL rm) {a i v : Int} (hv : fx_rd Λ h a i = some v) (d : decode cc pc = .ok (.baload, 1)) (g : fx_J M G Λ nL (pc + 1) ls ((0, v) :: st) h) : fx_J M G Λ nL pc ls ((0, i) :: (9, a) :: st) h := by
  obtain ⟨hq, rfl⟩ := fx_in_of hv
  exact fx_aldB F hq.1 hq.2 d g
theorem fx_raldZ (F : fx_F X M G Λ cc own nL rm) {a i v : Int} (hv : fx_rd Λ h a i = some v) (d : decode cc pc = .ok (.baload, 1)) (g : fx_J M G Λ nL (pc + 1) ls ((0, v) :: st) h) : fx_J M G Λ nL pc ls ((0, i) :: (11, a) :: st) h := by
  obtain ⟨hq, rfl⟩ := fx_in_of hv
  exact fx_aldZ F hq.1 hq.2 d g
theorem fx_rastI (F : fx_F X M G Λ cc own nL rm) {a i x : Int} {h' : fx_H} (hv : fx_wr Λ h a i x = some h') (d : decode cc pc = .ok (.iastore, 1)) (g : fx_J M G Λ nL (pc + 1) ls st h') : fx_J M G Λ nL pc ls ((0, x) :: (0, i) :: (10, a) :: st) h := by
  obtain ⟨hq, rfl⟩ := fx_in_of hv
  exact fx_astI F hq.1 hq.2 d g
theorem fx_rastB (F : fx_F X M G Λ cc own nL rm) {a i x : Int} {h' : fx_H} (hv : fx_wr Λ h a i (fx_b x) = some h') (d : decode cc pc = .ok (.bastore, 1)) (g : fx_J M G Λ nL (pc + 1) ls st h') : fx_J M G Λ nL pc ls ((0, x) :: (0, i) :: (9, a) :: st) h := by
  obtain ⟨hq, rfl⟩ := fx_in_of hv
  exact fx_astB F hq.1 hq.2 d g
theorem fx_rastZ (F : fx_F X M G Λ cc own nL rm) {a i x : Int} {h' : fx_H} (hv : fx_wr Λ h a i x = some h') (hbz : x = 0 ∨ x = 1) (d : decode cc pc = .ok (.bastore, 1)) (g : fx_J M G Λ nL (pc + 1) ls st h') : fx_J M G Λ nL pc ls ((0, x) :: (0, i) :: (11, a) :: st) h := by
  obtain ⟨hq, rfl⟩ := fx_in_of hv
  exact fx_astZ F hq.1 hq.2 hbz d g
theorem fx_raldT (F : fx_F X M G Λ cc own nL rm) {a i v : Int} (hv : fx_rr Λ a i = some v) (d : decode cc pc = .ok (.aaload, 1)) (g : fx_J M G Λ nL (pc + 1) ls ((6, v) :: st) h) : fx_J M G Λ nL pc ls ((0, i) :: (12, a) :: st) h := by
  obtain ⟨hq, rfl⟩ := fx_in_of hv
  exact fx_aldT F hq.1 hq.2 d g
theorem fx_raldG (F : fx_F X M G Λ cc own nL rm) {a i v : Int} (hv : fx_rr Λ a i = some v) (d : decode cc pc = .ok (.aaload, 1)) (g : fx_J M G Λ nL (pc + 1) ls ((10, v) :: st) h) : fx_J M G Λ nL pc ls ((0, i) :: (13, a) :: st) h := by
  obtain ⟨hq, rfl⟩ := fx_in_of hv
  exact fx_aldG F hq.1 hq.2 d g
theorem fx_rtald (F : fx_F fx_X M G Λ cc own nL rm) {i v : Int} (t : Nat) (ht : t = 0 ∨ t = 1) (hv : fx_rt t i = some v) (d : decode cc pc = .ok (.iaload, 1)) (g : fx_J M G Λ nL (pc + 1) ls ((0, v) :: st) h) : fx_J M G Λ nL pc ls ((0, i) :: (20, (t : Int)) :: st) h := by
  unfold fx_rt at hv
  split at hv
  · rename_i hq
    cases hv
    exact fx_tald F t ht hq.1 hq.2 d g
  · cases hv
theorem fx_racopy (F : fx_F fx_X M G Λ cc own nL rm) {a0 a sp dp n : Int} {h' : fx_H} {index : Nat} (hv : fx_cp Λ h a0 sp a dp n = some h') (lk : Cond.methodLink own index arraycopyName ∈ fx_WS) (hk1 : Cond.native arraycopyName ∈ fx_WS) (hk2 : Cond.static arraycopyName ∈ fx_WS) (hk3 : Cond.initialized "java/lang/System" ∈ fx_WS) (hf1 : 1 ≤ rm.frames) (hf2 : fx_c8 st + 18 ≤ rm.locals) (d : decode cc pc = .ok (.invokestatic index, 3)) (g : fx_J M G Λ nL (pc + 3) ls st h') : fx_J M G Λ nL pc ls ((0, n) :: (0, dp) :: (10, a) :: (0, sp) :: (10, a0) :: st) h := by
  unfold fx_cp at hv
  split at hv
  · rename_i hq
    cases hv
    exact fx_acopy F lk hk1 hk2 hk3 hf1 hf2 hq.1 hq.2.1 hq.2.2.1 hq.2.2.2.1 hq.2.2.2.2 d g
  · cases hv
theorem fx_ridiv (F : fx_F X M G Λ cc own nL rm) {x y v : Int} (hv : fx_dv x y = some v) (d : decode cc pc = .ok (.idiv, 1)) (g : fx_J M G Λ nL (pc + 1) ls ((0, v) :: st) h) : fx_J M G Λ nL pc ls ((0, y) :: (0, x) :: st) h := by
  unfold fx_dv at hv
  split at hv
  · cases hv
  · rename_i hq
    cases hv
    exact fx_idiv F hq d g
theorem fx_rirem (F : fx_F X M G Λ cc own nL rm) {x y v : Int} (hv : fx_rm x y = some v) (d : decode cc pc = .ok (.irem, 1)) (g : fx_J M G Λ nL (pc + 1) ls ((0, v) :: st) h) : fx_J M G Λ nL pc ls ((0, y) :: (0, x) :: st) h := by
  unfold fx_rm at hv
  split at hv
  · cases hv
  · rename_i hq
    cases hv
    exact fx_irem F hq d g
theorem fx_rldiv (F : fx_F X M G Λ cc own nL rm) {x y v : Int} (hv : fx_dvl x y = some v) (d : decode cc pc = .ok (.ldiv, 1)) (g : fx_J M G Λ nL (pc + 1) ls ((1, v) :: st) h) : fx_J M G Λ nL pc ls ((1, y) :: (1, x) :: st) h := by
  unfold fx_dvl at hv
  split at hv
  · cases hv
  · rename_i hq
    cases hv
    exact fx_ldiv F hq d g
theorem fx_rlrem (F : fx_F X M G Λ cc own nL rm) {x y v : Int} (hv : fx_rml x y = some v) (d : decode cc pc = .ok (.lrem, 1)) (g : fx_J M G Λ nL (pc + 1) ls ((1, v) :: st) h) : fx_J M G Λ nL pc ls ((1, y) :: (1, x) :: st) h := by
  unfold fx_rml at hv
  split at hv
  · cases hv
  · rename_i hq
    cases hv
    exact fx_lrem F hq d g
end FXE
end
section
theorem fx_in1 {w : Cond} (h : w ∈ tables_1_1) (hg : goodWord w = true) : w ∈ fx_WS := List.mem_filter.mpr ⟨List.mem_append_right _ (show w ∈ tables_1_1 ++ (tables_1_2 ++ (tables_1_3 ++ (tables_1_4 ++ (tables_1_5 ++ tables_1_6)))) from List.mem_append_left _ h), hg⟩
theorem fx_in2 {w : Cond} (h : w ∈ tables_1_2) (hg : goodWord w = true) : w ∈ fx_WS := List.mem_filter.mpr ⟨List.mem_append_right _ (show w ∈ tables_1_1 ++ (tables_1_2 ++ (tables_1_3 ++ (tables_1_4 ++ (tables_1_5 ++ tables_1_6)))) from List.mem_append_right _ (List.mem_append_left _ h)), hg⟩
theorem fx_in3 {w : Cond} (h : w ∈ tables_1_3) (hg : goodWord w = true) : w ∈ fx_WS := List.mem_filter.mpr ⟨List.mem_append_right _ (show w ∈ tables_1_1 ++ (tables_1_2 ++ (tables_1_3 ++ (tables_1_4 ++ (tables_1_5 ++ tables_1_6)))) from List.mem_append_right _ (List.mem_append_right _ (List.mem_append_left _ h))), hg⟩
theorem fx_in4 {w : Cond} (h : w ∈ tables_1_4) (hg : goodWord w = true) : w ∈ fx_WS := List.mem_filter.mpr ⟨List.mem_append_right _ (show w ∈ tables_1_1 ++ (tables_1_2 ++ (tables_1_3 ++ (tables_1_4 ++ (tables_1_5 ++ tables_1_6)))) from List.mem_append_right _ (List.mem_append_right _ (List.mem_append_right _ (List.mem_append_left _ h)))), hg⟩
theorem fx_in5 {w : Cond} (h : w ∈ tables_1_5) (hg : goodWord w = true) : w ∈ fx_WS := List.mem_filter.mpr ⟨List.mem_append_right _ (show w ∈ tables_1_1 ++ (tables_1_2 ++ (tables_1_3 ++ (tables_1_4 ++ (tables_1_5 ++ tables_1_6)))) from List.mem_append_right _ (List.mem_append_right _ (List.mem_append_right _ (List.mem_append_right _ (List.mem_append_left _ h))))), hg⟩
theorem fx_in6 {w : Cond} (h : w ∈ tables_1_6) (hg : goodWord w = true) : w ∈ fx_WS := List.mem_filter.mpr ⟨List.mem_append_right _ (show w ∈ tables_1_1 ++ (tables_1_2 ++ (tables_1_3 ++ (tables_1_4 ++ (tables_1_5 ++ tables_1_6)))) from List.mem_append_right _ (List.mem_append_right _ (List.mem_append_right _ (List.mem_append_right _ (List.mem_append_right _ (h)))))), hg⟩
theorem fx_in0 {w : Cond} (h : w ∈ k2_sels lw_privs) (hg : goodWord w = true) : w ∈ fx_WS := List.mem_filter.mpr ⟨List.mem_append_left _ h, hg⟩
theorem wI_L : Cond.initialized RL ∈ fx_WS := fx_in1 (List.mem_of_getElem? (i := 0) (by rfl)) (by rfl)
theorem wI_X5 : Cond.initialized RX5 ∈ fx_WS := fx_in1 (List.mem_of_getElem? (i := 1) (by rfl)) (by rfl)
theorem wI_X4 : Cond.initialized RX4 ∈ fx_WS := fx_in1 (List.mem_of_getElem? (i := 2) (by rfl)) (by rfl)
theorem wI_J7 : Cond.initialized RJ7 ∈ fx_WS := fx_in1 (List.mem_of_getElem? (i := 3) (by rfl)) (by rfl)
theorem wI_X3 : Cond.initialized RX3 ∈ fx_WS := fx_in1 (List.mem_of_getElem? (i := 4) (by rfl)) (by rfl)
theorem wI_X0 : Cond.initialized RX0 ∈ fx_WS := fx_in1 (List.mem_of_getElem? (i := 5) (by rfl)) (by rfl)
theorem wI_X1 : Cond.initialized RX1 ∈ fx_WS := fx_in1 (List.mem_of_getElem? (i := 6) (by rfl)) (by rfl)
theorem wI_X2 : Cond.initialized RX2 ∈ fx_WS := fx_in1 (List.mem_of_getElem? (i := 7) (by rfl)) (by rfl)
theorem wI_X6 : Cond.initialized RX6 ∈ fx_WS := fx_in1 (List.mem_of_getElem? (i := 8) (by rfl)) (by rfl)
theorem wI_J10 : Cond.initialized "java/lang/System" ∈ fx_WS := fx_in1 (List.mem_of_getElem? (i := 9) (by rfl)) (by rfl)
theorem wI_J9 : Cond.initialized "java/lang/Math" ∈ fx_WS := fx_in1 (List.mem_of_getElem? (i := 10) (by rfl)) (by rfl)
theorem wI_J0 : Cond.initialized RJ0 ∈ fx_WS := fx_in1 (List.mem_of_getElem? (i := 11) (by rfl)) (by rfl)
theorem wI_J1 : Cond.initialized RJ1 ∈ fx_WS := fx_in1 (List.mem_of_getElem? (i := 12) (by rfl)) (by rfl)
theorem wI_J3 : Cond.initialized RJ3 ∈ fx_WS := fx_in1 (List.mem_of_getElem? (i := 13) (by rfl)) (by rfl)
theorem wI_J2 : Cond.initialized RJ2 ∈ fx_WS := fx_in1 (List.mem_of_getElem? (i := 14) (by rfl)) (by rfl)
theorem wC_L_7 : Cond.classLink RL 7 RX5 ∈ fx_WS := fx_in1 (List.mem_of_getElem? (i := 15) (by rfl)) (by rfl)
theorem wNew_X5 : Cond.instantiable RX5 14 ∈ fx_WS := fx_in1 (List.mem_of_getElem? (i := 16) (by rfl)) (by rfl)
theorem wM_L_9 : Cond.methodLink RL 9 yX5_init ∈ fx_WS := fx_in1 (List.mem_of_getElem? (i := 17) (by rfl)) (by rfl)
theorem wIn_X5_init : Cond.instanceMethod yX5_init ∈ fx_WS := fx_in1 (List.mem_of_getElem? (i := 18) (by rfl)) (by rfl)
theorem wCo_X5_init : Cond.code yX5_init cX5_init 2 none ∈ fx_WS := fx_in1 (List.mem_of_getElem? (i := 19) (by rfl)) (by rfl)
theorem wM_X5_1 : Cond.methodLink RX5 1 objectInit ∈ fx_WS := fx_in1 (List.mem_of_getElem? (i := 20) (by rfl)) (by rfl)
theorem wIn_objectInit : Cond.instanceMethod objectInit ∈ fx_WS := fx_in1 (List.mem_of_getElem? (i := 21) (by rfl)) (by rfl)
theorem wCo_objectInit : Cond.code objectInit ⟨#[0xb1]⟩ 1 none ∈ fx_WS := fx_in1 (List.mem_of_getElem? (i := 22) (by rfl)) (by rfl)
theorem wC_X5_7 : Cond.classLink RX5 7 RX4 ∈ fx_WS := fx_in1 (List.mem_of_getElem? (i := 23) (by rfl)) (by rfl)
theorem wNew_X4 : Cond.instantiable RX4 14 ∈ fx_WS := fx_in1 (List.mem_of_getElem? (i := 24) (by rfl)) (by rfl)
theorem wM_X5_9 : Cond.methodLink RX5 9 yX4_init ∈ fx_WS := fx_in1 (List.mem_of_getElem? (i := 25) (by rfl)) (by rfl)
theorem wIn_X4_init : Cond.instanceMethod yX4_init ∈ fx_WS := fx_in1 (List.mem_of_getElem? (i := 26) (by rfl)) (by rfl)
theorem wCo_X4_init : Cond.code yX4_init cX4_init 1 none ∈ fx_WS := fx_in1 (List.mem_of_getElem? (i := 27) (by rfl)) (by rfl)
theorem wM_X4_3 : Cond.methodLink RX4 3 objectInit ∈ fx_WS := fx_in1 (List.mem_of_getElem? (i := 28) (by rfl)) (by rfl)
theorem wC_X4_18 : Cond.classLink RX4 18 "[[I" ∈ fx_WS := fx_in1 (List.mem_of_getElem? (i := 29) (by rfl)) (by rfl)
theorem wM_X4_38 : Cond.methodLink RX4 38 yX4_begin ∈ fx_WS := fx_in1 (List.mem_of_getElem? (i := 31) (by rfl)) (by rfl)
theorem wIn_X4_begin : Cond.instanceMethod yX4_begin ∈ fx_WS := fx_in1 (List.mem_of_getElem? (i := 32) (by rfl)) (by rfl)
theorem wSel_X4_begin : Cond.selects yX4_begin.cls yX4_begin yX4_begin ∈ fx_WS := fx_in1 (List.mem_of_getElem? (i := 33) (by rfl)) (by rfl)
theorem wCo_X4_begin : Cond.code yX4_begin cX4_begin 1 none ∈ fx_WS := fx_in1 (List.mem_of_getElem? (i := 34) (by rfl)) (by rfl)
theorem wM_X4_48 : Cond.methodLink RX4 48 yX4_settle ∈ fx_WS := fx_in1 (List.mem_of_getElem? (i := 35) (by rfl)) (by rfl)
theorem wIn_X4_settle : Cond.instanceMethod yX4_settle ∈ fx_WS := fx_in1 (List.mem_of_getElem? (i := 36) (by rfl)) (by rfl)
theorem wSel_X4_settle : Cond.selects yX4_settle.cls yX4_settle yX4_settle ∈ fx_WS := fx_in1 (List.mem_of_getElem? (i := 37) (by rfl)) (by rfl)
theorem wCo_X4_settle : Cond.code yX4_settle cX4_settle 4 none ∈ fx_WS := fx_in1 (List.mem_of_getElem? (i := 38) (by rfl)) (by rfl)
theorem wM_X4_64 : Cond.methodLink RX4 64 yJ7_fill_53178 ∈ fx_WS := fx_in1 (List.mem_of_getElem? (i := 39) (by rfl)) (by rfl)
theorem wSt_J7_fill_53178 : Cond.static yJ7_fill_53178 ∈ fx_WS := fx_in1 (List.mem_of_getElem? (i := 40) (by rfl)) (by rfl)
theorem wCo_J7_fill_53178 : Cond.code yJ7_fill_53178 cJ7_fill_53178 4 none ∈ fx_WS := fx_in1 (List.mem_of_getElem? (i := 41) (by rfl)) (by rfl)
theorem wF_X4_41 : Cond.fieldLink RX4 41 (TX4 0).1 (TX4 0).2.1 (TX4 0).2.2.1 ∈ fx_WS := fx_in1 (List.mem_of_getElem? (i := 42) (by rfl)) (by rfl)
theorem wF_X5_67 : Cond.fieldLink RX5 67 (TX4 0).1 (TX4 0).2.1 (TX4 0).2.2.1 ∈ fx_WS := fx_in1 (List.mem_of_getElem? (i := 43) (by rfl)) (by rfl)
theorem wF_X0_41 : Cond.fieldLink RX0 41 (TX4 0).1 (TX4 0).2.1 (TX4 0).2.2.1 ∈ fx_WS := fx_in1 (List.mem_of_getElem? (i := 44) (by rfl)) (by rfl)
theorem wF_X2_38 : Cond.fieldLink RX2 38 (TX4 0).1 (TX4 0).2.1 (TX4 0).2.2.1 ∈ fx_WS := fx_in1 (List.mem_of_getElem? (i := 45) (by rfl)) (by rfl)
theorem wF_X3_91 : Cond.fieldLink RX3 91 (TX4 0).1 (TX4 0).2.1 (TX4 0).2.2.1 ∈ fx_WS := fx_in1 (List.mem_of_getElem? (i := 46) (by rfl)) (by rfl)
theorem wF_X1_141 : Cond.fieldLink RX1 141 (TX4 0).1 (TX4 0).2.1 (TX4 0).2.2.1 ∈ fx_WS := fx_in1 (List.mem_of_getElem? (i := 47) (by rfl)) (by rfl)
theorem wF_X4_45 : Cond.fieldLink RX4 45 (TX4 1).1 (TX4 1).2.1 (TX4 1).2.2.1 ∈ fx_WS := fx_in1 (List.mem_of_getElem? (i := 48) (by rfl)) (by rfl)
theorem wF_X3_125 : Cond.fieldLink RX3 125 (TX4 1).1 (TX4 1).2.1 (TX4 1).2.2.1 ∈ fx_WS := fx_in1 (List.mem_of_getElem? (i := 49) (by rfl)) (by rfl)
theorem wF_X5_147 : Cond.fieldLink RX5 147 (TX4 1).1 (TX4 1).2.1 (TX4 1).2.2.1 ∈ fx_WS := fx_in1 (List.mem_of_getElem? (i := 50) (by rfl)) (by rfl)
theorem wF_X0_30 : Cond.fieldLink RX0 30 (TX4 2).1 (TX4 2).2.1 (TX4 2).2.2.1 ∈ fx_WS := fx_in1 (List.mem_of_getElem? (i := 51) (by rfl)) (by rfl)
theorem wF_X2_47 : Cond.fieldLink RX2 47 (TX4 2).1 (TX4 2).2.1 (TX4 2).2.2.1 ∈ fx_WS := fx_in1 (List.mem_of_getElem? (i := 52) (by rfl)) (by rfl)
theorem wF_X4_52 : Cond.fieldLink RX4 52 (TX4 2).1 (TX4 2).2.1 (TX4 2).2.2.1 ∈ fx_WS := fx_in1 (List.mem_of_getElem? (i := 53) (by rfl)) (by rfl)
theorem wF_X1_86 : Cond.fieldLink RX1 86 (TX4 2).1 (TX4 2).2.1 (TX4 2).2.2.1 ∈ fx_WS := fx_in1 (List.mem_of_getElem? (i := 54) (by rfl)) (by rfl)
theorem wF_X3_114 : Cond.fieldLink RX3 114 (TX4 2).1 (TX4 2).2.1 (TX4 2).2.2.1 ∈ fx_WS := fx_in1 (List.mem_of_getElem? (i := 55) (by rfl)) (by rfl)
theorem wF_X5_202 : Cond.fieldLink RX5 202 (TX4 2).1 (TX4 2).2.1 (TX4 2).2.2.1 ∈ fx_WS := fx_in1 (List.mem_of_getElem? (i := 56) (by rfl)) (by rfl)
theorem wF_X1_52 : Cond.fieldLink RX1 52 (TX4 3).1 (TX4 3).2.1 (TX4 3).2.2.1 ∈ fx_WS := fx_in1 (List.mem_of_getElem? (i := 57) (by rfl)) (by rfl)
theorem wF_X4_55 : Cond.fieldLink RX4 55 (TX4 3).1 (TX4 3).2.1 (TX4 3).2.2.1 ∈ fx_WS := fx_in1 (List.mem_of_getElem? (i := 58) (by rfl)) (by rfl)
theorem wF_X0_72 : Cond.fieldLink RX0 72 (TX4 3).1 (TX4 3).2.1 (TX4 3).2.2.1 ∈ fx_WS := fx_in1 (List.mem_of_getElem? (i := 59) (by rfl)) (by rfl)
theorem wF_X3_116 : Cond.fieldLink RX3 116 (TX4 3).1 (TX4 3).2.1 (TX4 3).2.2.1 ∈ fx_WS := fx_in1 (List.mem_of_getElem? (i := 60) (by rfl)) (by rfl)
theorem wF_X5_191 : Cond.fieldLink RX5 191 (TX4 3).1 (TX4 3).2.1 (TX4 3).2.2.1 ∈ fx_WS := fx_in1 (List.mem_of_getElem? (i := 61) (by rfl)) (by rfl)
theorem wF_X0_37 : Cond.fieldLink RX0 37 (TX4 4).1 (TX4 4).2.1 (TX4 4).2.2.1 ∈ fx_WS := fx_in1 (List.mem_of_getElem? (i := 62) (by rfl)) (by rfl)
theorem wF_X4_58 : Cond.fieldLink RX4 58 (TX4 4).1 (TX4 4).2.1 (TX4 4).2.2.1 ∈ fx_WS := fx_in1 (List.mem_of_getElem? (i := 63) (by rfl)) (by rfl)
theorem wF_X3_127 : Cond.fieldLink RX3 127 (TX4 4).1 (TX4 4).2.1 (TX4 4).2.2.1 ∈ fx_WS := fx_in1 (List.mem_of_getElem? (i := 64) (by rfl)) (by rfl)
theorem wF_X5_260 : Cond.fieldLink RX5 260 (TX4 4).1 (TX4 4).2.1 (TX4 4).2.2.1 ∈ fx_WS := fx_in1 (List.mem_of_getElem? (i := 65) (by rfl)) (by rfl)
theorem wF_X4_61 : Cond.fieldLink RX4 61 (TX4 5).1 (TX4 5).2.1 (TX4 5).2.2.1 ∈ fx_WS := fx_in1 (List.mem_of_getElem? (i := 66) (by rfl)) (by rfl)
theorem wF_X5_117 : Cond.fieldLink RX5 117 (TX4 5).1 (TX4 5).2.1 (TX4 5).2.2.1 ∈ fx_WS := fx_in1 (List.mem_of_getElem? (i := 67) (by rfl)) (by rfl)
theorem wF_X4_9 : Cond.fieldLink RX4 9 (TX4 6).1 (TX4 6).2.1 (TX4 6).2.2.1 ∈ fx_WS := fx_in1 (List.mem_of_getElem? (i := 68) (by rfl)) (by rfl)
theorem wF_X0_44 : Cond.fieldLink RX0 44 (TX4 6).1 (TX4 6).2.1 (TX4 6).2.2.1 ∈ fx_WS := fx_in1 (List.mem_of_getElem? (i := 69) (by rfl)) (by rfl)
theorem wF_X5_257 : Cond.fieldLink RX5 257 (TX4 6).1 (TX4 6).2.1 (TX4 6).2.2.1 ∈ fx_WS := fx_in1 (List.mem_of_getElem? (i := 70) (by rfl)) (by rfl)
theorem wF_X4_15 : Cond.fieldLink RX4 15 (TX4 7).1 (TX4 7).2.1 (TX4 7).2.2.1 ∈ fx_WS := fx_in1 (List.mem_of_getElem? (i := 71) (by rfl)) (by rfl)
theorem wF_X3_121 : Cond.fieldLink RX3 121 (TX4 7).1 (TX4 7).2.1 (TX4 7).2.2.1 ∈ fx_WS := fx_in1 (List.mem_of_getElem? (i := 72) (by rfl)) (by rfl)
theorem wF_X5_263 : Cond.fieldLink RX5 263 (TX4 7).1 (TX4 7).2.1 (TX4 7).2.2.1 ∈ fx_WS := fx_in1 (List.mem_of_getElem? (i := 73) (by rfl)) (by rfl)
theorem wF_X4_20 : Cond.fieldLink RX4 20 (TX4 8).1 (TX4 8).2.1 (TX4 8).2.2.1 ∈ fx_WS := fx_in1 (List.mem_of_getElem? (i := 74) (by rfl)) (by rfl)
theorem wF_X2_57 : Cond.fieldLink RX2 57 (TX4 8).1 (TX4 8).2.1 (TX4 8).2.2.1 ∈ fx_WS := fx_in1 (List.mem_of_getElem? (i := 75) (by rfl)) (by rfl)
theorem wF_X0_55 : Cond.fieldLink RX0 55 (TX4 8).1 (TX4 8).2.1 (TX4 8).2.2.1 ∈ fx_WS := fx_in1 (List.mem_of_getElem? (i := 76) (by rfl)) (by rfl)
theorem wF_X5_106 : Cond.fieldLink RX5 106 (TX4 8).1 (TX4 8).2.1 (TX4 8).2.2.1 ∈ fx_WS := fx_in1 (List.mem_of_getElem? (i := 77) (by rfl)) (by rfl)
theorem wF_X1_99 : Cond.fieldLink RX1 99 (TX4 8).1 (TX4 8).2.1 (TX4 8).2.2.1 ∈ fx_WS := fx_in1 (List.mem_of_getElem? (i := 78) (by rfl)) (by rfl)
theorem wF_X3_132 : Cond.fieldLink RX3 132 (TX4 8).1 (TX4 8).2.1 (TX4 8).2.2.1 ∈ fx_WS := fx_in1 (List.mem_of_getElem? (i := 79) (by rfl)) (by rfl)
theorem wF_X4_23 : Cond.fieldLink RX4 23 (TX4 9).1 (TX4 9).2.1 (TX4 9).2.2.1 ∈ fx_WS := fx_in1 (List.mem_of_getElem? (i := 80) (by rfl)) (by rfl)
theorem wF_X5_129 : Cond.fieldLink RX5 129 (TX4 9).1 (TX4 9).2.1 (TX4 9).2.2.1 ∈ fx_WS := fx_in1 (List.mem_of_getElem? (i := 81) (by rfl)) (by rfl)
theorem wF_X1_148 : Cond.fieldLink RX1 148 (TX4 9).1 (TX4 9).2.1 (TX4 9).2.2.1 ∈ fx_WS := fx_in1 (List.mem_of_getElem? (i := 82) (by rfl)) (by rfl)
theorem wF_X3_139 : Cond.fieldLink RX3 139 (TX4 9).1 (TX4 9).2.1 (TX4 9).2.2.1 ∈ fx_WS := fx_in1 (List.mem_of_getElem? (i := 83) (by rfl)) (by rfl)
theorem wF_X4_26 : Cond.fieldLink RX4 26 (TX4 10).1 (TX4 10).2.1 (TX4 10).2.2.1 ∈ fx_WS := fx_in1 (List.mem_of_getElem? (i := 84) (by rfl)) (by rfl)
theorem wF_X2_74 : Cond.fieldLink RX2 74 (TX4 10).1 (TX4 10).2.1 (TX4 10).2.2.1 ∈ fx_WS := fx_in1 (List.mem_of_getElem? (i := 85) (by rfl)) (by rfl)
theorem wF_X5_209 : Cond.fieldLink RX5 209 (TX4 10).1 (TX4 10).2.1 (TX4 10).2.2.1 ∈ fx_WS := fx_in1 (List.mem_of_getElem? (i := 86) (by rfl)) (by rfl)
theorem wF_X4_29 : Cond.fieldLink RX4 29 (TX4 11).1 (TX4 11).2.1 (TX4 11).2.2.1 ∈ fx_WS := fx_in1 (List.mem_of_getElem? (i := 87) (by rfl)) (by rfl)
theorem wF_X4_32 : Cond.fieldLink RX4 32 (TX4 12).1 (TX4 12).2.1 (TX4 12).2.2.1 ∈ fx_WS := fx_in1 (List.mem_of_getElem? (i := 88) (by rfl)) (by rfl)
theorem wF_X4_35 : Cond.fieldLink RX4 35 (TX4 13).1 (TX4 13).2.1 (TX4 13).2.2.1 ∈ fx_WS := fx_in1 (List.mem_of_getElem? (i := 89) (by rfl)) (by rfl)
theorem wA_int : Cond.arrayClass .int ∈ fx_WS := fx_in1 (List.mem_of_getElem? (i := 119) (by rfl)) (by rfl)
theorem wC_X5_27 : Cond.classLink RX5 27 RX3 ∈ fx_WS := fx_in1 (List.mem_of_getElem? (i := 121) (by rfl)) (by rfl)
theorem wNew_X3 : Cond.instantiable RX3 7 ∈ fx_WS := fx_in1 (List.mem_of_getElem? (i := 122) (by rfl)) (by rfl)
theorem wIn_X3_init : Cond.instanceMethod yX3_init ∈ fx_WS := fx_in1 (List.mem_of_getElem? (i := 124) (by rfl)) (by rfl)
theorem wCo_X3_init : Cond.code yX3_init cX3_init 1 none ∈ fx_WS := fx_in1 (List.mem_of_getElem? (i := 125) (by rfl)) (by rfl)
theorem wM_X3_3 : Cond.methodLink RX3 3 objectInit ∈ fx_WS := fx_in1 (List.mem_of_getElem? (i := 126) (by rfl)) (by rfl)
theorem wF_X3_9 : Cond.fieldLink RX3 9 (TX3 0).1 (TX3 0).2.1 (TX3 0).2.2.1 ∈ fx_WS := fx_in1 (List.mem_of_getElem? (i := 127) (by rfl)) (by rfl)
theorem wF_X3_15 : Cond.fieldLink RX3 15 (TX3 1).1 (TX3 1).2.1 (TX3 1).2.2.1 ∈ fx_WS := fx_in1 (List.mem_of_getElem? (i := 128) (by rfl)) (by rfl)
theorem wF_X5_132 : Cond.fieldLink RX5 132 (TX3 1).1 (TX3 1).2.1 (TX3 1).2.2.1 ∈ fx_WS := fx_in1 (List.mem_of_getElem? (i := 129) (by rfl)) (by rfl)
theorem wF_X3_24 : Cond.fieldLink RX3 24 (TX3 2).1 (TX3 2).2.1 (TX3 2).2.2.1 ∈ fx_WS := fx_in1 (List.mem_of_getElem? (i := 130) (by rfl)) (by rfl)
theorem wF_X3_37 : Cond.fieldLink RX3 37 (TX3 3).1 (TX3 3).2.1 (TX3 3).2.2.1 ∈ fx_WS := fx_in1 (List.mem_of_getElem? (i := 131) (by rfl)) (by rfl)
theorem wF_X3_142 : Cond.fieldLink RX3 142 (TX3 4).1 (TX3 4).2.1 (TX3 4).2.2.1 ∈ fx_WS := fx_in1 (List.mem_of_getElem? (i := 132) (by rfl)) (by rfl)
theorem wF_X3_27 : Cond.fieldLink RX3 27 (TX3 5).1 (TX3 5).2.1 (TX3 5).2.2.1 ∈ fx_WS := fx_in1 (List.mem_of_getElem? (i := 133) (by rfl)) (by rfl)
theorem wF_X3_30 : Cond.fieldLink RX3 30 (TX3 6).1 (TX3 6).2.1 (TX3 6).2.2.1 ∈ fx_WS := fx_in1 (List.mem_of_getElem? (i := 134) (by rfl)) (by rfl)
theorem wA_boolean : Cond.arrayClass .boolean ∈ fx_WS := fx_in1 (List.mem_of_getElem? (i := 150) (by rfl)) (by rfl)
theorem wA_byte : Cond.arrayClass .byte ∈ fx_WS := fx_in1 (List.mem_of_getElem? (i := 151) (by rfl)) (by rfl)
theorem wC_X5_34 : Cond.classLink RX5 34 RX0 ∈ fx_WS := fx_in1 (List.mem_of_getElem? (i := 152) (by rfl)) (by rfl)
theorem wNew_X0 : Cond.instantiable RX0 6 ∈ fx_WS := fx_in1 (List.mem_of_getElem? (i := 153) (by rfl)) (by rfl)
theorem wM_X5_36 : Cond.methodLink RX5 36 yX0_init ∈ fx_WS := fx_in1 (List.mem_of_getElem? (i := 154) (by rfl)) (by rfl)
theorem wIn_X0_init : Cond.instanceMethod yX0_init ∈ fx_WS := fx_in1 (List.mem_of_getElem? (i := 155) (by rfl)) (by rfl)
theorem wCo_X0_init : Cond.code yX0_init cX0_init 1 none ∈ fx_WS := fx_in1 (List.mem_of_getElem? (i := 156) (by rfl)) (by rfl)
theorem wM_X0_3 : Cond.methodLink RX0 3 objectInit ∈ fx_WS := fx_in1 (List.mem_of_getElem? (i := 157) (by rfl)) (by rfl)
theorem wM_X0_24 : Cond.methodLink RX0 24 yJ7_fill_53178 ∈ fx_WS := fx_in1 (List.mem_of_getElem? (i := 158) (by rfl)) (by rfl)
theorem wF_X0_9 : Cond.fieldLink RX0 9 (TX0 0).1 (TX0 0).2.1 (TX0 0).2.2.1 ∈ fx_WS := fx_in1 (List.mem_of_getElem? (i := 159) (by rfl)) (by rfl)
theorem wF_X5_154 : Cond.fieldLink RX5 154 (TX0 0).1 (TX0 0).2.1 (TX0 0).2.2.1 ∈ fx_WS := fx_in1 (List.mem_of_getElem? (i := 160) (by rfl)) (by rfl)
theorem wF_X0_15 : Cond.fieldLink RX0 15 (TX0 1).1 (TX0 1).2.1 (TX0 1).2.2.1 ∈ fx_WS := fx_in1 (List.mem_of_getElem? (i := 161) (by rfl)) (by rfl)
theorem wF_X0_18 : Cond.fieldLink RX0 18 (TX0 2).1 (TX0 2).2.1 (TX0 2).2.2.1 ∈ fx_WS := fx_in1 (List.mem_of_getElem? (i := 162) (by rfl)) (by rfl)
theorem wF_X0_21 : Cond.fieldLink RX0 21 (TX0 3).1 (TX0 3).2.1 (TX0 3).2.2.1 ∈ fx_WS := fx_in1 (List.mem_of_getElem? (i := 163) (by rfl)) (by rfl)
theorem wF_X0_36 : Cond.fieldLink RX0 36 (TX0 4).1 (TX0 4).2.1 (TX0 4).2.2.1 ∈ fx_WS := fx_in1 (List.mem_of_getElem? (i := 164) (by rfl)) (by rfl)
theorem wF_X0_40 : Cond.fieldLink RX0 40 (TX0 5).1 (TX0 5).2.1 (TX0 5).2.2.1 ∈ fx_WS := fx_in1 (List.mem_of_getElem? (i := 165) (by rfl)) (by rfl)
theorem wC_X5_41 : Cond.classLink RX5 41 RX1 ∈ fx_WS := fx_in1 (List.mem_of_getElem? (i := 179) (by rfl)) (by rfl)
theorem wNew_X1 : Cond.instantiable RX1 13 ∈ fx_WS := fx_in1 (List.mem_of_getElem? (i := 180) (by rfl)) (by rfl)
theorem wIn_X1_init : Cond.instanceMethod yX1_init ∈ fx_WS := fx_in1 (List.mem_of_getElem? (i := 182) (by rfl)) (by rfl)
theorem wCo_X1_init : Cond.code yX1_init cX1_init 1 none ∈ fx_WS := fx_in1 (List.mem_of_getElem? (i := 183) (by rfl)) (by rfl)
theorem wM_X1_3 : Cond.methodLink RX1 3 objectInit ∈ fx_WS := fx_in1 (List.mem_of_getElem? (i := 184) (by rfl)) (by rfl)
theorem wC_X1_9 : Cond.classLink RX1 9 "[[I" ∈ fx_WS := fx_in1 (List.mem_of_getElem? (i := 185) (by rfl)) (by rfl)
theorem wF_X1_11 : Cond.fieldLink RX1 11 (TX1 0).1 (TX1 0).2.1 (TX1 0).2.2.1 ∈ fx_WS := fx_in1 (List.mem_of_getElem? (i := 186) (by rfl)) (by rfl)
theorem wF_X5_188 : Cond.fieldLink RX5 188 (TX1 0).1 (TX1 0).2.1 (TX1 0).2.2.1 ∈ fx_WS := fx_in1 (List.mem_of_getElem? (i := 187) (by rfl)) (by rfl)
theorem wF_X1_16 : Cond.fieldLink RX1 16 (TX1 1).1 (TX1 1).2.1 (TX1 1).2.2.1 ∈ fx_WS := fx_in1 (List.mem_of_getElem? (i := 188) (by rfl)) (by rfl)
theorem wF_X5_172 : Cond.fieldLink RX5 172 (TX1 1).1 (TX1 1).2.1 (TX1 1).2.2.1 ∈ fx_WS := fx_in1 (List.mem_of_getElem? (i := 189) (by rfl)) (by rfl)
theorem wF_X1_72 : Cond.fieldLink RX1 72 (TX1 2).1 (TX1 2).2.1 (TX1 2).2.2.1 ∈ fx_WS := fx_in1 (List.mem_of_getElem? (i := 190) (by rfl)) (by rfl)
theorem wF_X5_169 : Cond.fieldLink RX5 169 (TX1 2).1 (TX1 2).2.1 (TX1 2).2.2.1 ∈ fx_WS := fx_in1 (List.mem_of_getElem? (i := 191) (by rfl)) (by rfl)
theorem wF_X1_19 : Cond.fieldLink RX1 19 (TX1 3).1 (TX1 3).2.1 (TX1 3).2.2.1 ∈ fx_WS := fx_in1 (List.mem_of_getElem? (i := 192) (by rfl)) (by rfl)
theorem wF_X1_48 : Cond.fieldLink RX1 48 (TX1 4).1 (TX1 4).2.1 (TX1 4).2.2.1 ∈ fx_WS := fx_in1 (List.mem_of_getElem? (i := 193) (by rfl)) (by rfl)
theorem wF_X1_22 : Cond.fieldLink RX1 22 (TX1 5).1 (TX1 5).2.1 (TX1 5).2.2.1 ∈ fx_WS := fx_in1 (List.mem_of_getElem? (i := 194) (by rfl)) (by rfl)
theorem wF_X1_26 : Cond.fieldLink RX1 26 (TX1 6).1 (TX1 6).2.1 (TX1 6).2.2.1 ∈ fx_WS := fx_in1 (List.mem_of_getElem? (i := 195) (by rfl)) (by rfl)
theorem wF_X1_29 : Cond.fieldLink RX1 29 (TX1 7).1 (TX1 7).2.1 (TX1 7).2.2.1 ∈ fx_WS := fx_in1 (List.mem_of_getElem? (i := 196) (by rfl)) (by rfl)
theorem wF_X1_33 : Cond.fieldLink RX1 33 (TX1 8).1 (TX1 8).2.1 (TX1 8).2.2.1 ∈ fx_WS := fx_in1 (List.mem_of_getElem? (i := 197) (by rfl)) (by rfl)
theorem wF_X1_36 : Cond.fieldLink RX1 36 (TX1 9).1 (TX1 9).2.1 (TX1 9).2.2.1 ∈ fx_WS := fx_in1 (List.mem_of_getElem? (i := 198) (by rfl)) (by rfl)
theorem wF_X1_39 : Cond.fieldLink RX1 39 (TX1 10).1 (TX1 10).2.1 (TX1 10).2.2.1 ∈ fx_WS := fx_in1 (List.mem_of_getElem? (i := 199) (by rfl)) (by rfl)
theorem wF_X1_42 : Cond.fieldLink RX1 42 (TX1 11).1 (TX1 11).2.1 (TX1 11).2.2.1 ∈ fx_WS := fx_in1 (List.mem_of_getElem? (i := 200) (by rfl)) (by rfl)
theorem wF_X1_45 : Cond.fieldLink RX1 45 (TX1 12).1 (TX1 12).2.1 (TX1 12).2.2.1 ∈ fx_WS := fx_in1 (List.mem_of_getElem? (i := 201) (by rfl)) (by rfl)
theorem wC_X5_48 : Cond.classLink RX5 48 RX2 ∈ fx_WS := fx_in1 (List.mem_of_getElem? (i := 229) (by rfl)) (by rfl)
theorem wNew_X2 : Cond.instantiable RX2 6 ∈ fx_WS := fx_in1 (List.mem_of_getElem? (i := 230) (by rfl)) (by rfl)
theorem wIn_X2_init : Cond.instanceMethod yX2_init ∈ fx_WS := fx_in1 (List.mem_of_getElem? (i := 232) (by rfl)) (by rfl)
theorem wCo_X2_init : Cond.code yX2_init cX2_init 1 none ∈ fx_WS := fx_in1 (List.mem_of_getElem? (i := 233) (by rfl)) (by rfl)
theorem wM_X2_3 : Cond.methodLink RX2 3 objectInit ∈ fx_WS := fx_in1 (List.mem_of_getElem? (i := 234) (by rfl)) (by rfl)
theorem wF_X2_28 : Cond.fieldLink RX2 28 (TX2 0).1 (TX2 0).2.1 (TX2 0).2.2.1 ∈ fx_WS := fx_in1 (List.mem_of_getElem? (i := 235) (by rfl)) (by rfl)
theorem wF_X5_216 : Cond.fieldLink RX5 216 (TX2 0).1 (TX2 0).2.1 (TX2 0).2.2.1 ∈ fx_WS := fx_in1 (List.mem_of_getElem? (i := 236) (by rfl)) (by rfl)
theorem wF_X2_9 : Cond.fieldLink RX2 9 (TX2 1).1 (TX2 1).2.1 (TX2 1).2.2.1 ∈ fx_WS := fx_in1 (List.mem_of_getElem? (i := 237) (by rfl)) (by rfl)
theorem wF_X5_219 : Cond.fieldLink RX5 219 (TX2 1).1 (TX2 1).2.1 (TX2 1).2.2.1 ∈ fx_WS := fx_in1 (List.mem_of_getElem? (i := 238) (by rfl)) (by rfl)
theorem wF_X2_15 : Cond.fieldLink RX2 15 (TX2 2).1 (TX2 2).2.1 (TX2 2).2.2.1 ∈ fx_WS := fx_in1 (List.mem_of_getElem? (i := 239) (by rfl)) (by rfl)
theorem wF_X2_18 : Cond.fieldLink RX2 18 (TX2 3).1 (TX2 3).2.1 (TX2 3).2.2.1 ∈ fx_WS := fx_in2 (List.mem_of_getElem? (i := 0) (by rfl)) (by rfl)
theorem wF_X2_21 : Cond.fieldLink RX2 21 (TX2 4).1 (TX2 4).2.1 (TX2 4).2.2.1 ∈ fx_WS := fx_in2 (List.mem_of_getElem? (i := 1) (by rfl)) (by rfl)
theorem wF_X2_25 : Cond.fieldLink RX2 25 (TX2 5).1 (TX2 5).2.1 (TX2 5).2.2.1 ∈ fx_WS := fx_in2 (List.mem_of_getElem? (i := 2) (by rfl)) (by rfl)
theorem wF_X5_10 : Cond.fieldLink RX5 10 (TX5 0).1 (TX5 0).2.1 (TX5 0).2.2.1 ∈ fx_WS := fx_in2 (List.mem_of_getElem? (i := 16) (by rfl)) (by rfl)
theorem wF_X5_16 : Cond.fieldLink RX5 16 (TX5 1).1 (TX5 1).2.1 (TX5 1).2.2.1 ∈ fx_WS := fx_in2 (List.mem_of_getElem? (i := 17) (by rfl)) (by rfl)
theorem wF_X5_19 : Cond.fieldLink RX5 19 (TX5 2).1 (TX5 2).2.1 (TX5 2).2.2.1 ∈ fx_WS := fx_in2 (List.mem_of_getElem? (i := 18) (by rfl)) (by rfl)
theorem wF_X5_23 : Cond.fieldLink RX5 23 (TX5 3).1 (TX5 3).2.1 (TX5 3).2.2.1 ∈ fx_WS := fx_in2 (List.mem_of_getElem? (i := 19) (by rfl)) (by rfl)
theorem wF_X5_30 : Cond.fieldLink RX5 30 (TX5 4).1 (TX5 4).2.1 (TX5 4).2.2.1 ∈ fx_WS := fx_in2 (List.mem_of_getElem? (i := 20) (by rfl)) (by rfl)
theorem wF_X5_37 : Cond.fieldLink RX5 37 (TX5 5).1 (TX5 5).2.1 (TX5 5).2.2.1 ∈ fx_WS := fx_in2 (List.mem_of_getElem? (i := 21) (by rfl)) (by rfl)
theorem wF_X5_44 : Cond.fieldLink RX5 44 (TX5 6).1 (TX5 6).2.1 (TX5 6).2.2.1 ∈ fx_WS := fx_in2 (List.mem_of_getElem? (i := 22) (by rfl)) (by rfl)
theorem wF_X5_51 : Cond.fieldLink RX5 51 (TX5 7).1 (TX5 7).2.1 (TX5 7).2.2.1 ∈ fx_WS := fx_in2 (List.mem_of_getElem? (i := 23) (by rfl)) (by rfl)
theorem wF_X5_238 : Cond.fieldLink RX5 238 (TX5 8).1 (TX5 8).2.1 (TX5 8).2.2.1 ∈ fx_WS := fx_in2 (List.mem_of_getElem? (i := 24) (by rfl)) (by rfl)
theorem wF_X5_55 : Cond.fieldLink RX5 55 (TX5 9).1 (TX5 9).2.1 (TX5 9).2.2.1 ∈ fx_WS := fx_in2 (List.mem_of_getElem? (i := 25) (by rfl)) (by rfl)
theorem wF_X5_241 : Cond.fieldLink RX5 241 (TX5 10).1 (TX5 10).2.1 (TX5 10).2.2.1 ∈ fx_WS := fx_in2 (List.mem_of_getElem? (i := 26) (by rfl)) (by rfl)
theorem wF_X5_244 : Cond.fieldLink RX5 244 (TX5 11).1 (TX5 11).2.1 (TX5 11).2.2.1 ∈ fx_WS := fx_in2 (List.mem_of_getElem? (i := 27) (by rfl)) (by rfl)
theorem wF_X5_247 : Cond.fieldLink RX5 247 (TX5 12).1 (TX5 12).2.1 (TX5 12).2.2.1 ∈ fx_WS := fx_in2 (List.mem_of_getElem? (i := 28) (by rfl)) (by rfl)
theorem wF_X5_75 : Cond.fieldLink RX5 75 (TX5 13).1 (TX5 13).2.1 (TX5 13).2.2.1 ∈ fx_WS := fx_in2 (List.mem_of_getElem? (i := 29) (by rfl)) (by rfl)
theorem wM_L_13 : Cond.methodLink RL 13 yX5_thing ∈ fx_WS := fx_in2 (List.mem_of_getElem? (i := 59) (by rfl)) (by rfl)
theorem wIn_X5_thing : Cond.instanceMethod yX5_thing ∈ fx_WS := fx_in2 (List.mem_of_getElem? (i := 60) (by rfl)) (by rfl)
theorem wSel_X5_thing : Cond.selects yX5_thing.cls yX5_thing yX5_thing ∈ fx_WS := fx_in2 (List.mem_of_getElem? (i := 61) (by rfl)) (by rfl)
theorem wCo_X5_thing : Cond.code yX5_thing cX5_thing 2 (some .int) ∈ fx_WS := fx_in2 (List.mem_of_getElem? (i := 62) (by rfl)) (by rfl)
theorem wM_X5_59 : Cond.methodLink RX5 59 yX4_hasThing ∈ fx_WS := fx_in2 (List.mem_of_getElem? (i := 63) (by rfl)) (by rfl)
theorem wIn_X4_hasThing : Cond.instanceMethod yX4_hasThing ∈ fx_WS := fx_in2 (List.mem_of_getElem? (i := 64) (by rfl)) (by rfl)
theorem wSel_X4_hasThing : Cond.selects yX4_hasThing.cls yX4_hasThing yX4_hasThing ∈ fx_WS := fx_in2 (List.mem_of_getElem? (i := 65) (by rfl)) (by rfl)
theorem wCo_X4_hasThing : Cond.code yX4_hasThing cX4_hasThing 2 (some .boolean) ∈ fx_WS := fx_in2 (List.mem_of_getElem? (i := 66) (by rfl)) (by rfl)
theorem wSt_X5_within : Cond.static yX5_within ∈ fx_WS := fx_in2 (List.mem_of_getElem? (i := 68) (by rfl)) (by rfl)
theorem wCo_X5_within : Cond.code yX5_within cX5_within 3 (some .boolean) ∈ fx_WS := fx_in2 (List.mem_of_getElem? (i := 69) (by rfl)) (by rfl)
theorem wM_X5_63 : Cond.methodLink RX5 63 yX5_refuseBad ∈ fx_WS := fx_in2 (List.mem_of_getElem? (i := 70) (by rfl)) (by rfl)
theorem wIn_X5_refuseBad : Cond.instanceMethod yX5_refuseBad ∈ fx_WS := fx_in2 (List.mem_of_getElem? (i := 72) (by rfl)) (by rfl)
theorem wCo_X5_refuseBad : Cond.code yX5_refuseBad cX5_refuseBad 2 (some .int) ∈ fx_WS := fx_in2 (List.mem_of_getElem? (i := 73) (by rfl)) (by rfl)
theorem wM_X5_71 : Cond.methodLink RX5 71 yX5_refuseFull ∈ fx_WS := fx_in2 (List.mem_of_getElem? (i := 74) (by rfl)) (by rfl)
theorem wIn_X5_refuseFull : Cond.instanceMethod yX5_refuseFull ∈ fx_WS := fx_in2 (List.mem_of_getElem? (i := 76) (by rfl)) (by rfl)
theorem wCo_X5_refuseFull : Cond.code yX5_refuseFull cX5_refuseFull 1 (some .int) ∈ fx_WS := fx_in2 (List.mem_of_getElem? (i := 77) (by rfl)) (by rfl)
theorem wM_X5_78 : Cond.methodLink RX5 78 yX4_addThing ∈ fx_WS := fx_in2 (List.mem_of_getElem? (i := 78) (by rfl)) (by rfl)
theorem wIn_X4_addThing : Cond.instanceMethod yX4_addThing ∈ fx_WS := fx_in2 (List.mem_of_getElem? (i := 79) (by rfl)) (by rfl)
theorem wSel_X4_addThing : Cond.selects yX4_addThing.cls yX4_addThing yX4_addThing ∈ fx_WS := fx_in2 (List.mem_of_getElem? (i := 80) (by rfl)) (by rfl)
theorem wCo_X4_addThing : Cond.code yX4_addThing cX4_addThing 2 none ∈ fx_WS := fx_in2 (List.mem_of_getElem? (i := 81) (by rfl)) (by rfl)
theorem wM_L_18 : Cond.methodLink RL 18 yX5_town ∈ fx_WS := fx_in2 (List.mem_of_getElem? (i := 82) (by rfl)) (by rfl)
theorem wIn_X5_town : Cond.instanceMethod yX5_town ∈ fx_WS := fx_in2 (List.mem_of_getElem? (i := 83) (by rfl)) (by rfl)
theorem wSel_X5_town : Cond.selects yX5_town.cls yX5_town yX5_town ∈ fx_WS := fx_in2 (List.mem_of_getElem? (i := 84) (by rfl)) (by rfl)
theorem wCo_X5_town : Cond.code yX5_town cX5_town 3 (some .int) ∈ fx_WS := fx_in2 (List.mem_of_getElem? (i := 85) (by rfl)) (by rfl)
theorem wM_X5_82 : Cond.methodLink RX5 82 yX5_within ∈ fx_WS := fx_in2 (List.mem_of_getElem? (i := 86) (by rfl)) (by rfl)
theorem wM_X5_86 : Cond.methodLink RX5 86 yX4_settle ∈ fx_WS := fx_in2 (List.mem_of_getElem? (i := 87) (by rfl)) (by rfl)
theorem wM_L_23 : Cond.methodLink RL 23 yX5_put ∈ fx_WS := fx_in2 (List.mem_of_getElem? (i := 88) (by rfl)) (by rfl)
theorem wIn_X5_put : Cond.instanceMethod yX5_put ∈ fx_WS := fx_in2 (List.mem_of_getElem? (i := 89) (by rfl)) (by rfl)
theorem wSel_X5_put : Cond.selects yX5_put.cls yX5_put yX5_put ∈ fx_WS := fx_in2 (List.mem_of_getElem? (i := 90) (by rfl)) (by rfl)
theorem wCo_X5_put : Cond.code yX5_put cX5_put 4 (some .int) ∈ fx_WS := fx_in2 (List.mem_of_getElem? (i := 91) (by rfl)) (by rfl)
theorem wM_X5_90 : Cond.methodLink RX5 90 yX4_hasHour ∈ fx_WS := fx_in2 (List.mem_of_getElem? (i := 92) (by rfl)) (by rfl)
theorem wIn_X4_hasHour : Cond.instanceMethod yX4_hasHour ∈ fx_WS := fx_in2 (List.mem_of_getElem? (i := 93) (by rfl)) (by rfl)
theorem wSel_X4_hasHour : Cond.selects yX4_hasHour.cls yX4_hasHour yX4_hasHour ∈ fx_WS := fx_in2 (List.mem_of_getElem? (i := 94) (by rfl)) (by rfl)
theorem wCo_X4_hasHour : Cond.code yX4_hasHour cX4_hasHour 2 (some .boolean) ∈ fx_WS := fx_in2 (List.mem_of_getElem? (i := 95) (by rfl)) (by rfl)
theorem wM_X5_93 : Cond.methodLink RX5 93 yX5_putKind ∈ fx_WS := fx_in2 (List.mem_of_getElem? (i := 96) (by rfl)) (by rfl)
theorem wIn_X5_putKind : Cond.instanceMethod yX5_putKind ∈ fx_WS := fx_in2 (List.mem_of_getElem? (i := 98) (by rfl)) (by rfl)
theorem wCo_X5_putKind : Cond.code yX5_putKind cX5_putKind 4 (some .int) ∈ fx_WS := fx_in2 (List.mem_of_getElem? (i := 99) (by rfl)) (by rfl)
theorem wM_X5_97 : Cond.methodLink RX5 97 yX5_putLine ∈ fx_WS := fx_in2 (List.mem_of_getElem? (i := 100) (by rfl)) (by rfl)
theorem wIn_X5_putLine : Cond.instanceMethod yX5_putLine ∈ fx_WS := fx_in2 (List.mem_of_getElem? (i := 102) (by rfl)) (by rfl)
theorem wCo_X5_putLine : Cond.code yX5_putLine cX5_putLine 3 (some .int) ∈ fx_WS := fx_in2 (List.mem_of_getElem? (i := 103) (by rfl)) (by rfl)
theorem wM_X5_100 : Cond.methodLink RX5 100 yX4_hasPerson ∈ fx_WS := fx_in2 (List.mem_of_getElem? (i := 104) (by rfl)) (by rfl)
theorem wIn_X4_hasPerson : Cond.instanceMethod yX4_hasPerson ∈ fx_WS := fx_in2 (List.mem_of_getElem? (i := 105) (by rfl)) (by rfl)
theorem wSel_X4_hasPerson : Cond.selects yX4_hasPerson.cls yX4_hasPerson yX4_hasPerson ∈ fx_WS := fx_in2 (List.mem_of_getElem? (i := 106) (by rfl)) (by rfl)
theorem wCo_X4_hasPerson : Cond.code yX4_hasPerson cX4_hasPerson 2 (some .boolean) ∈ fx_WS := fx_in2 (List.mem_of_getElem? (i := 107) (by rfl)) (by rfl)
theorem wM_X5_103 : Cond.methodLink RX5 103 yX5_putRich ∈ fx_WS := fx_in2 (List.mem_of_getElem? (i := 108) (by rfl)) (by rfl)
theorem wIn_X5_putRich : Cond.instanceMethod yX5_putRich ∈ fx_WS := fx_in2 (List.mem_of_getElem? (i := 110) (by rfl)) (by rfl)
theorem wCo_X5_putRich : Cond.code yX5_putRich cX5_putRich 3 (some .int) ∈ fx_WS := fx_in2 (List.mem_of_getElem? (i := 111) (by rfl)) (by rfl)
theorem wM_L_28 : Cond.methodLink RL 28 yX5_does ∈ fx_WS := fx_in2 (List.mem_of_getElem? (i := 112) (by rfl)) (by rfl)
theorem wIn_X5_does : Cond.instanceMethod yX5_does ∈ fx_WS := fx_in2 (List.mem_of_getElem? (i := 113) (by rfl)) (by rfl)
theorem wSel_X5_does : Cond.selects yX5_does.cls yX5_does yX5_does ∈ fx_WS := fx_in2 (List.mem_of_getElem? (i := 114) (by rfl)) (by rfl)
theorem wCo_X5_does : Cond.code yX5_does cX5_does 6 (some .int) ∈ fx_WS := fx_in2 (List.mem_of_getElem? (i := 115) (by rfl)) (by rfl)
theorem wM_X5_110 : Cond.methodLink RX5 110 yX4_rememberDoing ∈ fx_WS := fx_in2 (List.mem_of_getElem? (i := 116) (by rfl)) (by rfl)
theorem wIn_X4_rememberDoing : Cond.instanceMethod yX4_rememberDoing ∈ fx_WS := fx_in2 (List.mem_of_getElem? (i := 117) (by rfl)) (by rfl)
theorem wSel_X4_rememberDoing : Cond.selects yX4_rememberDoing.cls yX4_rememberDoing yX4_rememberDoing ∈ fx_WS := fx_in2 (List.mem_of_getElem? (i := 118) (by rfl)) (by rfl)
theorem wCo_X4_rememberDoing : Cond.code yX4_rememberDoing cX4_rememberDoing 4 none ∈ fx_WS := fx_in2 (List.mem_of_getElem? (i := 119) (by rfl)) (by rfl)
theorem wM_X4_94 : Cond.methodLink RX4 94 yX4_forgetOldest ∈ fx_WS := fx_in2 (List.mem_of_getElem? (i := 120) (by rfl)) (by rfl)
theorem wIn_X4_forgetOldest : Cond.instanceMethod yX4_forgetOldest ∈ fx_WS := fx_in2 (List.mem_of_getElem? (i := 122) (by rfl)) (by rfl)
theorem wCo_X4_forgetOldest : Cond.code yX4_forgetOldest cX4_forgetOldest 1 none ∈ fx_WS := fx_in2 (List.mem_of_getElem? (i := 123) (by rfl)) (by rfl)
theorem wM_X4_70 : Cond.methodLink RX4 70 arraycopyName ∈ fx_WS := fx_in2 (List.mem_of_getElem? (i := 124) (by rfl)) (by rfl)
theorem wSt_arraycopy : Cond.static arraycopyName ∈ fx_WS := fx_in2 (List.mem_of_getElem? (i := 125) (by rfl)) (by rfl)
theorem wNa_arraycopy : Cond.native arraycopyName ∈ fx_WS := fx_in2 (List.mem_of_getElem? (i := 126) (by rfl)) (by rfl)
theorem wM_X5_114 : Cond.methodLink RX5 114 yX5_shown ∈ fx_WS := fx_in2 (List.mem_of_getElem? (i := 127) (by rfl)) (by rfl)
theorem wSt_X5_shown : Cond.static yX5_shown ∈ fx_WS := fx_in2 (List.mem_of_getElem? (i := 128) (by rfl)) (by rfl)
theorem wCo_X5_shown : Cond.code yX5_shown cX5_shown 1 (some .int) ∈ fx_WS := fx_in2 (List.mem_of_getElem? (i := 129) (by rfl)) (by rfl)
theorem wM_L_32 : Cond.methodLink RL 32 yX5_undo ∈ fx_WS := fx_in2 (List.mem_of_getElem? (i := 130) (by rfl)) (by rfl)
theorem wIn_X5_undo : Cond.instanceMethod yX5_undo ∈ fx_WS := fx_in2 (List.mem_of_getElem? (i := 131) (by rfl)) (by rfl)
theorem wSel_X5_undo : Cond.selects yX5_undo.cls yX5_undo yX5_undo ∈ fx_WS := fx_in2 (List.mem_of_getElem? (i := 132) (by rfl)) (by rfl)
theorem wCo_X5_undo : Cond.code yX5_undo cX5_undo 1 (some .int) ∈ fx_WS := fx_in2 (List.mem_of_getElem? (i := 133) (by rfl)) (by rfl)
theorem wM_X5_120 : Cond.methodLink RX5 120 yX5_refuseNo ∈ fx_WS := fx_in2 (List.mem_of_getElem? (i := 134) (by rfl)) (by rfl)
theorem wIn_X5_refuseNo : Cond.instanceMethod yX5_refuseNo ∈ fx_WS := fx_in2 (List.mem_of_getElem? (i := 136) (by rfl)) (by rfl)
theorem wCo_X5_refuseNo : Cond.code yX5_refuseNo cX5_refuseNo 1 (some .int) ∈ fx_WS := fx_in2 (List.mem_of_getElem? (i := 137) (by rfl)) (by rfl)
theorem wM_X5_123 : Cond.methodLink RX5 123 yX4_undoLast ∈ fx_WS := fx_in2 (List.mem_of_getElem? (i := 138) (by rfl)) (by rfl)
theorem wIn_X4_undoLast : Cond.instanceMethod yX4_undoLast ∈ fx_WS := fx_in2 (List.mem_of_getElem? (i := 139) (by rfl)) (by rfl)
theorem wSel_X4_undoLast : Cond.selects yX4_undoLast.cls yX4_undoLast yX4_undoLast ∈ fx_WS := fx_in2 (List.mem_of_getElem? (i := 140) (by rfl)) (by rfl)
theorem wCo_X4_undoLast : Cond.code yX4_undoLast cX4_undoLast 1 none ∈ fx_WS := fx_in2 (List.mem_of_getElem? (i := 141) (by rfl)) (by rfl)
theorem wM_L_37 : Cond.methodLink RL 37 yX5_need ∈ fx_WS := fx_in2 (List.mem_of_getElem? (i := 142) (by rfl)) (by rfl)
theorem wIn_X5_need : Cond.instanceMethod yX5_need ∈ fx_WS := fx_in2 (List.mem_of_getElem? (i := 143) (by rfl)) (by rfl)
theorem wSel_X5_need : Cond.selects yX5_need.cls yX5_need yX5_need ∈ fx_WS := fx_in2 (List.mem_of_getElem? (i := 144) (by rfl)) (by rfl)
theorem wCo_X5_need : Cond.code yX5_need cX5_need 5 (some .int) ∈ fx_WS := fx_in2 (List.mem_of_getElem? (i := 145) (by rfl)) (by rfl)
theorem wM_X5_126 : Cond.methodLink RX5 126 yX4_mostNeeded ∈ fx_WS := fx_in2 (List.mem_of_getElem? (i := 146) (by rfl)) (by rfl)
theorem wIn_X4_mostNeeded : Cond.instanceMethod yX4_mostNeeded ∈ fx_WS := fx_in2 (List.mem_of_getElem? (i := 147) (by rfl)) (by rfl)
theorem wSel_X4_mostNeeded : Cond.selects yX4_mostNeeded.cls yX4_mostNeeded yX4_mostNeeded ∈ fx_WS := fx_in2 (List.mem_of_getElem? (i := 148) (by rfl)) (by rfl)
theorem wCo_X4_mostNeeded : Cond.code yX4_mostNeeded cX4_mostNeeded 3 (some .int) ∈ fx_WS := fx_in2 (List.mem_of_getElem? (i := 149) (by rfl)) (by rfl)
theorem wM_X4_84 : Cond.methodLink RX4 84 yX4_needed ∈ fx_WS := fx_in2 (List.mem_of_getElem? (i := 150) (by rfl)) (by rfl)
theorem wIn_X4_needed : Cond.instanceMethod yX4_needed ∈ fx_WS := fx_in2 (List.mem_of_getElem? (i := 151) (by rfl)) (by rfl)
theorem wSel_X4_needed : Cond.selects yX4_needed.cls yX4_needed yX4_needed ∈ fx_WS := fx_in2 (List.mem_of_getElem? (i := 152) (by rfl)) (by rfl)
theorem wCo_X4_needed : Cond.code yX4_needed cX4_needed 4 (some .int) ∈ fx_WS := fx_in2 (List.mem_of_getElem? (i := 153) (by rfl)) (by rfl)
theorem wM_X4_88 : Cond.methodLink RX4 88 Lib.Math.min.name ∈ fx_WS := fx_in2 (List.mem_of_getElem? (i := 154) (by rfl)) (by rfl)
theorem wSt_min : Cond.static Lib.Math.min.name ∈ fx_WS := fx_in2 (List.mem_of_getElem? (i := 155) (by rfl)) (by rfl)
theorem wCo_min : Cond.code Lib.Math.min.name Lib.Math.min.code 2 (some .int) ∈ fx_WS := fx_in2 (List.mem_of_getElem? (i := 156) (by rfl)) (by rfl)
theorem wM_L_43 : Cond.methodLink RL 43 yX5_type ∈ fx_WS := fx_in2 (List.mem_of_getElem? (i := 157) (by rfl)) (by rfl)
theorem wIn_X5_type : Cond.instanceMethod yX5_type ∈ fx_WS := fx_in2 (List.mem_of_getElem? (i := 158) (by rfl)) (by rfl)
theorem wSel_X5_type : Cond.selects yX5_type.cls yX5_type yX5_type ∈ fx_WS := fx_in2 (List.mem_of_getElem? (i := 159) (by rfl)) (by rfl)
theorem wCo_X5_type : Cond.code yX5_type cX5_type 5 (some .int) ∈ fx_WS := fx_in2 (List.mem_of_getElem? (i := 160) (by rfl)) (by rfl)
theorem wM_X5_135 : Cond.methodLink RX5 135 yX3_append ∈ fx_WS := fx_in2 (List.mem_of_getElem? (i := 161) (by rfl)) (by rfl)
theorem wIn_X3_append : Cond.instanceMethod yX3_append ∈ fx_WS := fx_in2 (List.mem_of_getElem? (i := 162) (by rfl)) (by rfl)
theorem wSel_X3_append : Cond.selects yX3_append.cls yX3_append yX3_append ∈ fx_WS := fx_in2 (List.mem_of_getElem? (i := 163) (by rfl)) (by rfl)
theorem wCo_X3_append : Cond.code yX3_append cX3_append 2 none ∈ fx_WS := fx_in2 (List.mem_of_getElem? (i := 164) (by rfl)) (by rfl)
theorem wM_L_48 : Cond.methodLink RL 48 yX5_clear ∈ fx_WS := fx_in2 (List.mem_of_getElem? (i := 165) (by rfl)) (by rfl)
theorem wIn_X5_clear : Cond.instanceMethod yX5_clear ∈ fx_WS := fx_in2 (List.mem_of_getElem? (i := 166) (by rfl)) (by rfl)
theorem wSel_X5_clear : Cond.selects yX5_clear.cls yX5_clear yX5_clear ∈ fx_WS := fx_in2 (List.mem_of_getElem? (i := 167) (by rfl)) (by rfl)
theorem wCo_X5_clear : Cond.code yX5_clear cX5_clear 2 (some .int) ∈ fx_WS := fx_in2 (List.mem_of_getElem? (i := 168) (by rfl)) (by rfl)
theorem wM_L_52 : Cond.methodLink RL 52 yX5_read ∈ fx_WS := fx_in2 (List.mem_of_getElem? (i := 169) (by rfl)) (by rfl)
theorem wIn_X5_read : Cond.instanceMethod yX5_read ∈ fx_WS := fx_in2 (List.mem_of_getElem? (i := 170) (by rfl)) (by rfl)
theorem wSel_X5_read : Cond.selects yX5_read.cls yX5_read yX5_read ∈ fx_WS := fx_in2 (List.mem_of_getElem? (i := 171) (by rfl)) (by rfl)
theorem wCo_X5_read : Cond.code yX5_read cX5_read 2 (some .int) ∈ fx_WS := fx_in2 (List.mem_of_getElem? (i := 172) (by rfl)) (by rfl)
theorem wM_X5_139 : Cond.methodLink RX5 139 yX3_readInto ∈ fx_WS := fx_in2 (List.mem_of_getElem? (i := 173) (by rfl)) (by rfl)
theorem wIn_X3_readInto : Cond.instanceMethod yX3_readInto ∈ fx_WS := fx_in2 (List.mem_of_getElem? (i := 174) (by rfl)) (by rfl)
theorem wSel_X3_readInto : Cond.selects yX3_readInto.cls yX3_readInto yX3_readInto ∈ fx_WS := fx_in2 (List.mem_of_getElem? (i := 175) (by rfl)) (by rfl)
theorem wCo_X3_readInto : Cond.code yX3_readInto cX3_readInto 4 (some .int) ∈ fx_WS := fx_in2 (List.mem_of_getElem? (i := 176) (by rfl)) (by rfl)
theorem wM_X3_19 : Cond.methodLink RX3 19 yX4_begin ∈ fx_WS := fx_in2 (List.mem_of_getElem? (i := 177) (by rfl)) (by rfl)
theorem wM_X3_34 : Cond.methodLink RX3 34 yX3_nextToken ∈ fx_WS := fx_in2 (List.mem_of_getElem? (i := 178) (by rfl)) (by rfl)
theorem wIn_X3_nextToken : Cond.instanceMethod yX3_nextToken ∈ fx_WS := fx_in2 (List.mem_of_getElem? (i := 180) (by rfl)) (by rfl)
theorem wCo_X3_nextToken : Cond.code yX3_nextToken cX3_nextToken 2 none ∈ fx_WS := fx_in2 (List.mem_of_getElem? (i := 181) (by rfl)) (by rfl)
theorem wM_X3_149 : Cond.methodLink RX3 149 yX3_isLetter ∈ fx_WS := fx_in2 (List.mem_of_getElem? (i := 182) (by rfl)) (by rfl)
theorem wSt_X3_isLetter : Cond.static yX3_isLetter ∈ fx_WS := fx_in2 (List.mem_of_getElem? (i := 183) (by rfl)) (by rfl)
theorem wCo_X3_isLetter : Cond.code yX3_isLetter cX3_isLetter 1 (some .boolean) ∈ fx_WS := fx_in2 (List.mem_of_getElem? (i := 184) (by rfl)) (by rfl)
theorem wM_X3_153 : Cond.methodLink RX3 153 yX3_isFigure ∈ fx_WS := fx_in2 (List.mem_of_getElem? (i := 185) (by rfl)) (by rfl)
theorem wSt_X3_isFigure : Cond.static yX3_isFigure ∈ fx_WS := fx_in2 (List.mem_of_getElem? (i := 186) (by rfl)) (by rfl)
theorem wCo_X3_isFigure : Cond.code yX3_isFigure cX3_isFigure 1 (some .boolean) ∈ fx_WS := fx_in2 (List.mem_of_getElem? (i := 187) (by rfl)) (by rfl)
theorem wM_X3_40 : Cond.methodLink RX3 40 yX3_readItem ∈ fx_WS := fx_in2 (List.mem_of_getElem? (i := 188) (by rfl)) (by rfl)
theorem wIn_X3_readItem : Cond.instanceMethod yX3_readItem ∈ fx_WS := fx_in2 (List.mem_of_getElem? (i := 190) (by rfl)) (by rfl)
theorem wCo_X3_readItem : Cond.code yX3_readItem cX3_readItem 2 none ∈ fx_WS := fx_in2 (List.mem_of_getElem? (i := 191) (by rfl)) (by rfl)
theorem wM_X3_44 : Cond.methodLink RX3 44 yX3_fail ∈ fx_WS := fx_in2 (List.mem_of_getElem? (i := 192) (by rfl)) (by rfl)
theorem wIn_X3_fail : Cond.instanceMethod yX3_fail ∈ fx_WS := fx_in2 (List.mem_of_getElem? (i := 194) (by rfl)) (by rfl)
theorem wCo_X3_fail : Cond.code yX3_fail cX3_fail 1 none ∈ fx_WS := fx_in2 (List.mem_of_getElem? (i := 195) (by rfl)) (by rfl)
theorem wM_X3_49 : Cond.methodLink RX3 49 yX3_spells ∈ fx_WS := fx_in2 (List.mem_of_getElem? (i := 197) (by rfl)) (by rfl)
theorem wIn_X3_spells : Cond.instanceMethod yX3_spells ∈ fx_WS := fx_in2 (List.mem_of_getElem? (i := 199) (by rfl)) (by rfl)
theorem wCo_X3_spells : Cond.code yX3_spells cX3_spells 3 (some .boolean) ∈ fx_WS := fx_in2 (List.mem_of_getElem? (i := 200) (by rfl)) (by rfl)
theorem wM_X3_156 : Cond.methodLink RX3 156 yJ0_length_8abf5 ∈ fx_WS := fx_in2 (List.mem_of_getElem? (i := 201) (by rfl)) (by rfl)
theorem wIn_J0_length_8abf5 : Cond.instanceMethod yJ0_length_8abf5 ∈ fx_WS := fx_in2 (List.mem_of_getElem? (i := 202) (by rfl)) (by rfl)
theorem wSel_J0_length_8abf5 : Cond.selects yJ0_length_8abf5.cls yJ0_length_8abf5 yJ0_length_8abf5 ∈ fx_WS := fx_in2 (List.mem_of_getElem? (i := 203) (by rfl)) (by rfl)
theorem wCo_J0_length_8abf5 : Cond.code yJ0_length_8abf5 cJ0_length_8abf5 1 (some .int) ∈ fx_WS := fx_in2 (List.mem_of_getElem? (i := 204) (by rfl)) (by rfl)
theorem wM_J0_335 : Cond.methodLink RJ0 335 yJ0_coder_7d493 ∈ fx_WS := fx_in2 (List.mem_of_getElem? (i := 205) (by rfl)) (by rfl)
theorem wIn_J0_coder_7d493 : Cond.instanceMethod yJ0_coder_7d493 ∈ fx_WS := fx_in2 (List.mem_of_getElem? (i := 206) (by rfl)) (by rfl)
theorem wSel_J0_coder_7d493 : Cond.selects yJ0_coder_7d493.cls yJ0_coder_7d493 yJ0_coder_7d493 ∈ fx_WS := fx_in2 (List.mem_of_getElem? (i := 207) (by rfl)) (by rfl)
theorem wCo_J0_coder_7d493 : Cond.code yJ0_coder_7d493 cJ0_coder_7d493 1 (some .byte) ∈ fx_WS := fx_in2 (List.mem_of_getElem? (i := 208) (by rfl)) (by rfl)
theorem wF_J0_38 : Cond.fieldLink RJ0 38 "java/lang/String" "COMPACT_STRINGS" "Z" ∈ fx_WS := fx_in2 (List.mem_of_getElem? (i := 209) (by rfl)) (by rfl)
theorem wM_X3_160 : Cond.methodLink RX3 160 yJ0_charAt_5068e ∈ fx_WS := fx_in2 (List.mem_of_getElem? (i := 211) (by rfl)) (by rfl)
theorem wIn_J0_charAt_5068e : Cond.instanceMethod yJ0_charAt_5068e ∈ fx_WS := fx_in2 (List.mem_of_getElem? (i := 212) (by rfl)) (by rfl)
theorem wSel_J0_charAt_5068e : Cond.selects yJ0_charAt_5068e.cls yJ0_charAt_5068e yJ0_charAt_5068e ∈ fx_WS := fx_in2 (List.mem_of_getElem? (i := 213) (by rfl)) (by rfl)
theorem wCo_J0_charAt_5068e : Cond.code yJ0_charAt_5068e cJ0_charAt_5068e 2 (some .char) ∈ fx_WS := fx_in2 (List.mem_of_getElem? (i := 214) (by rfl)) (by rfl)
theorem wM_J0_492 : Cond.methodLink RJ0 492 yJ0_isLatin1_aae02 ∈ fx_WS := fx_in2 (List.mem_of_getElem? (i := 215) (by rfl)) (by rfl)
theorem wIn_J0_isLatin1_aae02 : Cond.instanceMethod yJ0_isLatin1_aae02 ∈ fx_WS := fx_in2 (List.mem_of_getElem? (i := 216) (by rfl)) (by rfl)
theorem wSel_J0_isLatin1_aae02 : Cond.selects yJ0_isLatin1_aae02.cls yJ0_isLatin1_aae02 yJ0_isLatin1_aae02 ∈ fx_WS := fx_in2 (List.mem_of_getElem? (i := 217) (by rfl)) (by rfl)
theorem wCo_J0_isLatin1_aae02 : Cond.code yJ0_isLatin1_aae02 cJ0_isLatin1_aae02 1 (some .boolean) ∈ fx_WS := fx_in2 (List.mem_of_getElem? (i := 218) (by rfl)) (by rfl)
theorem wM_J0_495 : Cond.methodLink RJ0 495 yJ1_charAt_3b067 ∈ fx_WS := fx_in2 (List.mem_of_getElem? (i := 219) (by rfl)) (by rfl)
theorem wSt_J1_charAt_3b067 : Cond.static yJ1_charAt_3b067 ∈ fx_WS := fx_in2 (List.mem_of_getElem? (i := 220) (by rfl)) (by rfl)
theorem wCo_J1_charAt_3b067 : Cond.code yJ1_charAt_3b067 cJ1_charAt_3b067 2 (some .char) ∈ fx_WS := fx_in2 (List.mem_of_getElem? (i := 221) (by rfl)) (by rfl)
theorem wM_J1_9 : Cond.methodLink RJ1 9 yJ0_checkIndex_df160 ∈ fx_WS := fx_in2 (List.mem_of_getElem? (i := 222) (by rfl)) (by rfl)
theorem wSt_J0_checkIndex_df160 : Cond.static yJ0_checkIndex_df160 ∈ fx_WS := fx_in2 (List.mem_of_getElem? (i := 223) (by rfl)) (by rfl)
theorem wCo_J0_checkIndex_df160 : Cond.code yJ0_checkIndex_df160 cJ0_checkIndex_df160 2 none ∈ fx_WS := fx_in2 (List.mem_of_getElem? (i := 224) (by rfl)) (by rfl)
theorem wF_J0_1053 : Cond.fieldLink RJ0 1053 "jdk/internal/util/Preconditions" "SIOOBE_FORMATTER" "Ljava/util/function/BiFunction;" ∈ fx_WS := fx_in2 (List.mem_of_getElem? (i := 225) (by rfl)) (by rfl)
theorem wM_J0_1059 : Cond.methodLink RJ0 1059 yJ3_checkIndex_8e157 ∈ fx_WS := fx_in2 (List.mem_of_getElem? (i := 227) (by rfl)) (by rfl)
theorem wSt_J3_checkIndex_8e157 : Cond.static yJ3_checkIndex_8e157 ∈ fx_WS := fx_in2 (List.mem_of_getElem? (i := 228) (by rfl)) (by rfl)
theorem wCo_J3_checkIndex_8e157 : Cond.code yJ3_checkIndex_8e157 cJ3_checkIndex_8e157 3 (some .int) ∈ fx_WS := fx_in2 (List.mem_of_getElem? (i := 229) (by rfl)) (by rfl)
theorem wM_J0_498 : Cond.methodLink RJ0 498 yJ2_charAt_3b067 ∈ fx_WS := fx_in2 (List.mem_of_getElem? (i := 230) (by rfl)) (by rfl)
theorem wSt_J2_charAt_3b067 : Cond.static yJ2_charAt_3b067 ∈ fx_WS := fx_in2 (List.mem_of_getElem? (i := 231) (by rfl)) (by rfl)
theorem wCo_J2_charAt_3b067 : Cond.code yJ2_charAt_3b067 cJ2_charAt_3b067 2 (some .char) ∈ fx_WS := fx_in2 (List.mem_of_getElem? (i := 232) (by rfl)) (by rfl)
theorem wM_J2_67 : Cond.methodLink RJ2 67 yJ2_checkIndex_2214a ∈ fx_WS := fx_in2 (List.mem_of_getElem? (i := 233) (by rfl)) (by rfl)
theorem wSt_J2_checkIndex_2214a : Cond.static yJ2_checkIndex_2214a ∈ fx_WS := fx_in2 (List.mem_of_getElem? (i := 234) (by rfl)) (by rfl)
theorem wCo_J2_checkIndex_2214a : Cond.code yJ2_checkIndex_2214a cJ2_checkIndex_2214a 2 none ∈ fx_WS := fx_in2 (List.mem_of_getElem? (i := 235) (by rfl)) (by rfl)
theorem wM_J2_48 : Cond.methodLink RJ2 48 yJ2_length_9d52b ∈ fx_WS := fx_in2 (List.mem_of_getElem? (i := 236) (by rfl)) (by rfl)
theorem wSt_J2_length_9d52b : Cond.static yJ2_length_9d52b ∈ fx_WS := fx_in2 (List.mem_of_getElem? (i := 237) (by rfl)) (by rfl)
theorem wCo_J2_length_9d52b : Cond.code yJ2_length_9d52b cJ2_length_9d52b 1 (some .int) ∈ fx_WS := fx_in2 (List.mem_of_getElem? (i := 238) (by rfl)) (by rfl)
theorem wM_J2_414 : Cond.methodLink RJ2 414 yJ0_checkIndex_df160 ∈ fx_WS := fx_in2 (List.mem_of_getElem? (i := 239) (by rfl)) (by rfl)
theorem wM_J2_71 : Cond.methodLink RJ2 71 yJ2_getChar_3b067 ∈ fx_WS := fx_in3 (List.mem_of_getElem? (i := 0) (by rfl)) (by rfl)
theorem wSt_J2_getChar_3b067 : Cond.static yJ2_getChar_3b067 ∈ fx_WS := fx_in3 (List.mem_of_getElem? (i := 1) (by rfl)) (by rfl)
theorem wCo_J2_getChar_3b067 : Cond.code yJ2_getChar_3b067 cJ2_getChar_3b067 2 (some .char) ∈ fx_WS := fx_in3 (List.mem_of_getElem? (i := 2) (by rfl)) (by rfl)
theorem wF_J2_44 : Cond.fieldLink RJ2 44 "java/lang/StringUTF16" "$assertionsDisabled" "Z" ∈ fx_WS := fx_in3 (List.mem_of_getElem? (i := 3) (by rfl)) (by rfl)
theorem wF_J2_59 : Cond.fieldLink RJ2 59 "java/lang/StringUTF16" "HI_BYTE_SHIFT" "I" ∈ fx_WS := fx_in3 (List.mem_of_getElem? (i := 5) (by rfl)) (by rfl)
theorem wF_J2_63 : Cond.fieldLink RJ2 63 "java/lang/StringUTF16" "LO_BYTE_SHIFT" "I" ∈ fx_WS := fx_in3 (List.mem_of_getElem? (i := 7) (by rfl)) (by rfl)
theorem wM_X3_53 : Cond.methodLink RX3 53 yX3_readThing ∈ fx_WS := fx_in3 (List.mem_of_getElem? (i := 9) (by rfl)) (by rfl)
theorem wIn_X3_readThing : Cond.instanceMethod yX3_readThing ∈ fx_WS := fx_in3 (List.mem_of_getElem? (i := 11) (by rfl)) (by rfl)
theorem wCo_X3_readThing : Cond.code yX3_readThing cX3_readThing 3 none ∈ fx_WS := fx_in3 (List.mem_of_getElem? (i := 12) (by rfl)) (by rfl)
theorem wM_X3_94 : Cond.methodLink RX3 94 yX3_figure ∈ fx_WS := fx_in3 (List.mem_of_getElem? (i := 13) (by rfl)) (by rfl)
theorem wIn_X3_figure : Cond.instanceMethod yX3_figure ∈ fx_WS := fx_in3 (List.mem_of_getElem? (i := 15) (by rfl)) (by rfl)
theorem wCo_X3_figure : Cond.code yX3_figure cX3_figure 1 (some .int) ∈ fx_WS := fx_in3 (List.mem_of_getElem? (i := 16) (by rfl)) (by rfl)
theorem wM_X3_98 : Cond.methodLink RX3 98 yX4_hasThing ∈ fx_WS := fx_in3 (List.mem_of_getElem? (i := 17) (by rfl)) (by rfl)
theorem wM_X3_102 : Cond.methodLink RX3 102 yX4_addThing ∈ fx_WS := fx_in3 (List.mem_of_getElem? (i := 18) (by rfl)) (by rfl)
theorem wM_X3_58 : Cond.methodLink RX3 58 yX3_readPeople ∈ fx_WS := fx_in3 (List.mem_of_getElem? (i := 20) (by rfl)) (by rfl)
theorem wIn_X3_readPeople : Cond.instanceMethod yX3_readPeople ∈ fx_WS := fx_in3 (List.mem_of_getElem? (i := 22) (by rfl)) (by rfl)
theorem wCo_X3_readPeople : Cond.code yX3_readPeople cX3_readPeople 3 none ∈ fx_WS := fx_in3 (List.mem_of_getElem? (i := 23) (by rfl)) (by rfl)
theorem wM_X3_106 : Cond.methodLink RX3 106 yX3_number ∈ fx_WS := fx_in3 (List.mem_of_getElem? (i := 24) (by rfl)) (by rfl)
theorem wIn_X3_number : Cond.instanceMethod yX3_number ∈ fx_WS := fx_in3 (List.mem_of_getElem? (i := 26) (by rfl)) (by rfl)
theorem wCo_X3_number : Cond.code yX3_number cX3_number 3 (some .int) ∈ fx_WS := fx_in3 (List.mem_of_getElem? (i := 27) (by rfl)) (by rfl)
theorem wM_X3_110 : Cond.methodLink RX3 110 yX3_stops ∈ fx_WS := fx_in3 (List.mem_of_getElem? (i := 29) (by rfl)) (by rfl)
theorem wIn_X3_stops : Cond.instanceMethod yX3_stops ∈ fx_WS := fx_in3 (List.mem_of_getElem? (i := 31) (by rfl)) (by rfl)
theorem wCo_X3_stops : Cond.code yX3_stops cX3_stops 1 (some .boolean) ∈ fx_WS := fx_in3 (List.mem_of_getElem? (i := 32) (by rfl)) (by rfl)
theorem wM_X3_63 : Cond.methodLink RX3 63 yX3_readHours ∈ fx_WS := fx_in3 (List.mem_of_getElem? (i := 34) (by rfl)) (by rfl)
theorem wIn_X3_readHours : Cond.instanceMethod yX3_readHours ∈ fx_WS := fx_in3 (List.mem_of_getElem? (i := 36) (by rfl)) (by rfl)
theorem wCo_X3_readHours : Cond.code yX3_readHours cX3_readHours 3 none ∈ fx_WS := fx_in3 (List.mem_of_getElem? (i := 37) (by rfl)) (by rfl)
theorem wM_X3_68 : Cond.methodLink RX3 68 yX3_readHour ∈ fx_WS := fx_in3 (List.mem_of_getElem? (i := 39) (by rfl)) (by rfl)
theorem wIn_X3_readHour : Cond.instanceMethod yX3_readHour ∈ fx_WS := fx_in3 (List.mem_of_getElem? (i := 41) (by rfl)) (by rfl)
theorem wCo_X3_readHour : Cond.code yX3_readHour cX3_readHour 4 none ∈ fx_WS := fx_in3 (List.mem_of_getElem? (i := 42) (by rfl)) (by rfl)
theorem wM_X3_118 : Cond.methodLink RX3 118 yX4_hasHour ∈ fx_WS := fx_in3 (List.mem_of_getElem? (i := 43) (by rfl)) (by rfl)
theorem wM_X3_73 : Cond.methodLink RX3 73 yX3_readLine ∈ fx_WS := fx_in3 (List.mem_of_getElem? (i := 45) (by rfl)) (by rfl)
theorem wIn_X3_readLine : Cond.instanceMethod yX3_readLine ∈ fx_WS := fx_in3 (List.mem_of_getElem? (i := 47) (by rfl)) (by rfl)
theorem wCo_X3_readLine : Cond.code yX3_readLine cX3_readLine 3 none ∈ fx_WS := fx_in3 (List.mem_of_getElem? (i := 48) (by rfl)) (by rfl)
theorem wM_X3_78 : Cond.methodLink RX3 78 yX3_readRich ∈ fx_WS := fx_in3 (List.mem_of_getElem? (i := 50) (by rfl)) (by rfl)
theorem wIn_X3_readRich : Cond.instanceMethod yX3_readRich ∈ fx_WS := fx_in3 (List.mem_of_getElem? (i := 52) (by rfl)) (by rfl)
theorem wCo_X3_readRich : Cond.code yX3_readRich cX3_readRich 3 none ∈ fx_WS := fx_in3 (List.mem_of_getElem? (i := 53) (by rfl)) (by rfl)
theorem wM_X3_83 : Cond.methodLink RX3 83 yX3_readDoes ∈ fx_WS := fx_in3 (List.mem_of_getElem? (i := 55) (by rfl)) (by rfl)
theorem wIn_X3_readDoes : Cond.instanceMethod yX3_readDoes ∈ fx_WS := fx_in3 (List.mem_of_getElem? (i := 57) (by rfl)) (by rfl)
theorem wCo_X3_readDoes : Cond.code yX3_readDoes cX3_readDoes 5 none ∈ fx_WS := fx_in3 (List.mem_of_getElem? (i := 58) (by rfl)) (by rfl)
theorem wM_X3_129 : Cond.methodLink RX3 129 yX4_hasPerson ∈ fx_WS := fx_in3 (List.mem_of_getElem? (i := 59) (by rfl)) (by rfl)
theorem wM_X3_88 : Cond.methodLink RX3 88 yX3_readNeed ∈ fx_WS := fx_in3 (List.mem_of_getElem? (i := 61) (by rfl)) (by rfl)
theorem wIn_X3_readNeed : Cond.instanceMethod yX3_readNeed ∈ fx_WS := fx_in3 (List.mem_of_getElem? (i := 63) (by rfl)) (by rfl)
theorem wCo_X3_readNeed : Cond.code yX3_readNeed cX3_readNeed 5 none ∈ fx_WS := fx_in3 (List.mem_of_getElem? (i := 64) (by rfl)) (by rfl)
theorem wM_X3_136 : Cond.methodLink RX3 136 yX4_mostNeeded ∈ fx_WS := fx_in3 (List.mem_of_getElem? (i := 65) (by rfl)) (by rfl)
theorem wM_X5_143 : Cond.methodLink RX5 143 yX4_takeOver ∈ fx_WS := fx_in3 (List.mem_of_getElem? (i := 66) (by rfl)) (by rfl)
theorem wIn_X4_takeOver : Cond.instanceMethod yX4_takeOver ∈ fx_WS := fx_in3 (List.mem_of_getElem? (i := 67) (by rfl)) (by rfl)
theorem wSel_X4_takeOver : Cond.selects yX4_takeOver.cls yX4_takeOver yX4_takeOver ∈ fx_WS := fx_in3 (List.mem_of_getElem? (i := 68) (by rfl)) (by rfl)
theorem wCo_X4_takeOver : Cond.code yX4_takeOver cX4_takeOver 3 none ∈ fx_WS := fx_in3 (List.mem_of_getElem? (i := 69) (by rfl)) (by rfl)
theorem wM_L_56 : Cond.methodLink RL 56 yX5_at ∈ fx_WS := fx_in3 (List.mem_of_getElem? (i := 70) (by rfl)) (by rfl)
theorem wIn_X5_at : Cond.instanceMethod yX5_at ∈ fx_WS := fx_in3 (List.mem_of_getElem? (i := 71) (by rfl)) (by rfl)
theorem wSel_X5_at : Cond.selects yX5_at.cls yX5_at yX5_at ∈ fx_WS := fx_in3 (List.mem_of_getElem? (i := 72) (by rfl)) (by rfl)
theorem wCo_X5_at : Cond.code yX5_at cX5_at 2 (some .int) ∈ fx_WS := fx_in3 (List.mem_of_getElem? (i := 73) (by rfl)) (by rfl)
theorem wM_X5_150 : Cond.methodLink RX5 150 yX0_sit ∈ fx_WS := fx_in3 (List.mem_of_getElem? (i := 74) (by rfl)) (by rfl)
theorem wIn_X0_sit : Cond.instanceMethod yX0_sit ∈ fx_WS := fx_in3 (List.mem_of_getElem? (i := 75) (by rfl)) (by rfl)
theorem wSel_X0_sit : Cond.selects yX0_sit.cls yX0_sit yX0_sit ∈ fx_WS := fx_in3 (List.mem_of_getElem? (i := 76) (by rfl)) (by rfl)
theorem wCo_X0_sit : Cond.code yX0_sit cX0_sit 7 none ∈ fx_WS := fx_in3 (List.mem_of_getElem? (i := 77) (by rfl)) (by rfl)
theorem wM_L_60 : Cond.methodLink RL 60 yX5_pays ∈ fx_WS := fx_in3 (List.mem_of_getElem? (i := 79) (by rfl)) (by rfl)
theorem wIn_X5_pays : Cond.instanceMethod yX5_pays ∈ fx_WS := fx_in3 (List.mem_of_getElem? (i := 80) (by rfl)) (by rfl)
theorem wSel_X5_pays : Cond.selects yX5_pays.cls yX5_pays yX5_pays ∈ fx_WS := fx_in3 (List.mem_of_getElem? (i := 81) (by rfl)) (by rfl)
theorem wCo_X5_pays : Cond.code yX5_pays cX5_pays 3 (some .int) ∈ fx_WS := fx_in3 (List.mem_of_getElem? (i := 82) (by rfl)) (by rfl)
theorem wM_X5_158 : Cond.methodLink RX5 158 yX0_fineIn ∈ fx_WS := fx_in3 (List.mem_of_getElem? (i := 83) (by rfl)) (by rfl)
theorem wIn_X0_fineIn : Cond.instanceMethod yX0_fineIn ∈ fx_WS := fx_in3 (List.mem_of_getElem? (i := 84) (by rfl)) (by rfl)
theorem wSel_X0_fineIn : Cond.selects yX0_fineIn.cls yX0_fineIn yX0_fineIn ∈ fx_WS := fx_in3 (List.mem_of_getElem? (i := 85) (by rfl)) (by rfl)
theorem wCo_X0_fineIn : Cond.code yX0_fineIn cX0_fineIn 5 (some .int) ∈ fx_WS := fx_in3 (List.mem_of_getElem? (i := 86) (by rfl)) (by rfl)
theorem wM_X0_51 : Cond.methodLink RX0 51 yX4_kindOf ∈ fx_WS := fx_in3 (List.mem_of_getElem? (i := 87) (by rfl)) (by rfl)
theorem wIn_X4_kindOf : Cond.instanceMethod yX4_kindOf ∈ fx_WS := fx_in3 (List.mem_of_getElem? (i := 88) (by rfl)) (by rfl)
theorem wSel_X4_kindOf : Cond.selects yX4_kindOf.cls yX4_kindOf yX4_kindOf ∈ fx_WS := fx_in3 (List.mem_of_getElem? (i := 89) (by rfl)) (by rfl)
theorem wCo_X4_kindOf : Cond.code yX4_kindOf cX4_kindOf 2 (some .int) ∈ fx_WS := fx_in3 (List.mem_of_getElem? (i := 90) (by rfl)) (by rfl)
theorem wM_X4_80 : Cond.methodLink RX4 80 yX4_hasHour ∈ fx_WS := fx_in3 (List.mem_of_getElem? (i := 91) (by rfl)) (by rfl)
theorem wM_X0_59 : Cond.methodLink RX0 59 yX0_aheadOf ∈ fx_WS := fx_in3 (List.mem_of_getElem? (i := 92) (by rfl)) (by rfl)
theorem wIn_X0_aheadOf : Cond.instanceMethod yX0_aheadOf ∈ fx_WS := fx_in3 (List.mem_of_getElem? (i := 93) (by rfl)) (by rfl)
theorem wSel_X0_aheadOf : Cond.selects yX0_aheadOf.cls yX0_aheadOf yX0_aheadOf ∈ fx_WS := fx_in3 (List.mem_of_getElem? (i := 94) (by rfl)) (by rfl)
theorem wCo_X0_aheadOf : Cond.code yX0_aheadOf cX0_aheadOf 3 (some (.array .int)) ∈ fx_WS := fx_in3 (List.mem_of_getElem? (i := 95) (by rfl)) (by rfl)
theorem wM_X0_63 : Cond.methodLink RX0 63 yX0_fine ∈ fx_WS := fx_in3 (List.mem_of_getElem? (i := 96) (by rfl)) (by rfl)
theorem wIn_X0_fine : Cond.instanceMethod yX0_fine ∈ fx_WS := fx_in3 (List.mem_of_getElem? (i := 97) (by rfl)) (by rfl)
theorem wSel_X0_fine : Cond.selects yX0_fine.cls yX0_fine yX0_fine ∈ fx_WS := fx_in3 (List.mem_of_getElem? (i := 98) (by rfl)) (by rfl)
theorem wCo_X0_fine : Cond.code yX0_fine cX0_fine 10 (some .int) ∈ fx_WS := fx_in3 (List.mem_of_getElem? (i := 99) (by rfl)) (by rfl)
theorem wM_X0_81 : Cond.methodLink RX0 81 yX0_isFined ∈ fx_WS := fx_in3 (List.mem_of_getElem? (i := 100) (by rfl)) (by rfl)
theorem wIn_X0_isFined : Cond.instanceMethod yX0_isFined ∈ fx_WS := fx_in3 (List.mem_of_getElem? (i := 102) (by rfl)) (by rfl)
theorem wCo_X0_isFined : Cond.code yX0_isFined cX0_isFined 3 (some .boolean) ∈ fx_WS := fx_in3 (List.mem_of_getElem? (i := 103) (by rfl)) (by rfl)
theorem wM_X0_85 : Cond.methodLink RX0 85 yX0_boughtBy ∈ fx_WS := fx_in3 (List.mem_of_getElem? (i := 104) (by rfl)) (by rfl)
theorem wIn_X0_boughtBy : Cond.instanceMethod yX0_boughtBy ∈ fx_WS := fx_in3 (List.mem_of_getElem? (i := 106) (by rfl)) (by rfl)
theorem wCo_X0_boughtBy : Cond.code yX0_boughtBy cX0_boughtBy 3 (some .int) ∈ fx_WS := fx_in3 (List.mem_of_getElem? (i := 107) (by rfl)) (by rfl)
theorem wM_X0_88 : Cond.methodLink RX0 88 yX0_wasDone ∈ fx_WS := fx_in3 (List.mem_of_getElem? (i := 108) (by rfl)) (by rfl)
theorem wIn_X0_wasDone : Cond.instanceMethod yX0_wasDone ∈ fx_WS := fx_in3 (List.mem_of_getElem? (i := 110) (by rfl)) (by rfl)
theorem wCo_X0_wasDone : Cond.code yX0_wasDone cX0_wasDone 5 (some .boolean) ∈ fx_WS := fx_in3 (List.mem_of_getElem? (i := 111) (by rfl)) (by rfl)
theorem wM_L_64 : Cond.methodLink RL 64 yX5_all ∈ fx_WS := fx_in3 (List.mem_of_getElem? (i := 112) (by rfl)) (by rfl)
theorem wIn_X5_all : Cond.instanceMethod yX5_all ∈ fx_WS := fx_in3 (List.mem_of_getElem? (i := 113) (by rfl)) (by rfl)
theorem wSel_X5_all : Cond.selects yX5_all.cls yX5_all yX5_all ∈ fx_WS := fx_in3 (List.mem_of_getElem? (i := 114) (by rfl)) (by rfl)
theorem wCo_X5_all : Cond.code yX5_all cX5_all 1 (some .int) ∈ fx_WS := fx_in3 (List.mem_of_getElem? (i := 115) (by rfl)) (by rfl)
theorem wM_X5_162 : Cond.methodLink RX5 162 yX5_allFines ∈ fx_WS := fx_in3 (List.mem_of_getElem? (i := 116) (by rfl)) (by rfl)
theorem wIn_X5_allFines : Cond.instanceMethod yX5_allFines ∈ fx_WS := fx_in3 (List.mem_of_getElem? (i := 118) (by rfl)) (by rfl)
theorem wCo_X5_allFines : Cond.code yX5_allFines cX5_allFines 2 (some .int) ∈ fx_WS := fx_in3 (List.mem_of_getElem? (i := 119) (by rfl)) (by rfl)
theorem wM_X5_194 : Cond.methodLink RX5 194 yX0_finesOf ∈ fx_WS := fx_in3 (List.mem_of_getElem? (i := 120) (by rfl)) (by rfl)
theorem wIn_X0_finesOf : Cond.instanceMethod yX0_finesOf ∈ fx_WS := fx_in3 (List.mem_of_getElem? (i := 121) (by rfl)) (by rfl)
theorem wSel_X0_finesOf : Cond.selects yX0_finesOf.cls yX0_finesOf yX0_finesOf ∈ fx_WS := fx_in3 (List.mem_of_getElem? (i := 122) (by rfl)) (by rfl)
theorem wCo_X0_finesOf : Cond.code yX0_finesOf cX0_finesOf 6 (some .int) ∈ fx_WS := fx_in3 (List.mem_of_getElem? (i := 123) (by rfl)) (by rfl)
theorem wM_X0_67 : Cond.methodLink RX0 67 yX0_finesOfHour ∈ fx_WS := fx_in3 (List.mem_of_getElem? (i := 124) (by rfl)) (by rfl)
theorem wIn_X0_finesOfHour : Cond.instanceMethod yX0_finesOfHour ∈ fx_WS := fx_in3 (List.mem_of_getElem? (i := 126) (by rfl)) (by rfl)
theorem wCo_X0_finesOfHour : Cond.code yX0_finesOfHour cX0_finesOfHour 6 (some .int) ∈ fx_WS := fx_in3 (List.mem_of_getElem? (i := 127) (by rfl)) (by rfl)
theorem wM_L_68 : Cond.methodLink RL 68 yX5_least ∈ fx_WS := fx_in3 (List.mem_of_getElem? (i := 128) (by rfl)) (by rfl)
theorem wIn_X5_least : Cond.instanceMethod yX5_least ∈ fx_WS := fx_in3 (List.mem_of_getElem? (i := 129) (by rfl)) (by rfl)
theorem wSel_X5_least : Cond.selects yX5_least.cls yX5_least yX5_least ∈ fx_WS := fx_in3 (List.mem_of_getElem? (i := 130) (by rfl)) (by rfl)
theorem wCo_X5_least : Cond.code yX5_least cX5_least 5 (some .int) ∈ fx_WS := fx_in3 (List.mem_of_getElem? (i := 131) (by rfl)) (by rfl)
theorem wM_X5_165 : Cond.methodLink RX5 165 yX1_findLeast ∈ fx_WS := fx_in3 (List.mem_of_getElem? (i := 132) (by rfl)) (by rfl)
theorem wIn_X1_findLeast : Cond.instanceMethod yX1_findLeast ∈ fx_WS := fx_in3 (List.mem_of_getElem? (i := 133) (by rfl)) (by rfl)
theorem wSel_X1_findLeast : Cond.selects yX1_findLeast.cls yX1_findLeast yX1_findLeast ∈ fx_WS := fx_in3 (List.mem_of_getElem? (i := 134) (by rfl)) (by rfl)
theorem wCo_X1_findLeast : Cond.code yX1_findLeast cX1_findLeast 4 (some .boolean) ∈ fx_WS := fx_in3 (List.mem_of_getElem? (i := 135) (by rfl)) (by rfl)
theorem wM_X1_57 : Cond.methodLink RX1 57 yX1_writeRows ∈ fx_WS := fx_in3 (List.mem_of_getElem? (i := 136) (by rfl)) (by rfl)
theorem wIn_X1_writeRows : Cond.instanceMethod yX1_writeRows ∈ fx_WS := fx_in3 (List.mem_of_getElem? (i := 138) (by rfl)) (by rfl)
theorem wCo_X1_writeRows : Cond.code yX1_writeRows cX1_writeRows 4 none ∈ fx_WS := fx_in3 (List.mem_of_getElem? (i := 139) (by rfl)) (by rfl)
theorem wM_X1_173 : Cond.methodLink RX1 173 yX4_needed ∈ fx_WS := fx_in3 (List.mem_of_getElem? (i := 140) (by rfl)) (by rfl)
theorem wM_X1_176 : Cond.methodLink RX1 176 yX1_writeRowsOf ∈ fx_WS := fx_in3 (List.mem_of_getElem? (i := 141) (by rfl)) (by rfl)
theorem wIn_X1_writeRowsOf : Cond.instanceMethod yX1_writeRowsOf ∈ fx_WS := fx_in3 (List.mem_of_getElem? (i := 143) (by rfl)) (by rfl)
theorem wCo_X1_writeRowsOf : Cond.code yX1_writeRowsOf cX1_writeRowsOf 5 none ∈ fx_WS := fx_in3 (List.mem_of_getElem? (i := 144) (by rfl)) (by rfl)
theorem wM_X1_180 : Cond.methodLink RX1 180 yX1_writeFirstRow ∈ fx_WS := fx_in3 (List.mem_of_getElem? (i := 145) (by rfl)) (by rfl)
theorem wIn_X1_writeFirstRow : Cond.instanceMethod yX1_writeFirstRow ∈ fx_WS := fx_in3 (List.mem_of_getElem? (i := 147) (by rfl)) (by rfl)
theorem wCo_X1_writeFirstRow : Cond.code yX1_writeFirstRow cX1_writeFirstRow 7 none ∈ fx_WS := fx_in3 (List.mem_of_getElem? (i := 148) (by rfl)) (by rfl)
theorem wM_X1_183 : Cond.methodLink RX1 183 yJ7_fill_53178 ∈ fx_WS := fx_in3 (List.mem_of_getElem? (i := 149) (by rfl)) (by rfl)
theorem wM_X1_167 : Cond.methodLink RX1 167 arraycopyName ∈ fx_WS := fx_in3 (List.mem_of_getElem? (i := 150) (by rfl)) (by rfl)
theorem wSt_X5_nextOrder : Cond.static yX5_nextOrder ∈ fx_WS := fx_in3 (List.mem_of_getElem? (i := 152) (by rfl)) (by rfl)
theorem wCo_X5_nextOrder : Cond.code yX5_nextOrder cX5_nextOrder 6 (some .boolean) ∈ fx_WS := fx_in3 (List.mem_of_getElem? (i := 153) (by rfl)) (by rfl)
theorem wM_X5_270 : Cond.methodLink RX5 270 yX5_swap ∈ fx_WS := fx_in3 (List.mem_of_getElem? (i := 154) (by rfl)) (by rfl)
theorem wSt_X5_swap : Cond.static yX5_swap ∈ fx_WS := fx_in3 (List.mem_of_getElem? (i := 155) (by rfl)) (by rfl)
theorem wCo_X5_swap : Cond.code yX5_swap cX5_swap 4 none ∈ fx_WS := fx_in3 (List.mem_of_getElem? (i := 156) (by rfl)) (by rfl)
theorem wM_X1_61 : Cond.methodLink RX1 61 yX1_waysTogether ∈ fx_WS := fx_in3 (List.mem_of_getElem? (i := 157) (by rfl)) (by rfl)
theorem wIn_X1_waysTogether : Cond.instanceMethod yX1_waysTogether ∈ fx_WS := fx_in3 (List.mem_of_getElem? (i := 159) (by rfl)) (by rfl)
theorem wCo_X1_waysTogether : Cond.code yX1_waysTogether cX1_waysTogether 5 (some .long) ∈ fx_WS := fx_in3 (List.mem_of_getElem? (i := 160) (by rfl)) (by rfl)
theorem wK_X1_65 : Cond.constantLong RX1 65 (50000) ∈ fx_WS := fx_in3 (List.mem_of_getElem? (i := 161) (by rfl)) (by rfl)
theorem wK_X1_67 : Cond.constant RX1 67 (1000000) ∈ fx_WS := fx_in3 (List.mem_of_getElem? (i := 162) (by rfl)) (by rfl)
theorem wM_X1_68 : Cond.methodLink RX1 68 yX1_search ∈ fx_WS := fx_in3 (List.mem_of_getElem? (i := 163) (by rfl)) (by rfl)
theorem wIn_X1_search : Cond.instanceMethod yX1_search ∈ fx_WS := fx_in3 (List.mem_of_getElem? (i := 165) (by rfl)) (by rfl)
theorem wCo_X1_search : Cond.code yX1_search cX1_search 9 (some .int) ∈ fx_WS := fx_in3 (List.mem_of_getElem? (i := 166) (by rfl)) (by rfl)
theorem wM_X1_124 : Cond.methodLink RX1 124 yX1_clearDay ∈ fx_WS := fx_in3 (List.mem_of_getElem? (i := 167) (by rfl)) (by rfl)
theorem wIn_X1_clearDay : Cond.instanceMethod yX1_clearDay ∈ fx_WS := fx_in3 (List.mem_of_getElem? (i := 169) (by rfl)) (by rfl)
theorem wCo_X1_clearDay : Cond.code yX1_clearDay cX1_clearDay 2 none ∈ fx_WS := fx_in3 (List.mem_of_getElem? (i := 170) (by rfl)) (by rfl)
theorem wM_X1_159 : Cond.methodLink RX1 159 yX1_liftRow ∈ fx_WS := fx_in3 (List.mem_of_getElem? (i := 171) (by rfl)) (by rfl)
theorem wIn_X1_liftRow : Cond.instanceMethod yX1_liftRow ∈ fx_WS := fx_in3 (List.mem_of_getElem? (i := 173) (by rfl)) (by rfl)
theorem wCo_X1_liftRow : Cond.code yX1_liftRow cX1_liftRow 3 none ∈ fx_WS := fx_in3 (List.mem_of_getElem? (i := 174) (by rfl)) (by rfl)
theorem wM_X1_155 : Cond.methodLink RX1 155 yX1_startPerson ∈ fx_WS := fx_in3 (List.mem_of_getElem? (i := 175) (by rfl)) (by rfl)
theorem wIn_X1_startPerson : Cond.instanceMethod yX1_startPerson ∈ fx_WS := fx_in3 (List.mem_of_getElem? (i := 177) (by rfl)) (by rfl)
theorem wCo_X1_startPerson : Cond.code yX1_startPerson cX1_startPerson 6 none ∈ fx_WS := fx_in3 (List.mem_of_getElem? (i := 178) (by rfl)) (by rfl)
theorem wM_X1_163 : Cond.methodLink RX1 163 yX1_setPricesToAll ∈ fx_WS := fx_in3 (List.mem_of_getElem? (i := 179) (by rfl)) (by rfl)
theorem wIn_X1_setPricesToAll : Cond.instanceMethod yX1_setPricesToAll ∈ fx_WS := fx_in3 (List.mem_of_getElem? (i := 181) (by rfl)) (by rfl)
theorem wCo_X1_setPricesToAll : Cond.code yX1_setPricesToAll cX1_setPricesToAll 7 none ∈ fx_WS := fx_in3 (List.mem_of_getElem? (i := 182) (by rfl)) (by rfl)
theorem wM_X1_151 : Cond.methodLink RX1 151 yX0_added ∈ fx_WS := fx_in3 (List.mem_of_getElem? (i := 183) (by rfl)) (by rfl)
theorem wIn_X0_added : Cond.instanceMethod yX0_added ∈ fx_WS := fx_in3 (List.mem_of_getElem? (i := 184) (by rfl)) (by rfl)
theorem wSel_X0_added : Cond.selects yX0_added.cls yX0_added yX0_added ∈ fx_WS := fx_in3 (List.mem_of_getElem? (i := 185) (by rfl)) (by rfl)
theorem wCo_X0_added : Cond.code yX0_added cX0_added 8 (some .int) ∈ fx_WS := fx_in3 (List.mem_of_getElem? (i := 186) (by rfl)) (by rfl)
theorem wM_X0_95 : Cond.methodLink RX0 95 yX0_othersWith ∈ fx_WS := fx_in3 (List.mem_of_getElem? (i := 189) (by rfl)) (by rfl)
theorem wIn_X0_othersWith : Cond.instanceMethod yX0_othersWith ∈ fx_WS := fx_in3 (List.mem_of_getElem? (i := 191) (by rfl)) (by rfl)
theorem wCo_X0_othersWith : Cond.code yX0_othersWith cX0_othersWith 7 (some .int) ∈ fx_WS := fx_in3 (List.mem_of_getElem? (i := 192) (by rfl)) (by rfl)
theorem wM_X0_99 : Cond.methodLink RX0 99 yX0_addedToCopies ∈ fx_WS := fx_in3 (List.mem_of_getElem? (i := 193) (by rfl)) (by rfl)
theorem wIn_X0_addedToCopies : Cond.instanceMethod yX0_addedToCopies ∈ fx_WS := fx_in3 (List.mem_of_getElem? (i := 195) (by rfl)) (by rfl)
theorem wCo_X0_addedToCopies : Cond.code yX0_addedToCopies cX0_addedToCopies 7 (some .int) ∈ fx_WS := fx_in3 (List.mem_of_getElem? (i := 196) (by rfl)) (by rfl)
theorem wM_X1_113 : Cond.methodLink RX1 113 yX1_priceOfRow ∈ fx_WS := fx_in3 (List.mem_of_getElem? (i := 197) (by rfl)) (by rfl)
theorem wIn_X1_priceOfRow : Cond.instanceMethod yX1_priceOfRow ∈ fx_WS := fx_in3 (List.mem_of_getElem? (i := 199) (by rfl)) (by rfl)
theorem wCo_X1_priceOfRow : Cond.code yX1_priceOfRow cX1_priceOfRow 6 (some .int) ∈ fx_WS := fx_in3 (List.mem_of_getElem? (i := 200) (by rfl)) (by rfl)
theorem wM_X1_120 : Cond.methodLink RX1 120 yX1_layRow ∈ fx_WS := fx_in3 (List.mem_of_getElem? (i := 201) (by rfl)) (by rfl)
theorem wIn_X1_layRow : Cond.instanceMethod yX1_layRow ∈ fx_WS := fx_in3 (List.mem_of_getElem? (i := 203) (by rfl)) (by rfl)
theorem wCo_X1_layRow : Cond.code yX1_layRow cX1_layRow 5 none ∈ fx_WS := fx_in3 (List.mem_of_getElem? (i := 204) (by rfl)) (by rfl)
theorem wM_X1_75 : Cond.methodLink RX1 75 yX1_copyDay ∈ fx_WS := fx_in3 (List.mem_of_getElem? (i := 205) (by rfl)) (by rfl)
theorem wSt_X1_copyDay : Cond.static yX1_copyDay ∈ fx_WS := fx_in3 (List.mem_of_getElem? (i := 206) (by rfl)) (by rfl)
theorem wCo_X1_copyDay : Cond.code yX1_copyDay cX1_copyDay 3 none ∈ fx_WS := fx_in3 (List.mem_of_getElem? (i := 207) (by rfl)) (by rfl)
theorem wM_L_72 : Cond.methodLink RL 72 yX5_fewest ∈ fx_WS := fx_in3 (List.mem_of_getElem? (i := 208) (by rfl)) (by rfl)
theorem wIn_X5_fewest : Cond.instanceMethod yX5_fewest ∈ fx_WS := fx_in3 (List.mem_of_getElem? (i := 209) (by rfl)) (by rfl)
theorem wSel_X5_fewest : Cond.selects yX5_fewest.cls yX5_fewest yX5_fewest ∈ fx_WS := fx_in3 (List.mem_of_getElem? (i := 210) (by rfl)) (by rfl)
theorem wCo_X5_fewest : Cond.code yX5_fewest cX5_fewest 2 (some .int) ∈ fx_WS := fx_in3 (List.mem_of_getElem? (i := 211) (by rfl)) (by rfl)
theorem wM_X5_175 : Cond.methodLink RX5 175 yX1_fewestHours ∈ fx_WS := fx_in3 (List.mem_of_getElem? (i := 212) (by rfl)) (by rfl)
theorem wIn_X1_fewestHours : Cond.instanceMethod yX1_fewestHours ∈ fx_WS := fx_in3 (List.mem_of_getElem? (i := 213) (by rfl)) (by rfl)
theorem wSel_X1_fewestHours : Cond.selects yX1_fewestHours.cls yX1_fewestHours yX1_fewestHours ∈ fx_WS := fx_in3 (List.mem_of_getElem? (i := 214) (by rfl)) (by rfl)
theorem wCo_X1_fewestHours : Cond.code yX1_fewestHours cX1_fewestHours 4 (some .int) ∈ fx_WS := fx_in3 (List.mem_of_getElem? (i := 215) (by rfl)) (by rfl)
theorem wM_L_76 : Cond.methodLink RL 76 yX5_list ∈ fx_WS := fx_in3 (List.mem_of_getElem? (i := 216) (by rfl)) (by rfl)
theorem wIn_X5_list : Cond.instanceMethod yX5_list ∈ fx_WS := fx_in3 (List.mem_of_getElem? (i := 217) (by rfl)) (by rfl)
theorem wSel_X5_list : Cond.selects yX5_list.cls yX5_list yX5_list ∈ fx_WS := fx_in3 (List.mem_of_getElem? (i := 218) (by rfl)) (by rfl)
theorem wCo_X5_list : Cond.code yX5_list cX5_list 2 (some .int) ∈ fx_WS := fx_in3 (List.mem_of_getElem? (i := 219) (by rfl)) (by rfl)
theorem wM_X5_179 : Cond.methodLink RX5 179 yX1_finesByNumber ∈ fx_WS := fx_in3 (List.mem_of_getElem? (i := 220) (by rfl)) (by rfl)
theorem wIn_X1_finesByNumber : Cond.instanceMethod yX1_finesByNumber ∈ fx_WS := fx_in3 (List.mem_of_getElem? (i := 221) (by rfl)) (by rfl)
theorem wSel_X1_finesByNumber : Cond.selects yX1_finesByNumber.cls yX1_finesByNumber yX1_finesByNumber ∈ fx_WS := fx_in3 (List.mem_of_getElem? (i := 222) (by rfl)) (by rfl)
theorem wCo_X1_finesByNumber : Cond.code yX1_finesByNumber cX1_finesByNumber 4 (some .int) ∈ fx_WS := fx_in3 (List.mem_of_getElem? (i := 223) (by rfl)) (by rfl)
theorem wM_X1_79 : Cond.methodLink RX1 79 yX1_finesInOrder ∈ fx_WS := fx_in3 (List.mem_of_getElem? (i := 224) (by rfl)) (by rfl)
theorem wIn_X1_finesInOrder : Cond.instanceMethod yX1_finesInOrder ∈ fx_WS := fx_in3 (List.mem_of_getElem? (i := 226) (by rfl)) (by rfl)
theorem wCo_X1_finesInOrder : Cond.code yX1_finesInOrder cX1_finesInOrder 4 (some .int) ∈ fx_WS := fx_in3 (List.mem_of_getElem? (i := 227) (by rfl)) (by rfl)
theorem wM_X1_106 : Cond.methodLink RX1 106 yX1_setPrices ∈ fx_WS := fx_in3 (List.mem_of_getElem? (i := 228) (by rfl)) (by rfl)
theorem wIn_X1_setPrices : Cond.instanceMethod yX1_setPrices ∈ fx_WS := fx_in3 (List.mem_of_getElem? (i := 230) (by rfl)) (by rfl)
theorem wCo_X1_setPrices : Cond.code yX1_setPrices cX1_setPrices 8 none ∈ fx_WS := fx_in3 (List.mem_of_getElem? (i := 231) (by rfl)) (by rfl)
theorem wM_X1_133 : Cond.methodLink RX1 133 yX4_kindOf ∈ fx_WS := fx_in3 (List.mem_of_getElem? (i := 232) (by rfl)) (by rfl)
theorem wM_X1_137 : Cond.methodLink RX1 137 yX0_aheadOf ∈ fx_WS := fx_in3 (List.mem_of_getElem? (i := 233) (by rfl)) (by rfl)
theorem wM_X1_144 : Cond.methodLink RX1 144 yX0_fine ∈ fx_WS := fx_in3 (List.mem_of_getElem? (i := 234) (by rfl)) (by rfl)
theorem wM_X1_110 : Cond.methodLink RX1 110 yX1_bestRow ∈ fx_WS := fx_in3 (List.mem_of_getElem? (i := 235) (by rfl)) (by rfl)
theorem wIn_X1_bestRow : Cond.instanceMethod yX1_bestRow ∈ fx_WS := fx_in3 (List.mem_of_getElem? (i := 237) (by rfl)) (by rfl)
theorem wCo_X1_bestRow : Cond.code yX1_bestRow cX1_bestRow 7 (some .int) ∈ fx_WS := fx_in3 (List.mem_of_getElem? (i := 238) (by rfl)) (by rfl)
theorem wM_X1_127 : Cond.methodLink RX1 127 yX0_finesOf ∈ fx_WS := fx_in3 (List.mem_of_getElem? (i := 239) (by rfl)) (by rfl)
theorem wM_X5_182 : Cond.methodLink RX5 182 yX1_finesByWorstOrder ∈ fx_WS := fx_in4 (List.mem_of_getElem? (i := 0) (by rfl)) (by rfl)
theorem wIn_X1_finesByWorstOrder : Cond.instanceMethod yX1_finesByWorstOrder ∈ fx_WS := fx_in4 (List.mem_of_getElem? (i := 1) (by rfl)) (by rfl)
theorem wSel_X1_finesByWorstOrder : Cond.selects yX1_finesByWorstOrder.cls yX1_finesByWorstOrder yX1_finesByWorstOrder ∈ fx_WS := fx_in4 (List.mem_of_getElem? (i := 2) (by rfl)) (by rfl)
theorem wCo_X1_finesByWorstOrder : Cond.code yX1_finesByWorstOrder cX1_finesByWorstOrder 5 (some .int) ∈ fx_WS := fx_in4 (List.mem_of_getElem? (i := 3) (by rfl)) (by rfl)
theorem wM_X1_83 : Cond.methodLink RX1 83 yX1_finesByNumber ∈ fx_WS := fx_in4 (List.mem_of_getElem? (i := 4) (by rfl)) (by rfl)
theorem wM_X1_93 : Cond.methodLink RX1 93 Lib.Math.max.name ∈ fx_WS := fx_in4 (List.mem_of_getElem? (i := 5) (by rfl)) (by rfl)
theorem wSt_max : Cond.static Lib.Math.max.name ∈ fx_WS := fx_in4 (List.mem_of_getElem? (i := 6) (by rfl)) (by rfl)
theorem wCo_max : Cond.code Lib.Math.max.name Lib.Math.max.code 2 (some .int) ∈ fx_WS := fx_in4 (List.mem_of_getElem? (i := 7) (by rfl)) (by rfl)
theorem wM_L_80 : Cond.methodLink RL 80 yX5_rests ∈ fx_WS := fx_in4 (List.mem_of_getElem? (i := 8) (by rfl)) (by rfl)
theorem wIn_X5_rests : Cond.instanceMethod yX5_rests ∈ fx_WS := fx_in4 (List.mem_of_getElem? (i := 9) (by rfl)) (by rfl)
theorem wSel_X5_rests : Cond.selects yX5_rests.cls yX5_rests yX5_rests ∈ fx_WS := fx_in4 (List.mem_of_getElem? (i := 10) (by rfl)) (by rfl)
theorem wCo_X5_rests : Cond.code yX5_rests cX5_rests 3 (some .int) ∈ fx_WS := fx_in4 (List.mem_of_getElem? (i := 11) (by rfl)) (by rfl)
theorem wM_X5_185 : Cond.methodLink RX5 185 yX1_roundOfRest ∈ fx_WS := fx_in4 (List.mem_of_getElem? (i := 12) (by rfl)) (by rfl)
theorem wIn_X1_roundOfRest : Cond.instanceMethod yX1_roundOfRest ∈ fx_WS := fx_in4 (List.mem_of_getElem? (i := 13) (by rfl)) (by rfl)
theorem wSel_X1_roundOfRest : Cond.selects yX1_roundOfRest.cls yX1_roundOfRest yX1_roundOfRest ∈ fx_WS := fx_in4 (List.mem_of_getElem? (i := 14) (by rfl)) (by rfl)
theorem wCo_X1_roundOfRest : Cond.code yX1_roundOfRest cX1_roundOfRest 4 (some .int) ∈ fx_WS := fx_in4 (List.mem_of_getElem? (i := 15) (by rfl)) (by rfl)
theorem wM_X1_102 : Cond.methodLink RX1 102 yX1_anyoneChanges ∈ fx_WS := fx_in4 (List.mem_of_getElem? (i := 16) (by rfl)) (by rfl)
theorem wIn_X1_anyoneChanges : Cond.instanceMethod yX1_anyoneChanges ∈ fx_WS := fx_in4 (List.mem_of_getElem? (i := 18) (by rfl)) (by rfl)
theorem wCo_X1_anyoneChanges : Cond.code yX1_anyoneChanges cX1_anyoneChanges 6 (some .boolean) ∈ fx_WS := fx_in4 (List.mem_of_getElem? (i := 19) (by rfl)) (by rfl)
theorem wM_X1_117 : Cond.methodLink RX1 117 yX1_priceOfNow ∈ fx_WS := fx_in4 (List.mem_of_getElem? (i := 20) (by rfl)) (by rfl)
theorem wIn_X1_priceOfNow : Cond.instanceMethod yX1_priceOfNow ∈ fx_WS := fx_in4 (List.mem_of_getElem? (i := 22) (by rfl)) (by rfl)
theorem wCo_X1_priceOfNow : Cond.code yX1_priceOfNow cX1_priceOfNow 5 (some .int) ∈ fx_WS := fx_in4 (List.mem_of_getElem? (i := 23) (by rfl)) (by rfl)
theorem wM_L_84 : Cond.methodLink RL 84 yX5_better ∈ fx_WS := fx_in4 (List.mem_of_getElem? (i := 24) (by rfl)) (by rfl)
theorem wIn_X5_better : Cond.instanceMethod yX5_better ∈ fx_WS := fx_in4 (List.mem_of_getElem? (i := 25) (by rfl)) (by rfl)
theorem wSel_X5_better : Cond.selects yX5_better.cls yX5_better yX5_better ∈ fx_WS := fx_in4 (List.mem_of_getElem? (i := 26) (by rfl)) (by rfl)
theorem wCo_X5_better : Cond.code yX5_better cX5_better 7 (some .int) ∈ fx_WS := fx_in4 (List.mem_of_getElem? (i := 27) (by rfl)) (by rfl)
theorem wK_X5_198 : Cond.constant RX5 198 (1000000) ∈ fx_WS := fx_in4 (List.mem_of_getElem? (i := 28) (by rfl)) (by rfl)
theorem wM_L_88 : Cond.methodLink RL 88 yX5_name ∈ fx_WS := fx_in4 (List.mem_of_getElem? (i := 29) (by rfl)) (by rfl)
theorem wIn_X5_name : Cond.instanceMethod yX5_name ∈ fx_WS := fx_in4 (List.mem_of_getElem? (i := 30) (by rfl)) (by rfl)
theorem wSel_X5_name : Cond.selects yX5_name.cls yX5_name yX5_name ∈ fx_WS := fx_in4 (List.mem_of_getElem? (i := 31) (by rfl)) (by rfl)
theorem wCo_X5_name : Cond.code yX5_name cX5_name 2 (some .int) ∈ fx_WS := fx_in4 (List.mem_of_getElem? (i := 32) (by rfl)) (by rfl)
theorem wM_L_92 : Cond.methodLink RL 92 yX5_line ∈ fx_WS := fx_in4 (List.mem_of_getElem? (i := 33) (by rfl)) (by rfl)
theorem wIn_X5_line : Cond.instanceMethod yX5_line ∈ fx_WS := fx_in4 (List.mem_of_getElem? (i := 34) (by rfl)) (by rfl)
theorem wSel_X5_line : Cond.selects yX5_line.cls yX5_line yX5_line ∈ fx_WS := fx_in4 (List.mem_of_getElem? (i := 35) (by rfl)) (by rfl)
theorem wCo_X5_line : Cond.code yX5_line cX5_line 6 (some .int) ∈ fx_WS := fx_in4 (List.mem_of_getElem? (i := 36) (by rfl)) (by rfl)
theorem wM_X5_199 : Cond.methodLink RX5 199 yX5_finesOfOne ∈ fx_WS := fx_in4 (List.mem_of_getElem? (i := 37) (by rfl)) (by rfl)
theorem wIn_X5_finesOfOne : Cond.instanceMethod yX5_finesOfOne ∈ fx_WS := fx_in4 (List.mem_of_getElem? (i := 39) (by rfl)) (by rfl)
theorem wCo_X5_finesOfOne : Cond.code yX5_finesOfOne cX5_finesOfOne 4 (some .int) ∈ fx_WS := fx_in4 (List.mem_of_getElem? (i := 40) (by rfl)) (by rfl)
theorem wM_L_96 : Cond.methodLink RL 96 yX5_choir ∈ fx_WS := fx_in4 (List.mem_of_getElem? (i := 41) (by rfl)) (by rfl)
theorem wIn_X5_choir : Cond.instanceMethod yX5_choir ∈ fx_WS := fx_in4 (List.mem_of_getElem? (i := 42) (by rfl)) (by rfl)
theorem wSel_X5_choir : Cond.selects yX5_choir.cls yX5_choir yX5_choir ∈ fx_WS := fx_in4 (List.mem_of_getElem? (i := 43) (by rfl)) (by rfl)
theorem wCo_X5_choir : Cond.code yX5_choir cX5_choir 3 (some .int) ∈ fx_WS := fx_in4 (List.mem_of_getElem? (i := 44) (by rfl)) (by rfl)
theorem wM_X5_205 : Cond.methodLink RX5 205 yX0_leastOfChoir ∈ fx_WS := fx_in4 (List.mem_of_getElem? (i := 45) (by rfl)) (by rfl)
theorem wIn_X0_leastOfChoir : Cond.instanceMethod yX0_leastOfChoir ∈ fx_WS := fx_in4 (List.mem_of_getElem? (i := 46) (by rfl)) (by rfl)
theorem wSel_X0_leastOfChoir : Cond.selects yX0_leastOfChoir.cls yX0_leastOfChoir yX0_leastOfChoir ∈ fx_WS := fx_in4 (List.mem_of_getElem? (i := 47) (by rfl)) (by rfl)
theorem wCo_X0_leastOfChoir : Cond.code yX0_leastOfChoir cX0_leastOfChoir 6 (some .int) ∈ fx_WS := fx_in4 (List.mem_of_getElem? (i := 48) (by rfl)) (by rfl)
theorem wK_X0_71 : Cond.constant RX0 71 (1000000) ∈ fx_WS := fx_in4 (List.mem_of_getElem? (i := 49) (by rfl)) (by rfl)
theorem wM_X0_75 : Cond.methodLink RX0 75 Lib.Math.min.name ∈ fx_WS := fx_in4 (List.mem_of_getElem? (i := 50) (by rfl)) (by rfl)
theorem wM_L_100 : Cond.methodLink RL 100 yX5_told ∈ fx_WS := fx_in4 (List.mem_of_getElem? (i := 51) (by rfl)) (by rfl)
theorem wIn_X5_told : Cond.instanceMethod yX5_told ∈ fx_WS := fx_in4 (List.mem_of_getElem? (i := 52) (by rfl)) (by rfl)
theorem wSel_X5_told : Cond.selects yX5_told.cls yX5_told yX5_told ∈ fx_WS := fx_in4 (List.mem_of_getElem? (i := 53) (by rfl)) (by rfl)
theorem wCo_X5_told : Cond.code yX5_told cX5_told 4 (some .int) ∈ fx_WS := fx_in4 (List.mem_of_getElem? (i := 54) (by rfl)) (by rfl)
theorem wM_L_104 : Cond.methodLink RL 104 yX5_did ∈ fx_WS := fx_in4 (List.mem_of_getElem? (i := 55) (by rfl)) (by rfl)
theorem wIn_X5_did : Cond.instanceMethod yX5_did ∈ fx_WS := fx_in4 (List.mem_of_getElem? (i := 56) (by rfl)) (by rfl)
theorem wSel_X5_did : Cond.selects yX5_did.cls yX5_did yX5_did ∈ fx_WS := fx_in4 (List.mem_of_getElem? (i := 57) (by rfl)) (by rfl)
theorem wCo_X5_did : Cond.code yX5_did cX5_did 3 (some .int) ∈ fx_WS := fx_in4 (List.mem_of_getElem? (i := 58) (by rfl)) (by rfl)
theorem wM_X5_212 : Cond.methodLink RX5 212 yX2_findWays ∈ fx_WS := fx_in4 (List.mem_of_getElem? (i := 59) (by rfl)) (by rfl)
theorem wIn_X2_findWays : Cond.instanceMethod yX2_findWays ∈ fx_WS := fx_in4 (List.mem_of_getElem? (i := 60) (by rfl)) (by rfl)
theorem wSel_X2_findWays : Cond.selects yX2_findWays.cls yX2_findWays yX2_findWays ∈ fx_WS := fx_in4 (List.mem_of_getElem? (i := 61) (by rfl)) (by rfl)
theorem wCo_X2_findWays : Cond.code yX2_findWays cX2_findWays 7 none ∈ fx_WS := fx_in4 (List.mem_of_getElem? (i := 62) (by rfl)) (by rfl)
theorem wM_X2_31 : Cond.methodLink RX2 31 yJ7_fill_53178 ∈ fx_WS := fx_in4 (List.mem_of_getElem? (i := 63) (by rfl)) (by rfl)
theorem wK_X2_37 : Cond.constant RX2 37 (1000000) ∈ fx_WS := fx_in4 (List.mem_of_getElem? (i := 64) (by rfl)) (by rfl)
theorem wM_X2_43 : Cond.methodLink RX2 43 yX2_mayHavePaid ∈ fx_WS := fx_in4 (List.mem_of_getElem? (i := 65) (by rfl)) (by rfl)
theorem wIn_X2_mayHavePaid : Cond.instanceMethod yX2_mayHavePaid ∈ fx_WS := fx_in4 (List.mem_of_getElem? (i := 67) (by rfl)) (by rfl)
theorem wCo_X2_mayHavePaid : Cond.code yX2_mayHavePaid cX2_mayHavePaid 12 (some .boolean) ∈ fx_WS := fx_in4 (List.mem_of_getElem? (i := 68) (by rfl)) (by rfl)
theorem wM_X2_53 : Cond.methodLink RX2 53 yX4_kindOf ∈ fx_WS := fx_in4 (List.mem_of_getElem? (i := 69) (by rfl)) (by rfl)
theorem wM_X2_61 : Cond.methodLink RX2 61 yX0_aheadOf ∈ fx_WS := fx_in4 (List.mem_of_getElem? (i := 70) (by rfl)) (by rfl)
theorem wM_X2_67 : Cond.methodLink RX2 67 yX0_fine ∈ fx_WS := fx_in4 (List.mem_of_getElem? (i := 71) (by rfl)) (by rfl)
theorem wM_X2_50 : Cond.methodLink RX2 50 yX2_countWay ∈ fx_WS := fx_in4 (List.mem_of_getElem? (i := 74) (by rfl)) (by rfl)
theorem wIn_X2_countWay : Cond.instanceMethod yX2_countWay ∈ fx_WS := fx_in4 (List.mem_of_getElem? (i := 76) (by rfl)) (by rfl)
theorem wCo_X2_countWay : Cond.code yX2_countWay cX2_countWay 1 none ∈ fx_WS := fx_in4 (List.mem_of_getElem? (i := 77) (by rfl)) (by rfl)
theorem wM_X2_77 : Cond.methodLink RX2 77 arraycopyName ∈ fx_WS := fx_in4 (List.mem_of_getElem? (i := 78) (by rfl)) (by rfl)
theorem wM_L_108 : Cond.methodLink RL 108 yX5_copied ∈ fx_WS := fx_in4 (List.mem_of_getElem? (i := 79) (by rfl)) (by rfl)
theorem wIn_X5_copied : Cond.instanceMethod yX5_copied ∈ fx_WS := fx_in4 (List.mem_of_getElem? (i := 80) (by rfl)) (by rfl)
theorem wSel_X5_copied : Cond.selects yX5_copied.cls yX5_copied yX5_copied ∈ fx_WS := fx_in4 (List.mem_of_getElem? (i := 81) (by rfl)) (by rfl)
theorem wCo_X5_copied : Cond.code yX5_copied cX5_copied 6 (some .int) ∈ fx_WS := fx_in4 (List.mem_of_getElem? (i := 82) (by rfl)) (by rfl)
theorem wM_X5_222 : Cond.methodLink RX5 222 yX5_timesCopied ∈ fx_WS := fx_in4 (List.mem_of_getElem? (i := 83) (by rfl)) (by rfl)
theorem wIn_X5_timesCopied : Cond.instanceMethod yX5_timesCopied ∈ fx_WS := fx_in4 (List.mem_of_getElem? (i := 85) (by rfl)) (by rfl)
theorem wCo_X5_timesCopied : Cond.code yX5_timesCopied cX5_timesCopied 6 (some .int) ∈ fx_WS := fx_in4 (List.mem_of_getElem? (i := 86) (by rfl)) (by rfl)
theorem wM_L_112 : Cond.methodLink RL 112 yX5_crowd ∈ fx_WS := fx_in4 (List.mem_of_getElem? (i := 87) (by rfl)) (by rfl)
theorem wIn_X5_crowd : Cond.instanceMethod yX5_crowd ∈ fx_WS := fx_in4 (List.mem_of_getElem? (i := 88) (by rfl)) (by rfl)
theorem wSel_X5_crowd : Cond.selects yX5_crowd.cls yX5_crowd yX5_crowd ∈ fx_WS := fx_in4 (List.mem_of_getElem? (i := 89) (by rfl)) (by rfl)
theorem wCo_X5_crowd : Cond.code yX5_crowd cX5_crowd 10 (some .int) ∈ fx_WS := fx_in4 (List.mem_of_getElem? (i := 90) (by rfl)) (by rfl)
theorem wM_X5_225 : Cond.methodLink RX5 225 yX5_crowdsOfAtLeast ∈ fx_WS := fx_in4 (List.mem_of_getElem? (i := 91) (by rfl)) (by rfl)
theorem wSt_X5_crowdsOfAtLeast : Cond.static yX5_crowdsOfAtLeast ∈ fx_WS := fx_in4 (List.mem_of_getElem? (i := 92) (by rfl)) (by rfl)
theorem wCo_X5_crowdsOfAtLeast : Cond.code yX5_crowdsOfAtLeast cX5_crowdsOfAtLeast 10 (some .long) ∈ fx_WS := fx_in4 (List.mem_of_getElem? (i := 93) (by rfl)) (by rfl)
theorem wM_X5_229 : Cond.methodLink RX5 229 yX5_commonDivisor ∈ fx_WS := fx_in4 (List.mem_of_getElem? (i := 94) (by rfl)) (by rfl)
theorem wSt_X5_commonDivisor : Cond.static yX5_commonDivisor ∈ fx_WS := fx_in4 (List.mem_of_getElem? (i := 95) (by rfl)) (by rfl)
theorem wCo_X5_commonDivisor : Cond.code yX5_commonDivisor cX5_commonDivisor 11 (some .long) ∈ fx_WS := fx_in4 (List.mem_of_getElem? (i := 96) (by rfl)) (by rfl)
theorem wM_X5_233 : Cond.methodLink RX5 233 yJ9_max_f86c9 ∈ fx_WS := fx_in4 (List.mem_of_getElem? (i := 97) (by rfl)) (by rfl)
theorem wSt_J9_max_f86c9 : Cond.static yJ9_max_f86c9 ∈ fx_WS := fx_in4 (List.mem_of_getElem? (i := 98) (by rfl)) (by rfl)
theorem wCo_J9_max_f86c9 : Cond.code yJ9_max_f86c9 cJ9_max_f86c9 4 (some .long) ∈ fx_WS := fx_in4 (List.mem_of_getElem? (i := 99) (by rfl)) (by rfl)
theorem wM_L_116 : Cond.methodLink RL 116 yX5_part ∈ fx_WS := fx_in4 (List.mem_of_getElem? (i := 100) (by rfl)) (by rfl)
theorem wIn_X5_part : Cond.instanceMethod yX5_part ∈ fx_WS := fx_in4 (List.mem_of_getElem? (i := 101) (by rfl)) (by rfl)
theorem wSel_X5_part : Cond.selects yX5_part.cls yX5_part yX5_part ∈ fx_WS := fx_in4 (List.mem_of_getElem? (i := 102) (by rfl)) (by rfl)
theorem wCo_X5_part : Cond.code yX5_part cX5_part 2 (some .long) ∈ fx_WS := fx_in4 (List.mem_of_getElem? (i := 103) (by rfl)) (by rfl)
theorem wM_L_121 : Cond.methodLink RL 121 yX5_image ∈ fx_WS := fx_in4 (List.mem_of_getElem? (i := 104) (by rfl)) (by rfl)
theorem wIn_X5_image : Cond.instanceMethod yX5_image ∈ fx_WS := fx_in4 (List.mem_of_getElem? (i := 105) (by rfl)) (by rfl)
theorem wSel_X5_image : Cond.selects yX5_image.cls yX5_image yX5_image ∈ fx_WS := fx_in4 (List.mem_of_getElem? (i := 106) (by rfl)) (by rfl)
theorem wCo_X5_image : Cond.code yX5_image cX5_image 2 (some .int) ∈ fx_WS := fx_in4 (List.mem_of_getElem? (i := 107) (by rfl)) (by rfl)
theorem wM_L_125 : Cond.methodLink RL 125 yX5_from ∈ fx_WS := fx_in4 (List.mem_of_getElem? (i := 108) (by rfl)) (by rfl)
theorem wIn_X5_from : Cond.instanceMethod yX5_from ∈ fx_WS := fx_in4 (List.mem_of_getElem? (i := 109) (by rfl)) (by rfl)
theorem wSel_X5_from : Cond.selects yX5_from.cls yX5_from yX5_from ∈ fx_WS := fx_in4 (List.mem_of_getElem? (i := 110) (by rfl)) (by rfl)
theorem wCo_X5_from : Cond.code yX5_from cX5_from 2 (some .int) ∈ fx_WS := fx_in4 (List.mem_of_getElem? (i := 111) (by rfl)) (by rfl)
theorem wM_L_129 : Cond.methodLink RL 129 yX5_status ∈ fx_WS := fx_in4 (List.mem_of_getElem? (i := 112) (by rfl)) (by rfl)
theorem wIn_X5_status : Cond.instanceMethod yX5_status ∈ fx_WS := fx_in4 (List.mem_of_getElem? (i := 113) (by rfl)) (by rfl)
theorem wSel_X5_status : Cond.selects yX5_status.cls yX5_status yX5_status ∈ fx_WS := fx_in4 (List.mem_of_getElem? (i := 114) (by rfl)) (by rfl)
theorem wCo_X5_status : Cond.code yX5_status cX5_status 2 (some .int) ∈ fx_WS := fx_in4 (List.mem_of_getElem? (i := 115) (by rfl)) (by rfl)
theorem wM_L_133 : Cond.methodLink RL 133 yX5_count ∈ fx_WS := fx_in4 (List.mem_of_getElem? (i := 116) (by rfl)) (by rfl)
theorem wIn_X5_count : Cond.instanceMethod yX5_count ∈ fx_WS := fx_in4 (List.mem_of_getElem? (i := 117) (by rfl)) (by rfl)
theorem wSel_X5_count : Cond.selects yX5_count.cls yX5_count yX5_count ∈ fx_WS := fx_in4 (List.mem_of_getElem? (i := 118) (by rfl)) (by rfl)
theorem wCo_X5_count : Cond.code yX5_count cX5_count 2 (some .int) ∈ fx_WS := fx_in4 (List.mem_of_getElem? (i := 119) (by rfl)) (by rfl)
theorem wM_X5_250 : Cond.methodLink RX5 250 yX5_amount ∈ fx_WS := fx_in4 (List.mem_of_getElem? (i := 120) (by rfl)) (by rfl)
theorem wIn_X5_amount : Cond.instanceMethod yX5_amount ∈ fx_WS := fx_in4 (List.mem_of_getElem? (i := 122) (by rfl)) (by rfl)
theorem wCo_X5_amount : Cond.code yX5_amount cX5_amount 2 (some .int) ∈ fx_WS := fx_in4 (List.mem_of_getElem? (i := 123) (by rfl)) (by rfl)
theorem wM_L_137 : Cond.methodLink RL 137 yX5_digest ∈ fx_WS := fx_in4 (List.mem_of_getElem? (i := 124) (by rfl)) (by rfl)
theorem wIn_X5_digest : Cond.instanceMethod yX5_digest ∈ fx_WS := fx_in4 (List.mem_of_getElem? (i := 125) (by rfl)) (by rfl)
theorem wSel_X5_digest : Cond.selects yX5_digest.cls yX5_digest yX5_digest ∈ fx_WS := fx_in4 (List.mem_of_getElem? (i := 126) (by rfl)) (by rfl)
theorem wCo_X5_digest : Cond.code yX5_digest cX5_digest 4 (some .long) ∈ fx_WS := fx_in4 (List.mem_of_getElem? (i := 127) (by rfl)) (by rfl)
theorem wK_X5_253 : Cond.constantLong RX5 253 (751) ∈ fx_WS := fx_in4 (List.mem_of_getElem? (i := 128) (by rfl)) (by rfl)
theorem wK_X5_255 : Cond.constantLong RX5 255 (31) ∈ fx_WS := fx_in4 (List.mem_of_getElem? (i := 129) (by rfl)) (by rfl)
theorem wM_X5_266 : Cond.methodLink RX5 266 yX5_digestWith ∈ fx_WS := fx_in4 (List.mem_of_getElem? (i := 130) (by rfl)) (by rfl)
theorem wIn_X5_digestWith : Cond.instanceMethod yX5_digestWith ∈ fx_WS := fx_in4 (List.mem_of_getElem? (i := 132) (by rfl)) (by rfl)
theorem wCo_X5_digestWith : Cond.code yX5_digestWith cX5_digestWith 7 (some .long) ∈ fx_WS := fx_in4 (List.mem_of_getElem? (i := 133) (by rfl)) (by rfl)
theorem wC_L_10 : Cond.classLink RL 10 RX6 ∈ fx_WS := fx_in4 (List.mem_of_getElem? (i := 134) (by rfl)) (by rfl)
theorem wNew_X6 : Cond.instantiable RX6 25 ∈ fx_WS := fx_in4 (List.mem_of_getElem? (i := 135) (by rfl)) (by rfl)
theorem wM_L_12 : Cond.methodLink RL 12 yX6_init ∈ fx_WS := fx_in4 (List.mem_of_getElem? (i := 136) (by rfl)) (by rfl)
theorem wIn_X6_init : Cond.instanceMethod yX6_init ∈ fx_WS := fx_in4 (List.mem_of_getElem? (i := 137) (by rfl)) (by rfl)
theorem wCo_X6_init : Cond.code yX6_init cX6_init 1 none ∈ fx_WS := fx_in4 (List.mem_of_getElem? (i := 138) (by rfl)) (by rfl)
theorem wM_X6_1 : Cond.methodLink RX6 1 objectInit ∈ fx_WS := fx_in4 (List.mem_of_getElem? (i := 139) (by rfl)) (by rfl)
theorem wM_X6_66 : Cond.methodLink RX6 66 yX6_begin ∈ fx_WS := fx_in4 (List.mem_of_getElem? (i := 140) (by rfl)) (by rfl)
theorem wSt_X6_begin : Cond.static yX6_begin ∈ fx_WS := fx_in4 (List.mem_of_getElem? (i := 141) (by rfl)) (by rfl)
theorem wCo_X6_begin : Cond.code yX6_begin cX6_begin 4 none ∈ fx_WS := fx_in4 (List.mem_of_getElem? (i := 142) (by rfl)) (by rfl)
theorem wF_X6_7 : Cond.fieldLink RX6 7 (TX6 0).1 (TX6 0).2.1 (TX6 0).2.2.1 ∈ fx_WS := fx_in4 (List.mem_of_getElem? (i := 143) (by rfl)) (by rfl)
theorem wF_X6_13 : Cond.fieldLink RX6 13 (TX6 1).1 (TX6 1).2.1 (TX6 1).2.2.1 ∈ fx_WS := fx_in4 (List.mem_of_getElem? (i := 144) (by rfl)) (by rfl)
theorem wF_X6_16 : Cond.fieldLink RX6 16 (TX6 2).1 (TX6 2).2.1 (TX6 2).2.2.1 ∈ fx_WS := fx_in4 (List.mem_of_getElem? (i := 145) (by rfl)) (by rfl)
theorem wF_X6_20 : Cond.fieldLink RX6 20 (TX6 3).1 (TX6 3).2.1 (TX6 3).2.2.1 ∈ fx_WS := fx_in4 (List.mem_of_getElem? (i := 146) (by rfl)) (by rfl)
theorem wF_X6_197 : Cond.fieldLink RX6 197 (TX6 4).1 (TX6 4).2.1 (TX6 4).2.2.1 ∈ fx_WS := fx_in4 (List.mem_of_getElem? (i := 147) (by rfl)) (by rfl)
theorem wF_X6_23 : Cond.fieldLink RX6 23 (TX6 5).1 (TX6 5).2.1 (TX6 5).2.2.1 ∈ fx_WS := fx_in4 (List.mem_of_getElem? (i := 148) (by rfl)) (by rfl)
theorem wF_X6_27 : Cond.fieldLink RX6 27 (TX6 6).1 (TX6 6).2.1 (TX6 6).2.2.1 ∈ fx_WS := fx_in4 (List.mem_of_getElem? (i := 149) (by rfl)) (by rfl)
theorem wF_X6_30 : Cond.fieldLink RX6 30 (TX6 7).1 (TX6 7).2.1 (TX6 7).2.2.1 ∈ fx_WS := fx_in4 (List.mem_of_getElem? (i := 150) (by rfl)) (by rfl)
theorem wF_X6_33 : Cond.fieldLink RX6 33 (TX6 8).1 (TX6 8).2.1 (TX6 8).2.2.1 ∈ fx_WS := fx_in4 (List.mem_of_getElem? (i := 151) (by rfl)) (by rfl)
theorem wF_X6_36 : Cond.fieldLink RX6 36 (TX6 9).1 (TX6 9).2.1 (TX6 9).2.2.1 ∈ fx_WS := fx_in4 (List.mem_of_getElem? (i := 152) (by rfl)) (by rfl)
theorem wF_X6_39 : Cond.fieldLink RX6 39 (TX6 10).1 (TX6 10).2.1 (TX6 10).2.2.1 ∈ fx_WS := fx_in4 (List.mem_of_getElem? (i := 153) (by rfl)) (by rfl)
theorem wF_X6_42 : Cond.fieldLink RX6 42 (TX6 11).1 (TX6 11).2.1 (TX6 11).2.2.1 ∈ fx_WS := fx_in4 (List.mem_of_getElem? (i := 154) (by rfl)) (by rfl)
theorem wF_X6_45 : Cond.fieldLink RX6 45 (TX6 12).1 (TX6 12).2.1 (TX6 12).2.2.1 ∈ fx_WS := fx_in4 (List.mem_of_getElem? (i := 155) (by rfl)) (by rfl)
theorem wF_X6_48 : Cond.fieldLink RX6 48 (TX6 13).1 (TX6 13).2.1 (TX6 13).2.2.1 ∈ fx_WS := fx_in4 (List.mem_of_getElem? (i := 156) (by rfl)) (by rfl)
theorem wF_X6_51 : Cond.fieldLink RX6 51 (TX6 14).1 (TX6 14).2.1 (TX6 14).2.2.1 ∈ fx_WS := fx_in4 (List.mem_of_getElem? (i := 157) (by rfl)) (by rfl)
theorem wF_X6_54 : Cond.fieldLink RX6 54 (TX6 15).1 (TX6 15).2.1 (TX6 15).2.2.1 ∈ fx_WS := fx_in4 (List.mem_of_getElem? (i := 158) (by rfl)) (by rfl)
theorem wF_X6_57 : Cond.fieldLink RX6 57 (TX6 16).1 (TX6 16).2.1 (TX6 16).2.2.1 ∈ fx_WS := fx_in4 (List.mem_of_getElem? (i := 159) (by rfl)) (by rfl)
theorem wF_X6_202 : Cond.fieldLink RX6 202 (TX6 17).1 (TX6 17).2.1 (TX6 17).2.2.1 ∈ fx_WS := fx_in4 (List.mem_of_getElem? (i := 160) (by rfl)) (by rfl)
theorem wF_X6_216 : Cond.fieldLink RX6 216 (TX6 18).1 (TX6 18).2.1 (TX6 18).2.2.1 ∈ fx_WS := fx_in4 (List.mem_of_getElem? (i := 161) (by rfl)) (by rfl)
theorem wF_X6_219 : Cond.fieldLink RX6 219 (TX6 19).1 (TX6 19).2.1 (TX6 19).2.2.1 ∈ fx_WS := fx_in4 (List.mem_of_getElem? (i := 162) (by rfl)) (by rfl)
theorem wF_X6_222 : Cond.fieldLink RX6 222 (TX6 20).1 (TX6 20).2.1 (TX6 20).2.2.1 ∈ fx_WS := fx_in4 (List.mem_of_getElem? (i := 163) (by rfl)) (by rfl)
theorem wF_X6_225 : Cond.fieldLink RX6 225 (TX6 21).1 (TX6 21).2.1 (TX6 21).2.2.1 ∈ fx_WS := fx_in4 (List.mem_of_getElem? (i := 164) (by rfl)) (by rfl)
theorem wF_X6_60 : Cond.fieldLink RX6 60 (TX6 22).1 (TX6 22).2.1 (TX6 22).2.2.1 ∈ fx_WS := fx_in4 (List.mem_of_getElem? (i := 165) (by rfl)) (by rfl)
theorem wF_X6_244 : Cond.fieldLink RX6 244 (TX6 23).1 (TX6 23).2.1 (TX6 23).2.2.1 ∈ fx_WS := fx_in4 (List.mem_of_getElem? (i := 166) (by rfl)) (by rfl)
theorem wF_X6_63 : Cond.fieldLink RX6 63 (TX6 24).1 (TX6 24).2.1 (TX6 24).2.2.1 ∈ fx_WS := fx_in4 (List.mem_of_getElem? (i := 167) (by rfl)) (by rfl)
theorem wM_L_17 : Cond.methodLink RL 17 yX6_thing ∈ fx_WS := fx_in4 (List.mem_of_getElem? (i := 219) (by rfl)) (by rfl)
theorem wIn_X6_thing : Cond.instanceMethod yX6_thing ∈ fx_WS := fx_in4 (List.mem_of_getElem? (i := 220) (by rfl)) (by rfl)
theorem wSel_X6_thing : Cond.selects yX6_thing.cls yX6_thing yX6_thing ∈ fx_WS := fx_in4 (List.mem_of_getElem? (i := 221) (by rfl)) (by rfl)
theorem wCo_X6_thing : Cond.code yX6_thing cX6_thing 3 (some .int) ∈ fx_WS := fx_in4 (List.mem_of_getElem? (i := 222) (by rfl)) (by rfl)
theorem wM_X6_84 : Cond.methodLink RX6 84 yX6_isThing ∈ fx_WS := fx_in4 (List.mem_of_getElem? (i := 223) (by rfl)) (by rfl)
theorem wIn_X6_isThing : Cond.instanceMethod yX6_isThing ∈ fx_WS := fx_in4 (List.mem_of_getElem? (i := 225) (by rfl)) (by rfl)
theorem wCo_X6_isThing : Cond.code yX6_isThing cX6_isThing 2 (some .boolean) ∈ fx_WS := fx_in4 (List.mem_of_getElem? (i := 226) (by rfl)) (by rfl)
theorem wM_X6_70 : Cond.methodLink RX6 70 yX6_things ∈ fx_WS := fx_in4 (List.mem_of_getElem? (i := 227) (by rfl)) (by rfl)
theorem wIn_X6_things : Cond.instanceMethod yX6_things ∈ fx_WS := fx_in4 (List.mem_of_getElem? (i := 229) (by rfl)) (by rfl)
theorem wCo_X6_things : Cond.code yX6_things cX6_things 1 (some .int) ∈ fx_WS := fx_in4 (List.mem_of_getElem? (i := 230) (by rfl)) (by rfl)
theorem wM_X6_74 : Cond.methodLink RX6 74 yX6_in ∈ fx_WS := fx_in4 (List.mem_of_getElem? (i := 231) (by rfl)) (by rfl)
theorem wSt_X6_in : Cond.static yX6_in ∈ fx_WS := fx_in4 (List.mem_of_getElem? (i := 232) (by rfl)) (by rfl)
theorem wCo_X6_in : Cond.code yX6_in cX6_in 6 (some .boolean) ∈ fx_WS := fx_in4 (List.mem_of_getElem? (i := 233) (by rfl)) (by rfl)
theorem wM_X6_88 : Cond.methodLink RX6 88 yX6_bad ∈ fx_WS := fx_in4 (List.mem_of_getElem? (i := 234) (by rfl)) (by rfl)
theorem wIn_X6_bad : Cond.instanceMethod yX6_bad ∈ fx_WS := fx_in4 (List.mem_of_getElem? (i := 236) (by rfl)) (by rfl)
theorem wCo_X6_bad : Cond.code yX6_bad cX6_bad 2 (some .int) ∈ fx_WS := fx_in4 (List.mem_of_getElem? (i := 237) (by rfl)) (by rfl)
theorem wM_X6_92 : Cond.methodLink RX6 92 yX6_full ∈ fx_WS := fx_in4 (List.mem_of_getElem? (i := 238) (by rfl)) (by rfl)
theorem wIn_X6_full : Cond.instanceMethod yX6_full ∈ fx_WS := fx_in5 (List.mem_of_getElem? (i := 0) (by rfl)) (by rfl)
theorem wCo_X6_full : Cond.code yX6_full cX6_full 1 (some .int) ∈ fx_WS := fx_in5 (List.mem_of_getElem? (i := 1) (by rfl)) (by rfl)
theorem wM_L_22 : Cond.methodLink RL 22 yX6_town ∈ fx_WS := fx_in5 (List.mem_of_getElem? (i := 2) (by rfl)) (by rfl)
theorem wIn_X6_town : Cond.instanceMethod yX6_town ∈ fx_WS := fx_in5 (List.mem_of_getElem? (i := 3) (by rfl)) (by rfl)
theorem wSel_X6_town : Cond.selects yX6_town.cls yX6_town yX6_town ∈ fx_WS := fx_in5 (List.mem_of_getElem? (i := 4) (by rfl)) (by rfl)
theorem wCo_X6_town : Cond.code yX6_town cX6_town 3 (some .int) ∈ fx_WS := fx_in5 (List.mem_of_getElem? (i := 5) (by rfl)) (by rfl)
theorem wK_X6_95 : Cond.constantLong RX6 95 (5) ∈ fx_WS := fx_in5 (List.mem_of_getElem? (i := 6) (by rfl)) (by rfl)
theorem wM_L_27 : Cond.methodLink RL 27 yX6_put ∈ fx_WS := fx_in5 (List.mem_of_getElem? (i := 7) (by rfl)) (by rfl)
theorem wIn_X6_put : Cond.instanceMethod yX6_put ∈ fx_WS := fx_in5 (List.mem_of_getElem? (i := 8) (by rfl)) (by rfl)
theorem wSel_X6_put : Cond.selects yX6_put.cls yX6_put yX6_put ∈ fx_WS := fx_in5 (List.mem_of_getElem? (i := 9) (by rfl)) (by rfl)
theorem wCo_X6_put : Cond.code yX6_put cX6_put 7 (some .int) ∈ fx_WS := fx_in5 (List.mem_of_getElem? (i := 10) (by rfl)) (by rfl)
theorem wM_X6_97 : Cond.methodLink RX6 97 yX6_isHour ∈ fx_WS := fx_in5 (List.mem_of_getElem? (i := 11) (by rfl)) (by rfl)
theorem wIn_X6_isHour : Cond.instanceMethod yX6_isHour ∈ fx_WS := fx_in5 (List.mem_of_getElem? (i := 13) (by rfl)) (by rfl)
theorem wCo_X6_isHour : Cond.code yX6_isHour cX6_isHour 2 (some .boolean) ∈ fx_WS := fx_in5 (List.mem_of_getElem? (i := 14) (by rfl)) (by rfl)
theorem wM_X6_81 : Cond.methodLink RX6 81 yX6_hours ∈ fx_WS := fx_in5 (List.mem_of_getElem? (i := 15) (by rfl)) (by rfl)
theorem wIn_X6_hours : Cond.instanceMethod yX6_hours ∈ fx_WS := fx_in5 (List.mem_of_getElem? (i := 17) (by rfl)) (by rfl)
theorem wCo_X6_hours : Cond.code yX6_hours cX6_hours 1 (some .int) ∈ fx_WS := fx_in5 (List.mem_of_getElem? (i := 18) (by rfl)) (by rfl)
theorem wK_X6_100 : Cond.constantLong RX6 100 (4) ∈ fx_WS := fx_in5 (List.mem_of_getElem? (i := 19) (by rfl)) (by rfl)
theorem wM_X6_102 : Cond.methodLink RX6 102 yX6_isOne ∈ fx_WS := fx_in5 (List.mem_of_getElem? (i := 20) (by rfl)) (by rfl)
theorem wIn_X6_isOne : Cond.instanceMethod yX6_isOne ∈ fx_WS := fx_in5 (List.mem_of_getElem? (i := 22) (by rfl)) (by rfl)
theorem wCo_X6_isOne : Cond.code yX6_isOne cX6_isOne 2 (some .boolean) ∈ fx_WS := fx_in5 (List.mem_of_getElem? (i := 23) (by rfl)) (by rfl)
theorem wM_X6_78 : Cond.methodLink RX6 78 yX6_people ∈ fx_WS := fx_in5 (List.mem_of_getElem? (i := 24) (by rfl)) (by rfl)
theorem wIn_X6_people : Cond.instanceMethod yX6_people ∈ fx_WS := fx_in5 (List.mem_of_getElem? (i := 26) (by rfl)) (by rfl)
theorem wCo_X6_people : Cond.code yX6_people cX6_people 1 (some .int) ∈ fx_WS := fx_in5 (List.mem_of_getElem? (i := 27) (by rfl)) (by rfl)
theorem wM_L_31 : Cond.methodLink RL 31 yX6_does ∈ fx_WS := fx_in5 (List.mem_of_getElem? (i := 28) (by rfl)) (by rfl)
theorem wIn_X6_does : Cond.instanceMethod yX6_does ∈ fx_WS := fx_in5 (List.mem_of_getElem? (i := 29) (by rfl)) (by rfl)
theorem wSel_X6_does : Cond.selects yX6_does.cls yX6_does yX6_does ∈ fx_WS := fx_in5 (List.mem_of_getElem? (i := 30) (by rfl)) (by rfl)
theorem wCo_X6_does : Cond.code yX6_does cX6_does 6 (some .int) ∈ fx_WS := fx_in5 (List.mem_of_getElem? (i := 31) (by rfl)) (by rfl)
theorem wM_L_36 : Cond.methodLink RL 36 yX6_undo ∈ fx_WS := fx_in5 (List.mem_of_getElem? (i := 32) (by rfl)) (by rfl)
theorem wIn_X6_undo : Cond.instanceMethod yX6_undo ∈ fx_WS := fx_in5 (List.mem_of_getElem? (i := 33) (by rfl)) (by rfl)
theorem wSel_X6_undo : Cond.selects yX6_undo.cls yX6_undo yX6_undo ∈ fx_WS := fx_in5 (List.mem_of_getElem? (i := 34) (by rfl)) (by rfl)
theorem wCo_X6_undo : Cond.code yX6_undo cX6_undo 2 (some .int) ∈ fx_WS := fx_in5 (List.mem_of_getElem? (i := 35) (by rfl)) (by rfl)
theorem wM_X6_105 : Cond.methodLink RX6 105 yX6_no ∈ fx_WS := fx_in5 (List.mem_of_getElem? (i := 36) (by rfl)) (by rfl)
theorem wIn_X6_no : Cond.instanceMethod yX6_no ∈ fx_WS := fx_in5 (List.mem_of_getElem? (i := 38) (by rfl)) (by rfl)
theorem wCo_X6_no : Cond.code yX6_no cX6_no 1 (some .int) ∈ fx_WS := fx_in5 (List.mem_of_getElem? (i := 39) (by rfl)) (by rfl)
theorem wM_L_40 : Cond.methodLink RL 40 yX6_need ∈ fx_WS := fx_in5 (List.mem_of_getElem? (i := 40) (by rfl)) (by rfl)
theorem wIn_X6_need : Cond.instanceMethod yX6_need ∈ fx_WS := fx_in5 (List.mem_of_getElem? (i := 41) (by rfl)) (by rfl)
theorem wSel_X6_need : Cond.selects yX6_need.cls yX6_need yX6_need ∈ fx_WS := fx_in5 (List.mem_of_getElem? (i := 42) (by rfl)) (by rfl)
theorem wCo_X6_need : Cond.code yX6_need cX6_need 6 (some .int) ∈ fx_WS := fx_in5 (List.mem_of_getElem? (i := 43) (by rfl)) (by rfl)
theorem wM_X6_108 : Cond.methodLink RX6 108 yX6_needsOf ∈ fx_WS := fx_in5 (List.mem_of_getElem? (i := 44) (by rfl)) (by rfl)
theorem wSt_X6_needsOf : Cond.static yX6_needsOf ∈ fx_WS := fx_in5 (List.mem_of_getElem? (i := 45) (by rfl)) (by rfl)
theorem wCo_X6_needsOf : Cond.code yX6_needsOf cX6_needsOf 4 (some .int) ∈ fx_WS := fx_in5 (List.mem_of_getElem? (i := 46) (by rfl)) (by rfl)
theorem wM_L_59 : Cond.methodLink RL 59 yX6_at ∈ fx_WS := fx_in5 (List.mem_of_getElem? (i := 47) (by rfl)) (by rfl)
theorem wIn_X6_at : Cond.instanceMethod yX6_at ∈ fx_WS := fx_in5 (List.mem_of_getElem? (i := 48) (by rfl)) (by rfl)
theorem wSel_X6_at : Cond.selects yX6_at.cls yX6_at yX6_at ∈ fx_WS := fx_in5 (List.mem_of_getElem? (i := 49) (by rfl)) (by rfl)
theorem wCo_X6_at : Cond.code yX6_at cX6_at 2 (some .int) ∈ fx_WS := fx_in5 (List.mem_of_getElem? (i := 50) (by rfl)) (by rfl)
theorem wM_X6_119 : Cond.methodLink RX6 119 yX6_layNow ∈ fx_WS := fx_in5 (List.mem_of_getElem? (i := 51) (by rfl)) (by rfl)
theorem wIn_X6_layNow : Cond.instanceMethod yX6_layNow ∈ fx_WS := fx_in5 (List.mem_of_getElem? (i := 53) (by rfl)) (by rfl)
theorem wCo_X6_layNow : Cond.code yX6_layNow cX6_layNow 1 none ∈ fx_WS := fx_in5 (List.mem_of_getElem? (i := 54) (by rfl)) (by rfl)
theorem wM_X6_115 : Cond.methodLink RX6 115 yX6_layLine ∈ fx_WS := fx_in5 (List.mem_of_getElem? (i := 55) (by rfl)) (by rfl)
theorem wIn_X6_layLine : Cond.instanceMethod yX6_layLine ∈ fx_WS := fx_in5 (List.mem_of_getElem? (i := 57) (by rfl)) (by rfl)
theorem wCo_X6_layLine : Cond.code yX6_layLine cX6_layLine 6 none ∈ fx_WS := fx_in5 (List.mem_of_getElem? (i := 58) (by rfl)) (by rfl)
theorem wM_X6_112 : Cond.methodLink RX6 112 yX6_depth ∈ fx_WS := fx_in5 (List.mem_of_getElem? (i := 59) (by rfl)) (by rfl)
theorem wIn_X6_depth : Cond.instanceMethod yX6_depth ∈ fx_WS := fx_in5 (List.mem_of_getElem? (i := 61) (by rfl)) (by rfl)
theorem wCo_X6_depth : Cond.code yX6_depth cX6_depth 4 (some .int) ∈ fx_WS := fx_in5 (List.mem_of_getElem? (i := 62) (by rfl)) (by rfl)
theorem wM_L_63 : Cond.methodLink RL 63 yX6_pays ∈ fx_WS := fx_in5 (List.mem_of_getElem? (i := 63) (by rfl)) (by rfl)
theorem wIn_X6_pays : Cond.instanceMethod yX6_pays ∈ fx_WS := fx_in5 (List.mem_of_getElem? (i := 64) (by rfl)) (by rfl)
theorem wSel_X6_pays : Cond.selects yX6_pays.cls yX6_pays yX6_pays ∈ fx_WS := fx_in5 (List.mem_of_getElem? (i := 65) (by rfl)) (by rfl)
theorem wCo_X6_pays : Cond.code yX6_pays cX6_pays 3 (some .int) ∈ fx_WS := fx_in5 (List.mem_of_getElem? (i := 66) (by rfl)) (by rfl)
theorem wM_X6_140 : Cond.methodLink RX6 140 yX6_takeDone ∈ fx_WS := fx_in5 (List.mem_of_getElem? (i := 67) (by rfl)) (by rfl)
theorem wIn_X6_takeDone : Cond.instanceMethod yX6_takeDone ∈ fx_WS := fx_in5 (List.mem_of_getElem? (i := 69) (by rfl)) (by rfl)
theorem wCo_X6_takeDone : Cond.code yX6_takeDone cX6_takeDone 2 none ∈ fx_WS := fx_in5 (List.mem_of_getElem? (i := 70) (by rfl)) (by rfl)
theorem wM_X6_134 : Cond.methodLink RX6 134 yX6_paysOf ∈ fx_WS := fx_in5 (List.mem_of_getElem? (i := 71) (by rfl)) (by rfl)
theorem wIn_X6_paysOf : Cond.instanceMethod yX6_paysOf ∈ fx_WS := fx_in5 (List.mem_of_getElem? (i := 73) (by rfl)) (by rfl)
theorem wCo_X6_paysOf : Cond.code yX6_paysOf cX6_paysOf 10 (some .int) ∈ fx_WS := fx_in5 (List.mem_of_getElem? (i := 74) (by rfl)) (by rfl)
theorem wM_X6_122 : Cond.methodLink RX6 122 yX6_doing ∈ fx_WS := fx_in5 (List.mem_of_getElem? (i := 75) (by rfl)) (by rfl)
theorem wIn_X6_doing : Cond.instanceMethod yX6_doing ∈ fx_WS := fx_in5 (List.mem_of_getElem? (i := 77) (by rfl)) (by rfl)
theorem wCo_X6_doing : Cond.code yX6_doing cX6_doing 3 (some .int) ∈ fx_WS := fx_in5 (List.mem_of_getElem? (i := 78) (by rfl)) (by rfl)
theorem wM_X6_126 : Cond.methodLink RX6 126 yX6_isWith ∈ fx_WS := fx_in5 (List.mem_of_getElem? (i := 79) (by rfl)) (by rfl)
theorem wIn_X6_isWith : Cond.instanceMethod yX6_isWith ∈ fx_WS := fx_in5 (List.mem_of_getElem? (i := 81) (by rfl)) (by rfl)
theorem wCo_X6_isWith : Cond.code yX6_isWith cX6_isWith 7 (some .boolean) ∈ fx_WS := fx_in5 (List.mem_of_getElem? (i := 82) (by rfl)) (by rfl)
theorem wM_X6_130 : Cond.methodLink RX6 130 yX6_wasDone ∈ fx_WS := fx_in5 (List.mem_of_getElem? (i := 83) (by rfl)) (by rfl)
theorem wIn_X6_wasDone : Cond.instanceMethod yX6_wasDone ∈ fx_WS := fx_in5 (List.mem_of_getElem? (i := 85) (by rfl)) (by rfl)
theorem wCo_X6_wasDone : Cond.code yX6_wasDone cX6_wasDone 6 (some .boolean) ∈ fx_WS := fx_in5 (List.mem_of_getElem? (i := 86) (by rfl)) (by rfl)
theorem wM_L_67 : Cond.methodLink RL 67 yX6_all ∈ fx_WS := fx_in5 (List.mem_of_getElem? (i := 87) (by rfl)) (by rfl)
theorem wIn_X6_all : Cond.instanceMethod yX6_all ∈ fx_WS := fx_in5 (List.mem_of_getElem? (i := 88) (by rfl)) (by rfl)
theorem wSel_X6_all : Cond.selects yX6_all.cls yX6_all yX6_all ∈ fx_WS := fx_in5 (List.mem_of_getElem? (i := 89) (by rfl)) (by rfl)
theorem wCo_X6_all : Cond.code yX6_all cX6_all 1 (some .int) ∈ fx_WS := fx_in5 (List.mem_of_getElem? (i := 90) (by rfl)) (by rfl)
theorem wM_X6_143 : Cond.methodLink RX6 143 yX6_allIn ∈ fx_WS := fx_in5 (List.mem_of_getElem? (i := 91) (by rfl)) (by rfl)
theorem wIn_X6_allIn : Cond.instanceMethod yX6_allIn ∈ fx_WS := fx_in5 (List.mem_of_getElem? (i := 93) (by rfl)) (by rfl)
theorem wCo_X6_allIn : Cond.code yX6_allIn cX6_allIn 4 (some .int) ∈ fx_WS := fx_in5 (List.mem_of_getElem? (i := 94) (by rfl)) (by rfl)
theorem wM_X6_137 : Cond.methodLink RX6 137 yX6_paysIn ∈ fx_WS := fx_in5 (List.mem_of_getElem? (i := 95) (by rfl)) (by rfl)
theorem wIn_X6_paysIn : Cond.instanceMethod yX6_paysIn ∈ fx_WS := fx_in5 (List.mem_of_getElem? (i := 97) (by rfl)) (by rfl)
theorem wCo_X6_paysIn : Cond.code yX6_paysIn cX6_paysIn 5 (some .int) ∈ fx_WS := fx_in5 (List.mem_of_getElem? (i := 98) (by rfl)) (by rfl)
theorem wM_L_71 : Cond.methodLink RL 71 yX6_least ∈ fx_WS := fx_in5 (List.mem_of_getElem? (i := 99) (by rfl)) (by rfl)
theorem wIn_X6_least : Cond.instanceMethod yX6_least ∈ fx_WS := fx_in5 (List.mem_of_getElem? (i := 100) (by rfl)) (by rfl)
theorem wSel_X6_least : Cond.selects yX6_least.cls yX6_least yX6_least ∈ fx_WS := fx_in5 (List.mem_of_getElem? (i := 101) (by rfl)) (by rfl)
theorem wCo_X6_least : Cond.code yX6_least cX6_least 6 (some .int) ∈ fx_WS := fx_in5 (List.mem_of_getElem? (i := 102) (by rfl)) (by rfl)
theorem wM_X6_167 : Cond.methodLink RX6 167 yX6_findAllRows ∈ fx_WS := fx_in5 (List.mem_of_getElem? (i := 103) (by rfl)) (by rfl)
theorem wIn_X6_findAllRows : Cond.instanceMethod yX6_findAllRows ∈ fx_WS := fx_in5 (List.mem_of_getElem? (i := 105) (by rfl)) (by rfl)
theorem wCo_X6_findAllRows : Cond.code yX6_findAllRows cX6_findAllRows 3 none ∈ fx_WS := fx_in5 (List.mem_of_getElem? (i := 106) (by rfl)) (by rfl)
theorem wM_X6_152 : Cond.methodLink RX6 152 yX6_findRows ∈ fx_WS := fx_in5 (List.mem_of_getElem? (i := 107) (by rfl)) (by rfl)
theorem wIn_X6_findRows : Cond.instanceMethod yX6_findRows ∈ fx_WS := fx_in5 (List.mem_of_getElem? (i := 109) (by rfl)) (by rfl)
theorem wCo_X6_findRows : Cond.code yX6_findRows cX6_findRows 4 none ∈ fx_WS := fx_in5 (List.mem_of_getElem? (i := 110) (by rfl)) (by rfl)
theorem wM_X6_146 : Cond.methodLink RX6 146 yX6_takeNeeds ∈ fx_WS := fx_in5 (List.mem_of_getElem? (i := 111) (by rfl)) (by rfl)
theorem wIn_X6_takeNeeds : Cond.instanceMethod yX6_takeNeeds ∈ fx_WS := fx_in5 (List.mem_of_getElem? (i := 113) (by rfl)) (by rfl)
theorem wCo_X6_takeNeeds : Cond.code yX6_takeNeeds cX6_takeNeeds 5 none ∈ fx_WS := fx_in5 (List.mem_of_getElem? (i := 114) (by rfl)) (by rfl)
theorem wM_X6_149 : Cond.methodLink RX6 149 yX6_keepRow ∈ fx_WS := fx_in5 (List.mem_of_getElem? (i := 115) (by rfl)) (by rfl)
theorem wIn_X6_keepRow : Cond.instanceMethod yX6_keepRow ∈ fx_WS := fx_in5 (List.mem_of_getElem? (i := 117) (by rfl)) (by rfl)
theorem wCo_X6_keepRow : Cond.code yX6_keepRow cX6_keepRow 5 none ∈ fx_WS := fx_in5 (List.mem_of_getElem? (i := 118) (by rfl)) (by rfl)
theorem wM_X6_159 : Cond.methodLink RX6 159 yX6_ways ∈ fx_WS := fx_in5 (List.mem_of_getElem? (i := 119) (by rfl)) (by rfl)
theorem wIn_X6_ways : Cond.instanceMethod yX6_ways ∈ fx_WS := fx_in5 (List.mem_of_getElem? (i := 121) (by rfl)) (by rfl)
theorem wCo_X6_ways : Cond.code yX6_ways cX6_ways 4 (some .long) ∈ fx_WS := fx_in5 (List.mem_of_getElem? (i := 122) (by rfl)) (by rfl)
theorem wK_X6_171 : Cond.constantLong RX6 171 (50000) ∈ fx_WS := fx_in5 (List.mem_of_getElem? (i := 123) (by rfl)) (by rfl)
theorem wM_X6_173 : Cond.methodLink RX6 173 yX6_findLeast ∈ fx_WS := fx_in5 (List.mem_of_getElem? (i := 124) (by rfl)) (by rfl)
theorem wIn_X6_findLeast : Cond.instanceMethod yX6_findLeast ∈ fx_WS := fx_in5 (List.mem_of_getElem? (i := 126) (by rfl)) (by rfl)
theorem wCo_X6_findLeast : Cond.code yX6_findLeast cX6_findLeast 11 (some .int) ∈ fx_WS := fx_in5 (List.mem_of_getElem? (i := 127) (by rfl)) (by rfl)
theorem wM_X6_155 : Cond.methodLink RX6 155 yX6_takeNothing ∈ fx_WS := fx_in5 (List.mem_of_getElem? (i := 128) (by rfl)) (by rfl)
theorem wIn_X6_takeNothing : Cond.instanceMethod yX6_takeNothing ∈ fx_WS := fx_in5 (List.mem_of_getElem? (i := 130) (by rfl)) (by rfl)
theorem wCo_X6_takeNothing : Cond.code yX6_takeNothing cX6_takeNothing 2 none ∈ fx_WS := fx_in5 (List.mem_of_getElem? (i := 131) (by rfl)) (by rfl)
theorem wK_X6_158 : Cond.constant RX6 158 (1000000) ∈ fx_WS := fx_in5 (List.mem_of_getElem? (i := 132) (by rfl)) (by rfl)
theorem wM_X6_163 : Cond.methodLink RX6 163 yX6_takeRow ∈ fx_WS := fx_in5 (List.mem_of_getElem? (i := 133) (by rfl)) (by rfl)
theorem wIn_X6_takeRow : Cond.instanceMethod yX6_takeRow ∈ fx_WS := fx_in5 (List.mem_of_getElem? (i := 135) (by rfl)) (by rfl)
theorem wCo_X6_takeRow : Cond.code yX6_takeRow cX6_takeRow 5 none ∈ fx_WS := fx_in5 (List.mem_of_getElem? (i := 136) (by rfl)) (by rfl)
theorem wM_L_75 : Cond.methodLink RL 75 yX6_fewest ∈ fx_WS := fx_in5 (List.mem_of_getElem? (i := 137) (by rfl)) (by rfl)
theorem wIn_X6_fewest : Cond.instanceMethod yX6_fewest ∈ fx_WS := fx_in5 (List.mem_of_getElem? (i := 138) (by rfl)) (by rfl)
theorem wSel_X6_fewest : Cond.selects yX6_fewest.cls yX6_fewest yX6_fewest ∈ fx_WS := fx_in5 (List.mem_of_getElem? (i := 139) (by rfl)) (by rfl)
theorem wCo_X6_fewest : Cond.code yX6_fewest cX6_fewest 2 (some .int) ∈ fx_WS := fx_in5 (List.mem_of_getElem? (i := 140) (by rfl)) (by rfl)
theorem wM_L_79 : Cond.methodLink RL 79 yX6_list ∈ fx_WS := fx_in5 (List.mem_of_getElem? (i := 141) (by rfl)) (by rfl)
theorem wIn_X6_list : Cond.instanceMethod yX6_list ∈ fx_WS := fx_in5 (List.mem_of_getElem? (i := 142) (by rfl)) (by rfl)
theorem wSel_X6_list : Cond.selects yX6_list.cls yX6_list yX6_list ∈ fx_WS := fx_in5 (List.mem_of_getElem? (i := 143) (by rfl)) (by rfl)
theorem wCo_X6_list : Cond.code yX6_list cX6_list 7 (some .int) ∈ fx_WS := fx_in5 (List.mem_of_getElem? (i := 144) (by rfl)) (by rfl)
theorem wM_X6_179 : Cond.methodLink RX6 179 yX6_layOrder ∈ fx_WS := fx_in5 (List.mem_of_getElem? (i := 145) (by rfl)) (by rfl)
theorem wIn_X6_layOrder : Cond.instanceMethod yX6_layOrder ∈ fx_WS := fx_in5 (List.mem_of_getElem? (i := 147) (by rfl)) (by rfl)
theorem wCo_X6_layOrder : Cond.code yX6_layOrder cX6_layOrder 6 (some .boolean) ∈ fx_WS := fx_in5 (List.mem_of_getElem? (i := 148) (by rfl)) (by rfl)
theorem wM_X6_182 : Cond.methodLink RX6 182 yX6_listed ∈ fx_WS := fx_in5 (List.mem_of_getElem? (i := 149) (by rfl)) (by rfl)
theorem wIn_X6_listed : Cond.instanceMethod yX6_listed ∈ fx_WS := fx_in5 (List.mem_of_getElem? (i := 151) (by rfl)) (by rfl)
theorem wCo_X6_listed : Cond.code yX6_listed cX6_listed 3 (some .int) ∈ fx_WS := fx_in5 (List.mem_of_getElem? (i := 152) (by rfl)) (by rfl)
theorem wM_X6_176 : Cond.methodLink RX6 176 yX6_takeBest ∈ fx_WS := fx_in5 (List.mem_of_getElem? (i := 153) (by rfl)) (by rfl)
theorem wIn_X6_takeBest : Cond.instanceMethod yX6_takeBest ∈ fx_WS := fx_in5 (List.mem_of_getElem? (i := 155) (by rfl)) (by rfl)
theorem wCo_X6_takeBest : Cond.code yX6_takeBest cX6_takeBest 6 (some .int) ∈ fx_WS := fx_in5 (List.mem_of_getElem? (i := 156) (by rfl)) (by rfl)
theorem wM_L_83 : Cond.methodLink RL 83 yX6_rests ∈ fx_WS := fx_in5 (List.mem_of_getElem? (i := 157) (by rfl)) (by rfl)
theorem wIn_X6_rests : Cond.instanceMethod yX6_rests ∈ fx_WS := fx_in5 (List.mem_of_getElem? (i := 158) (by rfl)) (by rfl)
theorem wSel_X6_rests : Cond.selects yX6_rests.cls yX6_rests yX6_rests ∈ fx_WS := fx_in5 (List.mem_of_getElem? (i := 159) (by rfl)) (by rfl)
theorem wCo_X6_rests : Cond.code yX6_rests cX6_rests 6 (some .int) ∈ fx_WS := fx_in5 (List.mem_of_getElem? (i := 160) (by rfl)) (by rfl)
theorem wM_X6_185 : Cond.methodLink RX6 185 yX6_changes ∈ fx_WS := fx_in5 (List.mem_of_getElem? (i := 161) (by rfl)) (by rfl)
theorem wIn_X6_changes : Cond.instanceMethod yX6_changes ∈ fx_WS := fx_in5 (List.mem_of_getElem? (i := 163) (by rfl)) (by rfl)
theorem wCo_X6_changes : Cond.code yX6_changes cX6_changes 4 (some .boolean) ∈ fx_WS := fx_in5 (List.mem_of_getElem? (i := 164) (by rfl)) (by rfl)
theorem wM_L_87 : Cond.methodLink RL 87 yX6_better ∈ fx_WS := fx_in5 (List.mem_of_getElem? (i := 165) (by rfl)) (by rfl)
theorem wIn_X6_better : Cond.instanceMethod yX6_better ∈ fx_WS := fx_in5 (List.mem_of_getElem? (i := 166) (by rfl)) (by rfl)
theorem wSel_X6_better : Cond.selects yX6_better.cls yX6_better yX6_better ∈ fx_WS := fx_in5 (List.mem_of_getElem? (i := 167) (by rfl)) (by rfl)
theorem wCo_X6_better : Cond.code yX6_better cX6_better 7 (some .int) ∈ fx_WS := fx_in5 (List.mem_of_getElem? (i := 168) (by rfl)) (by rfl)
theorem wM_L_91 : Cond.methodLink RL 91 yX6_name ∈ fx_WS := fx_in5 (List.mem_of_getElem? (i := 169) (by rfl)) (by rfl)
theorem wIn_X6_name : Cond.instanceMethod yX6_name ∈ fx_WS := fx_in5 (List.mem_of_getElem? (i := 170) (by rfl)) (by rfl)
theorem wSel_X6_name : Cond.selects yX6_name.cls yX6_name yX6_name ∈ fx_WS := fx_in5 (List.mem_of_getElem? (i := 171) (by rfl)) (by rfl)
theorem wCo_X6_name : Cond.code yX6_name cX6_name 3 (some .int) ∈ fx_WS := fx_in5 (List.mem_of_getElem? (i := 172) (by rfl)) (by rfl)
theorem wM_L_95 : Cond.methodLink RL 95 yX6_line ∈ fx_WS := fx_in5 (List.mem_of_getElem? (i := 173) (by rfl)) (by rfl)
theorem wIn_X6_line : Cond.instanceMethod yX6_line ∈ fx_WS := fx_in5 (List.mem_of_getElem? (i := 174) (by rfl)) (by rfl)
theorem wSel_X6_line : Cond.selects yX6_line.cls yX6_line yX6_line ∈ fx_WS := fx_in5 (List.mem_of_getElem? (i := 175) (by rfl)) (by rfl)
theorem wCo_X6_line : Cond.code yX6_line cX6_line 6 (some .int) ∈ fx_WS := fx_in5 (List.mem_of_getElem? (i := 176) (by rfl)) (by rfl)
theorem wM_L_99 : Cond.methodLink RL 99 yX6_choir ∈ fx_WS := fx_in5 (List.mem_of_getElem? (i := 177) (by rfl)) (by rfl)
theorem wIn_X6_choir : Cond.instanceMethod yX6_choir ∈ fx_WS := fx_in5 (List.mem_of_getElem? (i := 178) (by rfl)) (by rfl)
theorem wSel_X6_choir : Cond.selects yX6_choir.cls yX6_choir yX6_choir ∈ fx_WS := fx_in5 (List.mem_of_getElem? (i := 179) (by rfl)) (by rfl)
theorem wCo_X6_choir : Cond.code yX6_choir cX6_choir 7 (some .int) ∈ fx_WS := fx_in5 (List.mem_of_getElem? (i := 180) (by rfl)) (by rfl)
theorem wM_L_103 : Cond.methodLink RL 103 yX6_told ∈ fx_WS := fx_in5 (List.mem_of_getElem? (i := 181) (by rfl)) (by rfl)
theorem wIn_X6_told : Cond.instanceMethod yX6_told ∈ fx_WS := fx_in5 (List.mem_of_getElem? (i := 182) (by rfl)) (by rfl)
theorem wSel_X6_told : Cond.selects yX6_told.cls yX6_told yX6_told ∈ fx_WS := fx_in5 (List.mem_of_getElem? (i := 183) (by rfl)) (by rfl)
theorem wCo_X6_told : Cond.code yX6_told cX6_told 4 (some .int) ∈ fx_WS := fx_in5 (List.mem_of_getElem? (i := 184) (by rfl)) (by rfl)
theorem wK_X6_188 : Cond.constantLong RX6 188 (40) ∈ fx_WS := fx_in5 (List.mem_of_getElem? (i := 185) (by rfl)) (by rfl)
theorem wM_L_107 : Cond.methodLink RL 107 yX6_did ∈ fx_WS := fx_in5 (List.mem_of_getElem? (i := 186) (by rfl)) (by rfl)
theorem wIn_X6_did : Cond.instanceMethod yX6_did ∈ fx_WS := fx_in5 (List.mem_of_getElem? (i := 187) (by rfl)) (by rfl)
theorem wSel_X6_did : Cond.selects yX6_did.cls yX6_did yX6_did ∈ fx_WS := fx_in5 (List.mem_of_getElem? (i := 188) (by rfl)) (by rfl)
theorem wCo_X6_did : Cond.code yX6_did cX6_did 10 (some .int) ∈ fx_WS := fx_in5 (List.mem_of_getElem? (i := 189) (by rfl)) (by rfl)
theorem wM_X6_190 : Cond.methodLink RX6 190 yX6_pay ∈ fx_WS := fx_in5 (List.mem_of_getElem? (i := 190) (by rfl)) (by rfl)
theorem wIn_X6_pay : Cond.instanceMethod yX6_pay ∈ fx_WS := fx_in5 (List.mem_of_getElem? (i := 192) (by rfl)) (by rfl)
theorem wCo_X6_pay : Cond.code yX6_pay cX6_pay 4 (some .boolean) ∈ fx_WS := fx_in5 (List.mem_of_getElem? (i := 193) (by rfl)) (by rfl)
theorem wM_L_111 : Cond.methodLink RL 111 yX6_copied ∈ fx_WS := fx_in5 (List.mem_of_getElem? (i := 194) (by rfl)) (by rfl)
theorem wIn_X6_copied : Cond.instanceMethod yX6_copied ∈ fx_WS := fx_in5 (List.mem_of_getElem? (i := 195) (by rfl)) (by rfl)
theorem wSel_X6_copied : Cond.selects yX6_copied.cls yX6_copied yX6_copied ∈ fx_WS := fx_in5 (List.mem_of_getElem? (i := 196) (by rfl)) (by rfl)
theorem wCo_X6_copied : Cond.code yX6_copied cX6_copied 8 (some .int) ∈ fx_WS := fx_in5 (List.mem_of_getElem? (i := 197) (by rfl)) (by rfl)
theorem wM_L_115 : Cond.methodLink RL 115 yX6_crowd ∈ fx_WS := fx_in5 (List.mem_of_getElem? (i := 198) (by rfl)) (by rfl)
theorem wIn_X6_crowd : Cond.instanceMethod yX6_crowd ∈ fx_WS := fx_in5 (List.mem_of_getElem? (i := 199) (by rfl)) (by rfl)
theorem wSel_X6_crowd : Cond.selects yX6_crowd.cls yX6_crowd yX6_crowd ∈ fx_WS := fx_in5 (List.mem_of_getElem? (i := 200) (by rfl)) (by rfl)
theorem wCo_X6_crowd : Cond.code yX6_crowd cX6_crowd 16 (some .int) ∈ fx_WS := fx_in5 (List.mem_of_getElem? (i := 201) (by rfl)) (by rfl)
theorem wK_X6_193 : Cond.constantLong RX6 193 (18) ∈ fx_WS := fx_in5 (List.mem_of_getElem? (i := 202) (by rfl)) (by rfl)
theorem wK_X6_195 : Cond.constantLong RX6 195 (9) ∈ fx_WS := fx_in5 (List.mem_of_getElem? (i := 203) (by rfl)) (by rfl)
theorem wM_L_47 : Cond.methodLink RL 47 yX6_type ∈ fx_WS := fx_in5 (List.mem_of_getElem? (i := 204) (by rfl)) (by rfl)
theorem wIn_X6_type : Cond.instanceMethod yX6_type ∈ fx_WS := fx_in5 (List.mem_of_getElem? (i := 205) (by rfl)) (by rfl)
theorem wSel_X6_type : Cond.selects yX6_type.cls yX6_type yX6_type ∈ fx_WS := fx_in5 (List.mem_of_getElem? (i := 206) (by rfl)) (by rfl)
theorem wCo_X6_type : Cond.code yX6_type cX6_type 5 (some .int) ∈ fx_WS := fx_in5 (List.mem_of_getElem? (i := 207) (by rfl)) (by rfl)
theorem wK_X6_200 : Cond.constantLong RX6 200 (8) ∈ fx_WS := fx_in5 (List.mem_of_getElem? (i := 208) (by rfl)) (by rfl)
theorem wK_X6_206 : Cond.constantLong RX6 206 (255) ∈ fx_WS := fx_in5 (List.mem_of_getElem? (i := 209) (by rfl)) (by rfl)
theorem wM_L_51 : Cond.methodLink RL 51 yX6_clear ∈ fx_WS := fx_in5 (List.mem_of_getElem? (i := 210) (by rfl)) (by rfl)
theorem wIn_X6_clear : Cond.instanceMethod yX6_clear ∈ fx_WS := fx_in5 (List.mem_of_getElem? (i := 211) (by rfl)) (by rfl)
theorem wSel_X6_clear : Cond.selects yX6_clear.cls yX6_clear yX6_clear ∈ fx_WS := fx_in5 (List.mem_of_getElem? (i := 212) (by rfl)) (by rfl)
theorem wCo_X6_clear : Cond.code yX6_clear cX6_clear 2 (some .int) ∈ fx_WS := fx_in5 (List.mem_of_getElem? (i := 213) (by rfl)) (by rfl)
theorem wM_L_55 : Cond.methodLink RL 55 yX6_read ∈ fx_WS := fx_in5 (List.mem_of_getElem? (i := 214) (by rfl)) (by rfl)
theorem wIn_X6_read : Cond.instanceMethod yX6_read ∈ fx_WS := fx_in5 (List.mem_of_getElem? (i := 215) (by rfl)) (by rfl)
theorem wSel_X6_read : Cond.selects yX6_read.cls yX6_read yX6_read ∈ fx_WS := fx_in5 (List.mem_of_getElem? (i := 216) (by rfl)) (by rfl)
theorem wCo_X6_read : Cond.code yX6_read cX6_read 3 (some .int) ∈ fx_WS := fx_in5 (List.mem_of_getElem? (i := 217) (by rfl)) (by rfl)
theorem wM_X6_234 : Cond.methodLink RX6 234 yX6_look ∈ fx_WS := fx_in5 (List.mem_of_getElem? (i := 218) (by rfl)) (by rfl)
theorem wIn_X6_look : Cond.instanceMethod yX6_look ∈ fx_WS := fx_in5 (List.mem_of_getElem? (i := 220) (by rfl)) (by rfl)
theorem wCo_X6_look : Cond.code yX6_look cX6_look 5 none ∈ fx_WS := fx_in5 (List.mem_of_getElem? (i := 221) (by rfl)) (by rfl)
theorem wM_X6_228 : Cond.methodLink RX6 228 yX6_isSmall ∈ fx_WS := fx_in5 (List.mem_of_getElem? (i := 222) (by rfl)) (by rfl)
theorem wSt_X6_isSmall : Cond.static yX6_isSmall ∈ fx_WS := fx_in5 (List.mem_of_getElem? (i := 223) (by rfl)) (by rfl)
theorem wCo_X6_isSmall : Cond.code yX6_isSmall cX6_isSmall 1 (some .boolean) ∈ fx_WS := fx_in5 (List.mem_of_getElem? (i := 224) (by rfl)) (by rfl)
theorem wK_X6_208 : Cond.constantLong RX6 208 (97) ∈ fx_WS := fx_in5 (List.mem_of_getElem? (i := 225) (by rfl)) (by rfl)
theorem wK_X6_210 : Cond.constantLong RX6 210 (122) ∈ fx_WS := fx_in5 (List.mem_of_getElem? (i := 226) (by rfl)) (by rfl)
theorem wM_X6_231 : Cond.methodLink RX6 231 yX6_isFigure ∈ fx_WS := fx_in5 (List.mem_of_getElem? (i := 227) (by rfl)) (by rfl)
theorem wSt_X6_isFigure : Cond.static yX6_isFigure ∈ fx_WS := fx_in5 (List.mem_of_getElem? (i := 228) (by rfl)) (by rfl)
theorem wCo_X6_isFigure : Cond.code yX6_isFigure cX6_isFigure 1 (some .boolean) ∈ fx_WS := fx_in5 (List.mem_of_getElem? (i := 229) (by rfl)) (by rfl)
theorem wK_X6_212 : Cond.constantLong RX6 212 (48) ∈ fx_WS := fx_in5 (List.mem_of_getElem? (i := 230) (by rfl)) (by rfl)
theorem wK_X6_214 : Cond.constantLong RX6 214 (57) ∈ fx_WS := fx_in5 (List.mem_of_getElem? (i := 231) (by rfl)) (by rfl)
theorem wM_X6_268 : Cond.methodLink RX6 268 yX6_readsItem ∈ fx_WS := fx_in5 (List.mem_of_getElem? (i := 232) (by rfl)) (by rfl)
theorem wIn_X6_readsItem : Cond.instanceMethod yX6_readsItem ∈ fx_WS := fx_in5 (List.mem_of_getElem? (i := 234) (by rfl)) (by rfl)
theorem wCo_X6_readsItem : Cond.code yX6_readsItem cX6_readsItem 3 (some .boolean) ∈ fx_WS := fx_in5 (List.mem_of_getElem? (i := 235) (by rfl)) (by rfl)
theorem wM_X6_248 : Cond.methodLink RX6 248 yX6_isWord ∈ fx_WS := fx_in5 (List.mem_of_getElem? (i := 236) (by rfl)) (by rfl)
theorem wIn_X6_isWord : Cond.instanceMethod yX6_isWord ∈ fx_WS := fx_in5 (List.mem_of_getElem? (i := 238) (by rfl)) (by rfl)
theorem wCo_X6_isWord : Cond.code yX6_isWord cX6_isWord 10 (some .boolean) ∈ fx_WS := fx_in5 (List.mem_of_getElem? (i := 239) (by rfl)) (by rfl)
theorem wM_X6_252 : Cond.methodLink RX6 252 yX6_readsThing ∈ fx_WS := fx_in6 (List.mem_of_getElem? (i := 0) (by rfl)) (by rfl)
theorem wIn_X6_readsThing : Cond.instanceMethod yX6_readsThing ∈ fx_WS := fx_in6 (List.mem_of_getElem? (i := 2) (by rfl)) (by rfl)
theorem wCo_X6_readsThing : Cond.code yX6_readsThing cX6_readsThing 2 (some .boolean) ∈ fx_WS := fx_in6 (List.mem_of_getElem? (i := 3) (by rfl)) (by rfl)
theorem wM_X6_237 : Cond.methodLink RX6 237 yX6_goOn ∈ fx_WS := fx_in6 (List.mem_of_getElem? (i := 4) (by rfl)) (by rfl)
theorem wIn_X6_goOn : Cond.instanceMethod yX6_goOn ∈ fx_WS := fx_in6 (List.mem_of_getElem? (i := 6) (by rfl)) (by rfl)
theorem wCo_X6_goOn : Cond.code yX6_goOn cX6_goOn 1 none ∈ fx_WS := fx_in6 (List.mem_of_getElem? (i := 7) (by rfl)) (by rfl)
theorem wM_X6_240 : Cond.methodLink RX6 240 yX6_takes ∈ fx_WS := fx_in6 (List.mem_of_getElem? (i := 8) (by rfl)) (by rfl)
theorem wIn_X6_takes : Cond.instanceMethod yX6_takes ∈ fx_WS := fx_in6 (List.mem_of_getElem? (i := 10) (by rfl)) (by rfl)
theorem wCo_X6_takes : Cond.code yX6_takes cX6_takes 4 (some .boolean) ∈ fx_WS := fx_in6 (List.mem_of_getElem? (i := 11) (by rfl)) (by rfl)
theorem wM_X6_256 : Cond.methodLink RX6 256 yX6_readsSize ∈ fx_WS := fx_in6 (List.mem_of_getElem? (i := 12) (by rfl)) (by rfl)
theorem wIn_X6_readsSize : Cond.instanceMethod yX6_readsSize ∈ fx_WS := fx_in6 (List.mem_of_getElem? (i := 14) (by rfl)) (by rfl)
theorem wCo_X6_readsSize : Cond.code yX6_readsSize cX6_readsSize 3 (some .boolean) ∈ fx_WS := fx_in6 (List.mem_of_getElem? (i := 15) (by rfl)) (by rfl)
theorem wM_X6_259 : Cond.methodLink RX6 259 yX6_readsHour ∈ fx_WS := fx_in6 (List.mem_of_getElem? (i := 16) (by rfl)) (by rfl)
theorem wIn_X6_readsHour : Cond.instanceMethod yX6_readsHour ∈ fx_WS := fx_in6 (List.mem_of_getElem? (i := 18) (by rfl)) (by rfl)
theorem wCo_X6_readsHour : Cond.code yX6_readsHour cX6_readsHour 1 (some .boolean) ∈ fx_WS := fx_in6 (List.mem_of_getElem? (i := 19) (by rfl)) (by rfl)
theorem wM_X6_262 : Cond.methodLink RX6 262 yX6_readsDoes ∈ fx_WS := fx_in6 (List.mem_of_getElem? (i := 20) (by rfl)) (by rfl)
theorem wIn_X6_readsDoes : Cond.instanceMethod yX6_readsDoes ∈ fx_WS := fx_in6 (List.mem_of_getElem? (i := 22) (by rfl)) (by rfl)
theorem wCo_X6_readsDoes : Cond.code yX6_readsDoes cX6_readsDoes 1 (some .boolean) ∈ fx_WS := fx_in6 (List.mem_of_getElem? (i := 23) (by rfl)) (by rfl)
theorem wM_X6_265 : Cond.methodLink RX6 265 yX6_readsNeed ∈ fx_WS := fx_in6 (List.mem_of_getElem? (i := 24) (by rfl)) (by rfl)
theorem wIn_X6_readsNeed : Cond.instanceMethod yX6_readsNeed ∈ fx_WS := fx_in6 (List.mem_of_getElem? (i := 26) (by rfl)) (by rfl)
theorem wCo_X6_readsNeed : Cond.code yX6_readsNeed cX6_readsNeed 3 (some .boolean) ∈ fx_WS := fx_in6 (List.mem_of_getElem? (i := 27) (by rfl)) (by rfl)
theorem wM_L_120 : Cond.methodLink RL 120 yX6_part ∈ fx_WS := fx_in6 (List.mem_of_getElem? (i := 28) (by rfl)) (by rfl)
theorem wIn_X6_part : Cond.instanceMethod yX6_part ∈ fx_WS := fx_in6 (List.mem_of_getElem? (i := 29) (by rfl)) (by rfl)
theorem wSel_X6_part : Cond.selects yX6_part.cls yX6_part yX6_part ∈ fx_WS := fx_in6 (List.mem_of_getElem? (i := 30) (by rfl)) (by rfl)
theorem wCo_X6_part : Cond.code yX6_part cX6_part 2 (some .long) ∈ fx_WS := fx_in6 (List.mem_of_getElem? (i := 31) (by rfl)) (by rfl)
theorem wM_L_124 : Cond.methodLink RL 124 yX6_image ∈ fx_WS := fx_in6 (List.mem_of_getElem? (i := 32) (by rfl)) (by rfl)
theorem wIn_X6_image : Cond.instanceMethod yX6_image ∈ fx_WS := fx_in6 (List.mem_of_getElem? (i := 33) (by rfl)) (by rfl)
theorem wSel_X6_image : Cond.selects yX6_image.cls yX6_image yX6_image ∈ fx_WS := fx_in6 (List.mem_of_getElem? (i := 34) (by rfl)) (by rfl)
theorem wCo_X6_image : Cond.code yX6_image cX6_image 3 (some .int) ∈ fx_WS := fx_in6 (List.mem_of_getElem? (i := 35) (by rfl)) (by rfl)
theorem wM_L_128 : Cond.methodLink RL 128 yX6_from ∈ fx_WS := fx_in6 (List.mem_of_getElem? (i := 36) (by rfl)) (by rfl)
theorem wIn_X6_from : Cond.instanceMethod yX6_from ∈ fx_WS := fx_in6 (List.mem_of_getElem? (i := 37) (by rfl)) (by rfl)
theorem wSel_X6_from : Cond.selects yX6_from.cls yX6_from yX6_from ∈ fx_WS := fx_in6 (List.mem_of_getElem? (i := 38) (by rfl)) (by rfl)
theorem wCo_X6_from : Cond.code yX6_from cX6_from 3 (some .int) ∈ fx_WS := fx_in6 (List.mem_of_getElem? (i := 39) (by rfl)) (by rfl)
theorem wM_L_132 : Cond.methodLink RL 132 yX6_status ∈ fx_WS := fx_in6 (List.mem_of_getElem? (i := 40) (by rfl)) (by rfl)
theorem wIn_X6_status : Cond.instanceMethod yX6_status ∈ fx_WS := fx_in6 (List.mem_of_getElem? (i := 41) (by rfl)) (by rfl)
theorem wSel_X6_status : Cond.selects yX6_status.cls yX6_status yX6_status ∈ fx_WS := fx_in6 (List.mem_of_getElem? (i := 42) (by rfl)) (by rfl)
theorem wCo_X6_status : Cond.code yX6_status cX6_status 2 (some .int) ∈ fx_WS := fx_in6 (List.mem_of_getElem? (i := 43) (by rfl)) (by rfl)
theorem wK_X6_271 : Cond.constantLong RX6 271 (2) ∈ fx_WS := fx_in6 (List.mem_of_getElem? (i := 44) (by rfl)) (by rfl)
theorem wM_L_136 : Cond.methodLink RL 136 yX6_count ∈ fx_WS := fx_in6 (List.mem_of_getElem? (i := 45) (by rfl)) (by rfl)
theorem wIn_X6_count : Cond.instanceMethod yX6_count ∈ fx_WS := fx_in6 (List.mem_of_getElem? (i := 46) (by rfl)) (by rfl)
theorem wSel_X6_count : Cond.selects yX6_count.cls yX6_count yX6_count ∈ fx_WS := fx_in6 (List.mem_of_getElem? (i := 47) (by rfl)) (by rfl)
theorem wCo_X6_count : Cond.code yX6_count cX6_count 2 (some .int) ∈ fx_WS := fx_in6 (List.mem_of_getElem? (i := 48) (by rfl)) (by rfl)
theorem wM_X6_273 : Cond.methodLink RX6 273 yX6_counted ∈ fx_WS := fx_in6 (List.mem_of_getElem? (i := 49) (by rfl)) (by rfl)
theorem wIn_X6_counted : Cond.instanceMethod yX6_counted ∈ fx_WS := fx_in6 (List.mem_of_getElem? (i := 51) (by rfl)) (by rfl)
theorem wCo_X6_counted : Cond.code yX6_counted cX6_counted 2 (some .int) ∈ fx_WS := fx_in6 (List.mem_of_getElem? (i := 52) (by rfl)) (by rfl)
theorem wM_L_141 : Cond.methodLink RL 141 yX6_digest ∈ fx_WS := fx_in6 (List.mem_of_getElem? (i := 53) (by rfl)) (by rfl)
theorem wIn_X6_digest : Cond.instanceMethod yX6_digest ∈ fx_WS := fx_in6 (List.mem_of_getElem? (i := 54) (by rfl)) (by rfl)
theorem wSel_X6_digest : Cond.selects yX6_digest.cls yX6_digest yX6_digest ∈ fx_WS := fx_in6 (List.mem_of_getElem? (i := 55) (by rfl)) (by rfl)
theorem wCo_X6_digest : Cond.code yX6_digest cX6_digest 4 (some .long) ∈ fx_WS := fx_in6 (List.mem_of_getElem? (i := 56) (by rfl)) (by rfl)
theorem wK_X6_278 : Cond.constantLong RX6 278 (751) ∈ fx_WS := fx_in6 (List.mem_of_getElem? (i := 57) (by rfl)) (by rfl)
theorem wK_X6_276 : Cond.constantLong RX6 276 (31) ∈ fx_WS := fx_in6 (List.mem_of_getElem? (i := 58) (by rfl)) (by rfl)
theorem wM_X6_280 : Cond.methodLink RX6 280 yX6_sums ∈ fx_WS := fx_in6 (List.mem_of_getElem? (i := 59) (by rfl)) (by rfl)
theorem wIn_X6_sums : Cond.instanceMethod yX6_sums ∈ fx_WS := fx_in6 (List.mem_of_getElem? (i := 61) (by rfl)) (by rfl)
theorem wCo_X6_sums : Cond.code yX6_sums cX6_sums 8 (some .long) ∈ fx_WS := fx_in6 (List.mem_of_getElem? (i := 62) (by rfl)) (by rfl)
theorem wK_L_41 : Cond.constantLong RL 41 (4294967295) ∈ fx_WS := fx_in6 (List.mem_of_getElem? (i := 63) (by rfl)) (by rfl)
theorem wF_J0_9 : Cond.fieldLink RJ0 9 "java/lang/String" "value" "[B" ∈ fx_WS := fx_in6 (List.mem_of_getElem? (i := 64) (by rfl)) (by rfl)
theorem wF_J0_15 : Cond.fieldLink RJ0 15 "java/lang/String" "coder" "B" ∈ fx_WS := fx_in6 (List.mem_of_getElem? (i := 65) (by rfl)) (by rfl)
theorem wSel_X5_refuseBad : Cond.selects yX5_refuseBad.cls yX5_refuseBad yX5_refuseBad ∈ fx_WS := fx_in0 (List.mem_of_getElem? (i := 0) (by rfl)) (by rfl)
theorem wSel_X5_refuseFull : Cond.selects yX5_refuseFull.cls yX5_refuseFull yX5_refuseFull ∈ fx_WS := fx_in0 (List.mem_of_getElem? (i := 1) (by rfl)) (by rfl)
theorem wSel_X5_putKind : Cond.selects yX5_putKind.cls yX5_putKind yX5_putKind ∈ fx_WS := fx_in0 (List.mem_of_getElem? (i := 2) (by rfl)) (by rfl)
theorem wSel_X5_putLine : Cond.selects yX5_putLine.cls yX5_putLine yX5_putLine ∈ fx_WS := fx_in0 (List.mem_of_getElem? (i := 3) (by rfl)) (by rfl)
theorem wSel_X5_putRich : Cond.selects yX5_putRich.cls yX5_putRich yX5_putRich ∈ fx_WS := fx_in0 (List.mem_of_getElem? (i := 4) (by rfl)) (by rfl)
theorem wSel_X4_forgetOldest : Cond.selects yX4_forgetOldest.cls yX4_forgetOldest yX4_forgetOldest ∈ fx_WS := fx_in0 (List.mem_of_getElem? (i := 5) (by rfl)) (by rfl)
theorem wSel_X5_refuseNo : Cond.selects yX5_refuseNo.cls yX5_refuseNo yX5_refuseNo ∈ fx_WS := fx_in0 (List.mem_of_getElem? (i := 6) (by rfl)) (by rfl)
theorem wSel_X3_nextToken : Cond.selects yX3_nextToken.cls yX3_nextToken yX3_nextToken ∈ fx_WS := fx_in0 (List.mem_of_getElem? (i := 7) (by rfl)) (by rfl)
theorem wSel_X3_readItem : Cond.selects yX3_readItem.cls yX3_readItem yX3_readItem ∈ fx_WS := fx_in0 (List.mem_of_getElem? (i := 8) (by rfl)) (by rfl)
theorem wSel_X3_fail : Cond.selects yX3_fail.cls yX3_fail yX3_fail ∈ fx_WS := fx_in0 (List.mem_of_getElem? (i := 9) (by rfl)) (by rfl)
theorem wSel_X3_spells : Cond.selects yX3_spells.cls yX3_spells yX3_spells ∈ fx_WS := fx_in0 (List.mem_of_getElem? (i := 10) (by rfl)) (by rfl)
theorem wSel_X3_readThing : Cond.selects yX3_readThing.cls yX3_readThing yX3_readThing ∈ fx_WS := fx_in0 (List.mem_of_getElem? (i := 11) (by rfl)) (by rfl)
theorem wSel_X3_figure : Cond.selects yX3_figure.cls yX3_figure yX3_figure ∈ fx_WS := fx_in0 (List.mem_of_getElem? (i := 12) (by rfl)) (by rfl)
theorem wSel_X3_readPeople : Cond.selects yX3_readPeople.cls yX3_readPeople yX3_readPeople ∈ fx_WS := fx_in0 (List.mem_of_getElem? (i := 13) (by rfl)) (by rfl)
theorem wSel_X3_number : Cond.selects yX3_number.cls yX3_number yX3_number ∈ fx_WS := fx_in0 (List.mem_of_getElem? (i := 14) (by rfl)) (by rfl)
theorem wSel_X3_stops : Cond.selects yX3_stops.cls yX3_stops yX3_stops ∈ fx_WS := fx_in0 (List.mem_of_getElem? (i := 15) (by rfl)) (by rfl)
theorem wSel_X3_readHours : Cond.selects yX3_readHours.cls yX3_readHours yX3_readHours ∈ fx_WS := fx_in0 (List.mem_of_getElem? (i := 16) (by rfl)) (by rfl)
theorem wSel_X3_readHour : Cond.selects yX3_readHour.cls yX3_readHour yX3_readHour ∈ fx_WS := fx_in0 (List.mem_of_getElem? (i := 17) (by rfl)) (by rfl)
theorem wSel_X3_readLine : Cond.selects yX3_readLine.cls yX3_readLine yX3_readLine ∈ fx_WS := fx_in0 (List.mem_of_getElem? (i := 18) (by rfl)) (by rfl)
theorem wSel_X3_readRich : Cond.selects yX3_readRich.cls yX3_readRich yX3_readRich ∈ fx_WS := fx_in0 (List.mem_of_getElem? (i := 19) (by rfl)) (by rfl)
theorem wSel_X3_readDoes : Cond.selects yX3_readDoes.cls yX3_readDoes yX3_readDoes ∈ fx_WS := fx_in0 (List.mem_of_getElem? (i := 20) (by rfl)) (by rfl)
theorem wSel_X3_readNeed : Cond.selects yX3_readNeed.cls yX3_readNeed yX3_readNeed ∈ fx_WS := fx_in0 (List.mem_of_getElem? (i := 21) (by rfl)) (by rfl)
theorem wSel_X0_isFined : Cond.selects yX0_isFined.cls yX0_isFined yX0_isFined ∈ fx_WS := fx_in0 (List.mem_of_getElem? (i := 22) (by rfl)) (by rfl)
theorem wSel_X0_boughtBy : Cond.selects yX0_boughtBy.cls yX0_boughtBy yX0_boughtBy ∈ fx_WS := fx_in0 (List.mem_of_getElem? (i := 23) (by rfl)) (by rfl)
theorem wSel_X0_wasDone : Cond.selects yX0_wasDone.cls yX0_wasDone yX0_wasDone ∈ fx_WS := fx_in0 (List.mem_of_getElem? (i := 24) (by rfl)) (by rfl)
theorem wSel_X5_allFines : Cond.selects yX5_allFines.cls yX5_allFines yX5_allFines ∈ fx_WS := fx_in0 (List.mem_of_getElem? (i := 25) (by rfl)) (by rfl)
theorem wSel_X0_finesOfHour : Cond.selects yX0_finesOfHour.cls yX0_finesOfHour yX0_finesOfHour ∈ fx_WS := fx_in0 (List.mem_of_getElem? (i := 26) (by rfl)) (by rfl)
theorem wSel_X1_writeRows : Cond.selects yX1_writeRows.cls yX1_writeRows yX1_writeRows ∈ fx_WS := fx_in0 (List.mem_of_getElem? (i := 27) (by rfl)) (by rfl)
theorem wSel_X1_writeRowsOf : Cond.selects yX1_writeRowsOf.cls yX1_writeRowsOf yX1_writeRowsOf ∈ fx_WS := fx_in0 (List.mem_of_getElem? (i := 28) (by rfl)) (by rfl)
theorem wSel_X1_writeFirstRow : Cond.selects yX1_writeFirstRow.cls yX1_writeFirstRow yX1_writeFirstRow ∈ fx_WS := fx_in0 (List.mem_of_getElem? (i := 29) (by rfl)) (by rfl)
theorem wSel_X1_waysTogether : Cond.selects yX1_waysTogether.cls yX1_waysTogether yX1_waysTogether ∈ fx_WS := fx_in0 (List.mem_of_getElem? (i := 30) (by rfl)) (by rfl)
theorem wSel_X1_search : Cond.selects yX1_search.cls yX1_search yX1_search ∈ fx_WS := fx_in0 (List.mem_of_getElem? (i := 31) (by rfl)) (by rfl)
theorem wSel_X1_clearDay : Cond.selects yX1_clearDay.cls yX1_clearDay yX1_clearDay ∈ fx_WS := fx_in0 (List.mem_of_getElem? (i := 32) (by rfl)) (by rfl)
theorem wSel_X1_liftRow : Cond.selects yX1_liftRow.cls yX1_liftRow yX1_liftRow ∈ fx_WS := fx_in0 (List.mem_of_getElem? (i := 33) (by rfl)) (by rfl)
theorem wSel_X1_startPerson : Cond.selects yX1_startPerson.cls yX1_startPerson yX1_startPerson ∈ fx_WS := fx_in0 (List.mem_of_getElem? (i := 34) (by rfl)) (by rfl)
theorem wSel_X1_setPricesToAll : Cond.selects yX1_setPricesToAll.cls yX1_setPricesToAll yX1_setPricesToAll ∈ fx_WS := fx_in0 (List.mem_of_getElem? (i := 35) (by rfl)) (by rfl)
theorem wSel_X0_othersWith : Cond.selects yX0_othersWith.cls yX0_othersWith yX0_othersWith ∈ fx_WS := fx_in0 (List.mem_of_getElem? (i := 36) (by rfl)) (by rfl)
theorem wSel_X0_addedToCopies : Cond.selects yX0_addedToCopies.cls yX0_addedToCopies yX0_addedToCopies ∈ fx_WS := fx_in0 (List.mem_of_getElem? (i := 37) (by rfl)) (by rfl)
theorem wSel_X1_priceOfRow : Cond.selects yX1_priceOfRow.cls yX1_priceOfRow yX1_priceOfRow ∈ fx_WS := fx_in0 (List.mem_of_getElem? (i := 38) (by rfl)) (by rfl)
theorem wSel_X1_layRow : Cond.selects yX1_layRow.cls yX1_layRow yX1_layRow ∈ fx_WS := fx_in0 (List.mem_of_getElem? (i := 39) (by rfl)) (by rfl)
theorem wSel_X1_finesInOrder : Cond.selects yX1_finesInOrder.cls yX1_finesInOrder yX1_finesInOrder ∈ fx_WS := fx_in0 (List.mem_of_getElem? (i := 40) (by rfl)) (by rfl)
theorem wSel_X1_setPrices : Cond.selects yX1_setPrices.cls yX1_setPrices yX1_setPrices ∈ fx_WS := fx_in0 (List.mem_of_getElem? (i := 41) (by rfl)) (by rfl)
theorem wSel_X1_bestRow : Cond.selects yX1_bestRow.cls yX1_bestRow yX1_bestRow ∈ fx_WS := fx_in0 (List.mem_of_getElem? (i := 42) (by rfl)) (by rfl)
theorem wSel_X1_anyoneChanges : Cond.selects yX1_anyoneChanges.cls yX1_anyoneChanges yX1_anyoneChanges ∈ fx_WS := fx_in0 (List.mem_of_getElem? (i := 43) (by rfl)) (by rfl)
theorem wSel_X1_priceOfNow : Cond.selects yX1_priceOfNow.cls yX1_priceOfNow yX1_priceOfNow ∈ fx_WS := fx_in0 (List.mem_of_getElem? (i := 44) (by rfl)) (by rfl)
theorem wSel_X5_finesOfOne : Cond.selects yX5_finesOfOne.cls yX5_finesOfOne yX5_finesOfOne ∈ fx_WS := fx_in0 (List.mem_of_getElem? (i := 45) (by rfl)) (by rfl)
theorem wSel_X2_mayHavePaid : Cond.selects yX2_mayHavePaid.cls yX2_mayHavePaid yX2_mayHavePaid ∈ fx_WS := fx_in0 (List.mem_of_getElem? (i := 46) (by rfl)) (by rfl)
theorem wSel_X2_countWay : Cond.selects yX2_countWay.cls yX2_countWay yX2_countWay ∈ fx_WS := fx_in0 (List.mem_of_getElem? (i := 47) (by rfl)) (by rfl)
theorem wSel_X5_timesCopied : Cond.selects yX5_timesCopied.cls yX5_timesCopied yX5_timesCopied ∈ fx_WS := fx_in0 (List.mem_of_getElem? (i := 48) (by rfl)) (by rfl)
theorem wSel_X5_amount : Cond.selects yX5_amount.cls yX5_amount yX5_amount ∈ fx_WS := fx_in0 (List.mem_of_getElem? (i := 49) (by rfl)) (by rfl)
theorem wSel_X5_digestWith : Cond.selects yX5_digestWith.cls yX5_digestWith yX5_digestWith ∈ fx_WS := fx_in0 (List.mem_of_getElem? (i := 50) (by rfl)) (by rfl)
theorem wSel_X6_isThing : Cond.selects yX6_isThing.cls yX6_isThing yX6_isThing ∈ fx_WS := fx_in0 (List.mem_of_getElem? (i := 51) (by rfl)) (by rfl)
theorem wSel_X6_things : Cond.selects yX6_things.cls yX6_things yX6_things ∈ fx_WS := fx_in0 (List.mem_of_getElem? (i := 52) (by rfl)) (by rfl)
theorem wSel_X6_bad : Cond.selects yX6_bad.cls yX6_bad yX6_bad ∈ fx_WS := fx_in0 (List.mem_of_getElem? (i := 53) (by rfl)) (by rfl)
theorem wSel_X6_full : Cond.selects yX6_full.cls yX6_full yX6_full ∈ fx_WS := fx_in0 (List.mem_of_getElem? (i := 54) (by rfl)) (by rfl)
theorem wSel_X6_isHour : Cond.selects yX6_isHour.cls yX6_isHour yX6_isHour ∈ fx_WS := fx_in0 (List.mem_of_getElem? (i := 55) (by rfl)) (by rfl)
theorem wSel_X6_hours : Cond.selects yX6_hours.cls yX6_hours yX6_hours ∈ fx_WS := fx_in0 (List.mem_of_getElem? (i := 56) (by rfl)) (by rfl)
theorem wSel_X6_isOne : Cond.selects yX6_isOne.cls yX6_isOne yX6_isOne ∈ fx_WS := fx_in0 (List.mem_of_getElem? (i := 57) (by rfl)) (by rfl)
theorem wSel_X6_people : Cond.selects yX6_people.cls yX6_people yX6_people ∈ fx_WS := fx_in0 (List.mem_of_getElem? (i := 58) (by rfl)) (by rfl)
theorem wSel_X6_no : Cond.selects yX6_no.cls yX6_no yX6_no ∈ fx_WS := fx_in0 (List.mem_of_getElem? (i := 59) (by rfl)) (by rfl)
theorem wSel_X6_layNow : Cond.selects yX6_layNow.cls yX6_layNow yX6_layNow ∈ fx_WS := fx_in0 (List.mem_of_getElem? (i := 60) (by rfl)) (by rfl)
theorem wSel_X6_layLine : Cond.selects yX6_layLine.cls yX6_layLine yX6_layLine ∈ fx_WS := fx_in0 (List.mem_of_getElem? (i := 61) (by rfl)) (by rfl)
theorem wSel_X6_depth : Cond.selects yX6_depth.cls yX6_depth yX6_depth ∈ fx_WS := fx_in0 (List.mem_of_getElem? (i := 62) (by rfl)) (by rfl)
theorem wSel_X6_takeDone : Cond.selects yX6_takeDone.cls yX6_takeDone yX6_takeDone ∈ fx_WS := fx_in0 (List.mem_of_getElem? (i := 63) (by rfl)) (by rfl)
theorem wSel_X6_paysOf : Cond.selects yX6_paysOf.cls yX6_paysOf yX6_paysOf ∈ fx_WS := fx_in0 (List.mem_of_getElem? (i := 64) (by rfl)) (by rfl)
theorem wSel_X6_doing : Cond.selects yX6_doing.cls yX6_doing yX6_doing ∈ fx_WS := fx_in0 (List.mem_of_getElem? (i := 65) (by rfl)) (by rfl)
theorem wSel_X6_isWith : Cond.selects yX6_isWith.cls yX6_isWith yX6_isWith ∈ fx_WS := fx_in0 (List.mem_of_getElem? (i := 66) (by rfl)) (by rfl)
theorem wSel_X6_wasDone : Cond.selects yX6_wasDone.cls yX6_wasDone yX6_wasDone ∈ fx_WS := fx_in0 (List.mem_of_getElem? (i := 67) (by rfl)) (by rfl)
theorem wSel_X6_allIn : Cond.selects yX6_allIn.cls yX6_allIn yX6_allIn ∈ fx_WS := fx_in0 (List.mem_of_getElem? (i := 68) (by rfl)) (by rfl)
theorem wSel_X6_paysIn : Cond.selects yX6_paysIn.cls yX6_paysIn yX6_paysIn ∈ fx_WS := fx_in0 (List.mem_of_getElem? (i := 69) (by rfl)) (by rfl)
theorem wSel_X6_findAllRows : Cond.selects yX6_findAllRows.cls yX6_findAllRows yX6_findAllRows ∈ fx_WS := fx_in0 (List.mem_of_getElem? (i := 70) (by rfl)) (by rfl)
theorem wSel_X6_findRows : Cond.selects yX6_findRows.cls yX6_findRows yX6_findRows ∈ fx_WS := fx_in0 (List.mem_of_getElem? (i := 71) (by rfl)) (by rfl)
theorem wSel_X6_takeNeeds : Cond.selects yX6_takeNeeds.cls yX6_takeNeeds yX6_takeNeeds ∈ fx_WS := fx_in0 (List.mem_of_getElem? (i := 72) (by rfl)) (by rfl)
theorem wSel_X6_keepRow : Cond.selects yX6_keepRow.cls yX6_keepRow yX6_keepRow ∈ fx_WS := fx_in0 (List.mem_of_getElem? (i := 73) (by rfl)) (by rfl)
theorem wSel_X6_ways : Cond.selects yX6_ways.cls yX6_ways yX6_ways ∈ fx_WS := fx_in0 (List.mem_of_getElem? (i := 74) (by rfl)) (by rfl)
theorem wSel_X6_findLeast : Cond.selects yX6_findLeast.cls yX6_findLeast yX6_findLeast ∈ fx_WS := fx_in0 (List.mem_of_getElem? (i := 75) (by rfl)) (by rfl)
theorem wSel_X6_takeNothing : Cond.selects yX6_takeNothing.cls yX6_takeNothing yX6_takeNothing ∈ fx_WS := fx_in0 (List.mem_of_getElem? (i := 76) (by rfl)) (by rfl)
theorem wSel_X6_takeRow : Cond.selects yX6_takeRow.cls yX6_takeRow yX6_takeRow ∈ fx_WS := fx_in0 (List.mem_of_getElem? (i := 77) (by rfl)) (by rfl)
theorem wSel_X6_layOrder : Cond.selects yX6_layOrder.cls yX6_layOrder yX6_layOrder ∈ fx_WS := fx_in0 (List.mem_of_getElem? (i := 78) (by rfl)) (by rfl)
theorem wSel_X6_listed : Cond.selects yX6_listed.cls yX6_listed yX6_listed ∈ fx_WS := fx_in0 (List.mem_of_getElem? (i := 79) (by rfl)) (by rfl)
theorem wSel_X6_takeBest : Cond.selects yX6_takeBest.cls yX6_takeBest yX6_takeBest ∈ fx_WS := fx_in0 (List.mem_of_getElem? (i := 80) (by rfl)) (by rfl)
theorem wSel_X6_changes : Cond.selects yX6_changes.cls yX6_changes yX6_changes ∈ fx_WS := fx_in0 (List.mem_of_getElem? (i := 81) (by rfl)) (by rfl)
theorem wSel_X6_pay : Cond.selects yX6_pay.cls yX6_pay yX6_pay ∈ fx_WS := fx_in0 (List.mem_of_getElem? (i := 82) (by rfl)) (by rfl)
theorem wSel_X6_look : Cond.selects yX6_look.cls yX6_look yX6_look ∈ fx_WS := fx_in0 (List.mem_of_getElem? (i := 83) (by rfl)) (by rfl)
theorem wSel_X6_readsItem : Cond.selects yX6_readsItem.cls yX6_readsItem yX6_readsItem ∈ fx_WS := fx_in0 (List.mem_of_getElem? (i := 84) (by rfl)) (by rfl)
theorem wSel_X6_isWord : Cond.selects yX6_isWord.cls yX6_isWord yX6_isWord ∈ fx_WS := fx_in0 (List.mem_of_getElem? (i := 85) (by rfl)) (by rfl)
theorem wSel_X6_readsThing : Cond.selects yX6_readsThing.cls yX6_readsThing yX6_readsThing ∈ fx_WS := fx_in0 (List.mem_of_getElem? (i := 86) (by rfl)) (by rfl)
theorem wSel_X6_goOn : Cond.selects yX6_goOn.cls yX6_goOn yX6_goOn ∈ fx_WS := fx_in0 (List.mem_of_getElem? (i := 87) (by rfl)) (by rfl)
theorem wSel_X6_takes : Cond.selects yX6_takes.cls yX6_takes yX6_takes ∈ fx_WS := fx_in0 (List.mem_of_getElem? (i := 88) (by rfl)) (by rfl)
theorem wSel_X6_readsSize : Cond.selects yX6_readsSize.cls yX6_readsSize yX6_readsSize ∈ fx_WS := fx_in0 (List.mem_of_getElem? (i := 89) (by rfl)) (by rfl)
theorem wSel_X6_readsHour : Cond.selects yX6_readsHour.cls yX6_readsHour yX6_readsHour ∈ fx_WS := fx_in0 (List.mem_of_getElem? (i := 90) (by rfl)) (by rfl)
theorem wSel_X6_readsDoes : Cond.selects yX6_readsDoes.cls yX6_readsDoes yX6_readsDoes ∈ fx_WS := fx_in0 (List.mem_of_getElem? (i := 91) (by rfl)) (by rfl)
theorem wSel_X6_readsNeed : Cond.selects yX6_readsNeed.cls yX6_readsNeed yX6_readsNeed ∈ fx_WS := fx_in0 (List.mem_of_getElem? (i := 92) (by rfl)) (by rfl)
theorem wSel_X6_counted : Cond.selects yX6_counted.cls yX6_counted yX6_counted ∈ fx_WS := fx_in0 (List.mem_of_getElem? (i := 93) (by rfl)) (by rfl)
theorem wSel_X6_sums : Cond.selects yX6_sums.cls yX6_sums yX6_sums ∈ fx_WS := fx_in0 (List.mem_of_getElem? (i := 94) (by rfl)) (by rfl)
set_option maxRecDepth 20000 in
theorem kL_X0 : ∀ w ∈ u_ws RX0 TX0 6, w ∈ fx_WS := by
  have h : u_ws RX0 TX0 6 = [166, 168, 170, 172, 174, 176].filterMap (fun i => tables_1[i]?) := by decide +kernel
  have h2 : (u_ws RX0 TX0 6).all goodWord = true := by decide +kernel
  intro w hw
  have hg := List.all_eq_true.mp h2 w hw
  rw [h] at hw
  obtain ⟨i, -, hi⟩ := List.mem_filterMap.mp hw
  exact List.mem_filter.mpr ⟨List.mem_append_right _ (List.mem_of_getElem? hi), hg⟩
theorem kC_X0 : fx_cls 0 RX0 TX0 6 := ⟨rfl, by decide, by decide, rfl, kL_X0, ⟨tyX0, tyX0_ok⟩, nmX0⟩
set_option maxRecDepth 20000 in
theorem kL_X1 : ∀ w ∈ u_ws RX1 TX1 13, w ∈ fx_WS := by
  have h : u_ws RX1 TX1 13 = [202, 204, 206, 208, 210, 212, 214, 216, 218, 220, 222, 224, 226].filterMap (fun i => tables_1[i]?) := by decide +kernel
  have h2 : (u_ws RX1 TX1 13).all goodWord = true := by decide +kernel
  intro w hw
  have hg := List.all_eq_true.mp h2 w hw
  rw [h] at hw
  obtain ⟨i, -, hi⟩ := List.mem_filterMap.mp hw
  exact List.mem_filter.mpr ⟨List.mem_append_right _ (List.mem_of_getElem? hi), hg⟩
theorem kC_X1 : fx_cls 1 RX1 TX1 13 := ⟨rfl, by decide, by decide, rfl, kL_X1, ⟨tyX1, tyX1_ok⟩, nmX1⟩
set_option maxRecDepth 20000 in
theorem kL_X2 : ∀ w ∈ u_ws RX2 TX2 6, w ∈ fx_WS := by
  have h : u_ws RX2 TX2 6 = [243, 245, 247, 249, 251, 253].filterMap (fun i => tables_1[i]?) := by decide +kernel
  have h2 : (u_ws RX2 TX2 6).all goodWord = true := by decide +kernel
  intro w hw
  have hg := List.all_eq_true.mp h2 w hw
  rw [h] at hw
  obtain ⟨i, -, hi⟩ := List.mem_filterMap.mp hw
  exact List.mem_filter.mpr ⟨List.mem_append_right _ (List.mem_of_getElem? hi), hg⟩
theorem kC_X2 : fx_cls 2 RX2 TX2 6 := ⟨rfl, by decide, by decide, rfl, kL_X2, ⟨tyX2, tyX2_ok⟩, nmX2⟩
set_option maxRecDepth 20000 in
theorem kL_X3 : ∀ w ∈ u_ws RX3 TX3 7, w ∈ fx_WS := by
  have h : u_ws RX3 TX3 7 = [135, 137, 139, 141, 143, 145, 147].filterMap (fun i => tables_1[i]?) := by decide +kernel
  have h2 : (u_ws RX3 TX3 7).all goodWord = true := by decide +kernel
  intro w hw
  have hg := List.all_eq_true.mp h2 w hw
  rw [h] at hw
  obtain ⟨i, -, hi⟩ := List.mem_filterMap.mp hw
  exact List.mem_filter.mpr ⟨List.mem_append_right _ (List.mem_of_getElem? hi), hg⟩
theorem kC_X3 : fx_cls 3 RX3 TX3 7 := ⟨rfl, by decide, by decide, rfl, kL_X3, ⟨tyX3, tyX3_ok⟩, nmX3⟩
set_option maxRecDepth 20000 in
theorem kL_X4 : ∀ w ∈ u_ws RX4 TX4 14, w ∈ fx_WS := by
  have h : u_ws RX4 TX4 14 = [90, 92, 94, 96, 98, 100, 102, 104, 106, 108, 110, 112, 114, 116].filterMap (fun i => tables_1[i]?) := by decide +kernel
  have h2 : (u_ws RX4 TX4 14).all goodWord = true := by decide +kernel
  intro w hw
  have hg := List.all_eq_true.mp h2 w hw
  rw [h] at hw
  obtain ⟨i, -, hi⟩ := List.mem_filterMap.mp hw
  exact List.mem_filter.mpr ⟨List.mem_append_right _ (List.mem_of_getElem? hi), hg⟩
theorem kC_X4 : fx_cls 4 RX4 TX4 14 := ⟨rfl, by decide, by decide, rfl, kL_X4, ⟨tyX4, tyX4_ok⟩, nmX4⟩
set_option maxRecDepth 20000 in
theorem kL_X5 : ∀ w ∈ u_ws RX5 TX5 14, w ∈ fx_WS := by
  have h : u_ws RX5 TX5 14 = [270, 272, 274, 276, 278, 280, 282, 284, 286, 288, 290, 292, 294, 296].filterMap (fun i => tables_1[i]?) := by decide +kernel
  have h2 : (u_ws RX5 TX5 14).all goodWord = true := by decide +kernel
  intro w hw
  have hg := List.all_eq_true.mp h2 w hw
  rw [h] at hw
  obtain ⟨i, -, hi⟩ := List.mem_filterMap.mp hw
  exact List.mem_filter.mpr ⟨List.mem_append_right _ (List.mem_of_getElem? hi), hg⟩
theorem kC_X5 : fx_cls 5 RX5 TX5 14 := ⟨rfl, by decide, by decide, rfl, kL_X5, ⟨tyX5, tyX5_ok⟩, nmX5⟩
set_option maxRecDepth 20000 in
theorem kL_X6 : ∀ w ∈ u_ws RX6 TX6 25, w ∈ fx_WS := by
  have h : u_ws RX6 TX6 25 = [888, 890, 892, 894, 896, 898, 900, 902, 904, 906, 908, 910, 912, 914, 916, 918, 920, 922, 924, 926, 928, 930, 932, 934, 936].filterMap (fun i => tables_1[i]?) := by decide +kernel
  have h2 : (u_ws RX6 TX6 25).all goodWord = true := by decide +kernel
  intro w hw
  have hg := List.all_eq_true.mp h2 w hw
  rw [h] at hw
  obtain ⟨i, -, hi⟩ := List.mem_filterMap.mp hw
  exact List.mem_filter.mpr ⟨List.mem_append_right _ (List.mem_of_getElem? hi), hg⟩
theorem kC_X6 : fx_cls 6 RX6 TX6 25 := ⟨rfl, by decide, by decide, rfl, kL_X6, ⟨tyX6, tyX6_ok⟩, nmX6⟩
theorem kD_X5_init : fx_md yX5_init cX5_init 2 none 0 := ⟨⟨by decide, by decide, by decide +kernel⟩, wCo_X5_init, wI_X5⟩
theorem kD_X4_init : fx_md yX4_init cX4_init 1 none 0 := ⟨⟨by decide, by decide, by decide +kernel⟩, wCo_X4_init, wI_X4⟩
theorem kD_X4_begin : fx_md yX4_begin cX4_begin 1 none 0 := ⟨⟨by decide, by decide, by decide +kernel⟩, wCo_X4_begin, wI_X4⟩
theorem kI_X4_begin : fx_mi yX4_begin := ⟨wIn_X4_begin, wSel_X4_begin⟩
theorem kD_X4_settle : fx_md yX4_settle cX4_settle 4 none 2 := ⟨⟨by decide, by decide, by decide +kernel⟩, wCo_X4_settle, wI_X4⟩
theorem kI_X4_settle : fx_mi yX4_settle := ⟨wIn_X4_settle, wSel_X4_settle⟩
theorem kD_J7_fill_53178 : fx_md yJ7_fill_53178 cJ7_fill_53178 4 none 2 := ⟨⟨by decide, by decide, by decide +kernel⟩, wCo_J7_fill_53178, wI_J7⟩
theorem kD_X3_init : fx_md yX3_init cX3_init 1 none 0 := ⟨⟨by decide, by decide, by decide +kernel⟩, wCo_X3_init, wI_X3⟩
theorem kD_X0_init : fx_md yX0_init cX0_init 1 none 0 := ⟨⟨by decide, by decide, by decide +kernel⟩, wCo_X0_init, wI_X0⟩
theorem kD_X1_init : fx_md yX1_init cX1_init 1 none 0 := ⟨⟨by decide, by decide, by decide +kernel⟩, wCo_X1_init, wI_X1⟩
theorem kD_X2_init : fx_md yX2_init cX2_init 1 none 0 := ⟨⟨by decide, by decide, by decide +kernel⟩, wCo_X2_init, wI_X2⟩
theorem kD_X5_thing : fx_md yX5_thing cX5_thing 2 (some .int) 1 := ⟨⟨by decide, by decide, by decide +kernel⟩, wCo_X5_thing, wI_X5⟩
theorem kI_X5_thing : fx_mi yX5_thing := ⟨wIn_X5_thing, wSel_X5_thing⟩
theorem kD_X4_hasThing : fx_md yX4_hasThing cX4_hasThing 2 (some .boolean) 1 := ⟨⟨by decide, by decide, by decide +kernel⟩, wCo_X4_hasThing, wI_X4⟩
theorem kI_X4_hasThing : fx_mi yX4_hasThing := ⟨wIn_X4_hasThing, wSel_X4_hasThing⟩
theorem kD_X5_within : fx_md yX5_within cX5_within 3 (some .boolean) 3 := ⟨⟨by decide, by decide, by decide +kernel⟩, wCo_X5_within, wI_X5⟩
theorem kD_X5_refuseBad : fx_md yX5_refuseBad cX5_refuseBad 2 (some .int) 1 := ⟨⟨by decide, by decide, by decide +kernel⟩, wCo_X5_refuseBad, wI_X5⟩
theorem kI_X5_refuseBad : fx_mi yX5_refuseBad := ⟨wIn_X5_refuseBad, wSel_X5_refuseBad⟩
theorem kD_X5_refuseFull : fx_md yX5_refuseFull cX5_refuseFull 1 (some .int) 0 := ⟨⟨by decide, by decide, by decide +kernel⟩, wCo_X5_refuseFull, wI_X5⟩
theorem kI_X5_refuseFull : fx_mi yX5_refuseFull := ⟨wIn_X5_refuseFull, wSel_X5_refuseFull⟩
theorem kD_X4_addThing : fx_md yX4_addThing cX4_addThing 2 none 1 := ⟨⟨by decide, by decide, by decide +kernel⟩, wCo_X4_addThing, wI_X4⟩
theorem kI_X4_addThing : fx_mi yX4_addThing := ⟨wIn_X4_addThing, wSel_X4_addThing⟩
theorem kD_X5_town : fx_md yX5_town cX5_town 3 (some .int) 2 := ⟨⟨by decide, by decide, by decide +kernel⟩, wCo_X5_town, wI_X5⟩
theorem kI_X5_town : fx_mi yX5_town := ⟨wIn_X5_town, wSel_X5_town⟩
theorem kD_X5_put : fx_md yX5_put cX5_put 4 (some .int) 3 := ⟨⟨by decide, by decide, by decide +kernel⟩, wCo_X5_put, wI_X5⟩
theorem kI_X5_put : fx_mi yX5_put := ⟨wIn_X5_put, wSel_X5_put⟩
theorem kD_X4_hasHour : fx_md yX4_hasHour cX4_hasHour 2 (some .boolean) 1 := ⟨⟨by decide, by decide, by decide +kernel⟩, wCo_X4_hasHour, wI_X4⟩
theorem kI_X4_hasHour : fx_mi yX4_hasHour := ⟨wIn_X4_hasHour, wSel_X4_hasHour⟩
theorem kD_X5_putKind : fx_md yX5_putKind cX5_putKind 4 (some .int) 2 := ⟨⟨by decide, by decide, by decide +kernel⟩, wCo_X5_putKind, wI_X5⟩
theorem kI_X5_putKind : fx_mi yX5_putKind := ⟨wIn_X5_putKind, wSel_X5_putKind⟩
theorem kD_X5_putLine : fx_md yX5_putLine cX5_putLine 3 (some .int) 1 := ⟨⟨by decide, by decide, by decide +kernel⟩, wCo_X5_putLine, wI_X5⟩
theorem kI_X5_putLine : fx_mi yX5_putLine := ⟨wIn_X5_putLine, wSel_X5_putLine⟩
theorem kD_X4_hasPerson : fx_md yX4_hasPerson cX4_hasPerson 2 (some .boolean) 1 := ⟨⟨by decide, by decide, by decide +kernel⟩, wCo_X4_hasPerson, wI_X4⟩
theorem kI_X4_hasPerson : fx_mi yX4_hasPerson := ⟨wIn_X4_hasPerson, wSel_X4_hasPerson⟩
theorem kD_X5_putRich : fx_md yX5_putRich cX5_putRich 3 (some .int) 1 := ⟨⟨by decide, by decide, by decide +kernel⟩, wCo_X5_putRich, wI_X5⟩
theorem kI_X5_putRich : fx_mi yX5_putRich := ⟨wIn_X5_putRich, wSel_X5_putRich⟩
theorem kD_X5_does : fx_md yX5_does cX5_does 6 (some .int) 3 := ⟨⟨by decide, by decide, by decide +kernel⟩, wCo_X5_does, wI_X5⟩
theorem kI_X5_does : fx_mi yX5_does := ⟨wIn_X5_does, wSel_X5_does⟩
theorem kD_X4_rememberDoing : fx_md yX4_rememberDoing cX4_rememberDoing 4 none 3 := ⟨⟨by decide, by decide, by decide +kernel⟩, wCo_X4_rememberDoing, wI_X4⟩
theorem kI_X4_rememberDoing : fx_mi yX4_rememberDoing := ⟨wIn_X4_rememberDoing, wSel_X4_rememberDoing⟩
theorem kD_X4_forgetOldest : fx_md yX4_forgetOldest cX4_forgetOldest 1 none 0 := ⟨⟨by decide, by decide, by decide +kernel⟩, wCo_X4_forgetOldest, wI_X4⟩
theorem kI_X4_forgetOldest : fx_mi yX4_forgetOldest := ⟨wIn_X4_forgetOldest, wSel_X4_forgetOldest⟩
theorem kD_X5_shown : fx_md yX5_shown cX5_shown 1 (some .int) 1 := ⟨⟨by decide, by decide, by decide +kernel⟩, wCo_X5_shown, wI_X5⟩
theorem kD_X5_undo : fx_md yX5_undo cX5_undo 1 (some .int) 0 := ⟨⟨by decide, by decide, by decide +kernel⟩, wCo_X5_undo, wI_X5⟩
theorem kI_X5_undo : fx_mi yX5_undo := ⟨wIn_X5_undo, wSel_X5_undo⟩
theorem kD_X5_refuseNo : fx_md yX5_refuseNo cX5_refuseNo 1 (some .int) 0 := ⟨⟨by decide, by decide, by decide +kernel⟩, wCo_X5_refuseNo, wI_X5⟩
theorem kI_X5_refuseNo : fx_mi yX5_refuseNo := ⟨wIn_X5_refuseNo, wSel_X5_refuseNo⟩
theorem kD_X4_undoLast : fx_md yX4_undoLast cX4_undoLast 1 none 0 := ⟨⟨by decide, by decide, by decide +kernel⟩, wCo_X4_undoLast, wI_X4⟩
theorem kI_X4_undoLast : fx_mi yX4_undoLast := ⟨wIn_X4_undoLast, wSel_X4_undoLast⟩
theorem kD_X5_need : fx_md yX5_need cX5_need 5 (some .int) 3 := ⟨⟨by decide, by decide, by decide +kernel⟩, wCo_X5_need, wI_X5⟩
theorem kI_X5_need : fx_mi yX5_need := ⟨wIn_X5_need, wSel_X5_need⟩
theorem kD_X4_mostNeeded : fx_md yX4_mostNeeded cX4_mostNeeded 3 (some .int) 2 := ⟨⟨by decide, by decide, by decide +kernel⟩, wCo_X4_mostNeeded, wI_X4⟩
theorem kI_X4_mostNeeded : fx_mi yX4_mostNeeded := ⟨wIn_X4_mostNeeded, wSel_X4_mostNeeded⟩
theorem kD_X4_needed : fx_md yX4_needed cX4_needed 4 (some .int) 1 := ⟨⟨by decide, by decide, by decide +kernel⟩, wCo_X4_needed, wI_X4⟩
theorem kI_X4_needed : fx_mi yX4_needed := ⟨wIn_X4_needed, wSel_X4_needed⟩
theorem kD_X5_type : fx_md yX5_type cX5_type 5 (some .int) 2 := ⟨⟨by decide, by decide, by decide +kernel⟩, wCo_X5_type, wI_X5⟩
theorem kI_X5_type : fx_mi yX5_type := ⟨wIn_X5_type, wSel_X5_type⟩
theorem kD_X3_append : fx_md yX3_append cX3_append 2 none 1 := ⟨⟨by decide, by decide, by decide +kernel⟩, wCo_X3_append, wI_X3⟩
theorem kI_X3_append : fx_mi yX3_append := ⟨wIn_X3_append, wSel_X3_append⟩
theorem kD_X5_clear : fx_md yX5_clear cX5_clear 2 (some .int) 0 := ⟨⟨by decide, by decide, by decide +kernel⟩, wCo_X5_clear, wI_X5⟩
theorem kI_X5_clear : fx_mi yX5_clear := ⟨wIn_X5_clear, wSel_X5_clear⟩
theorem kD_X5_read : fx_md yX5_read cX5_read 2 (some .int) 0 := ⟨⟨by decide, by decide, by decide +kernel⟩, wCo_X5_read, wI_X5⟩
theorem kI_X5_read : fx_mi yX5_read := ⟨wIn_X5_read, wSel_X5_read⟩
theorem kD_X3_readInto : fx_md yX3_readInto cX3_readInto 4 (some .int) 1 := ⟨⟨by decide, by decide, by decide +kernel⟩, wCo_X3_readInto, wI_X3⟩
theorem kI_X3_readInto : fx_mi yX3_readInto := ⟨wIn_X3_readInto, wSel_X3_readInto⟩
theorem kD_X3_nextToken : fx_md yX3_nextToken cX3_nextToken 2 none 0 := ⟨⟨by decide, by decide, by decide +kernel⟩, wCo_X3_nextToken, wI_X3⟩
theorem kI_X3_nextToken : fx_mi yX3_nextToken := ⟨wIn_X3_nextToken, wSel_X3_nextToken⟩
theorem kD_X3_isLetter : fx_md yX3_isLetter cX3_isLetter 1 (some .boolean) 1 := ⟨⟨by decide, by decide, by decide +kernel⟩, wCo_X3_isLetter, wI_X3⟩
theorem kD_X3_isFigure : fx_md yX3_isFigure cX3_isFigure 1 (some .boolean) 1 := ⟨⟨by decide, by decide, by decide +kernel⟩, wCo_X3_isFigure, wI_X3⟩
theorem kD_X3_readItem : fx_md yX3_readItem cX3_readItem 2 none 1 := ⟨⟨by decide, by decide, by decide +kernel⟩, wCo_X3_readItem, wI_X3⟩
theorem kI_X3_readItem : fx_mi yX3_readItem := ⟨wIn_X3_readItem, wSel_X3_readItem⟩
theorem kD_X3_fail : fx_md yX3_fail cX3_fail 1 none 0 := ⟨⟨by decide, by decide, by decide +kernel⟩, wCo_X3_fail, wI_X3⟩
theorem kI_X3_fail : fx_mi yX3_fail := ⟨wIn_X3_fail, wSel_X3_fail⟩
theorem kD_X3_spells : fx_md yX3_spells cX3_spells 3 (some .boolean) 1 := ⟨⟨by decide, by decide, by decide +kernel⟩, wCo_X3_spells, wI_X3⟩
theorem kI_X3_spells : fx_mi yX3_spells := ⟨wIn_X3_spells, wSel_X3_spells⟩
theorem kD_J0_length_8abf5 : fx_md yJ0_length_8abf5 cJ0_length_8abf5 1 (some .int) 0 := ⟨⟨by decide, by decide, by decide +kernel⟩, wCo_J0_length_8abf5, wI_J0⟩
theorem kI_J0_length_8abf5 : fx_mi yJ0_length_8abf5 := ⟨wIn_J0_length_8abf5, wSel_J0_length_8abf5⟩
theorem kD_J0_coder_7d493 : fx_md yJ0_coder_7d493 cJ0_coder_7d493 1 (some .byte) 0 := ⟨⟨by decide, by decide, by decide +kernel⟩, wCo_J0_coder_7d493, wI_J0⟩
theorem kI_J0_coder_7d493 : fx_mi yJ0_coder_7d493 := ⟨wIn_J0_coder_7d493, wSel_J0_coder_7d493⟩
theorem kD_J0_charAt_5068e : fx_md yJ0_charAt_5068e cJ0_charAt_5068e 2 (some .char) 1 := ⟨⟨by decide, by decide, by decide +kernel⟩, wCo_J0_charAt_5068e, wI_J0⟩
theorem kI_J0_charAt_5068e : fx_mi yJ0_charAt_5068e := ⟨wIn_J0_charAt_5068e, wSel_J0_charAt_5068e⟩
theorem kD_J0_isLatin1_aae02 : fx_md yJ0_isLatin1_aae02 cJ0_isLatin1_aae02 1 (some .boolean) 0 := ⟨⟨by decide, by decide, by decide +kernel⟩, wCo_J0_isLatin1_aae02, wI_J0⟩
theorem kI_J0_isLatin1_aae02 : fx_mi yJ0_isLatin1_aae02 := ⟨wIn_J0_isLatin1_aae02, wSel_J0_isLatin1_aae02⟩
theorem kD_J1_charAt_3b067 : fx_md yJ1_charAt_3b067 cJ1_charAt_3b067 2 (some .char) 2 := ⟨⟨by decide, by decide, by decide +kernel⟩, wCo_J1_charAt_3b067, wI_J1⟩
theorem kD_J0_checkIndex_df160 : fx_md yJ0_checkIndex_df160 cJ0_checkIndex_df160 2 none 2 := ⟨⟨by decide, by decide, by decide +kernel⟩, wCo_J0_checkIndex_df160, wI_J0⟩
theorem kD_J3_checkIndex_8e157 : fx_md yJ3_checkIndex_8e157 cJ3_checkIndex_8e157 3 (some .int) 3 := ⟨⟨by decide, by decide, by decide +kernel⟩, wCo_J3_checkIndex_8e157, wI_J3⟩
theorem kD_J2_charAt_3b067 : fx_md yJ2_charAt_3b067 cJ2_charAt_3b067 2 (some .char) 2 := ⟨⟨by decide, by decide, by decide +kernel⟩, wCo_J2_charAt_3b067, wI_J2⟩
theorem kD_J2_checkIndex_2214a : fx_md yJ2_checkIndex_2214a cJ2_checkIndex_2214a 2 none 2 := ⟨⟨by decide, by decide, by decide +kernel⟩, wCo_J2_checkIndex_2214a, wI_J2⟩
theorem kD_J2_length_9d52b : fx_md yJ2_length_9d52b cJ2_length_9d52b 1 (some .int) 1 := ⟨⟨by decide, by decide, by decide +kernel⟩, wCo_J2_length_9d52b, wI_J2⟩
theorem kD_J2_getChar_3b067 : fx_md yJ2_getChar_3b067 cJ2_getChar_3b067 2 (some .char) 2 := ⟨⟨by decide, by decide, by decide +kernel⟩, wCo_J2_getChar_3b067, wI_J2⟩
theorem kD_X3_readThing : fx_md yX3_readThing cX3_readThing 3 none 1 := ⟨⟨by decide, by decide, by decide +kernel⟩, wCo_X3_readThing, wI_X3⟩
theorem kI_X3_readThing : fx_mi yX3_readThing := ⟨wIn_X3_readThing, wSel_X3_readThing⟩
theorem kD_X3_figure : fx_md yX3_figure cX3_figure 1 (some .int) 0 := ⟨⟨by decide, by decide, by decide +kernel⟩, wCo_X3_figure, wI_X3⟩
theorem kI_X3_figure : fx_mi yX3_figure := ⟨wIn_X3_figure, wSel_X3_figure⟩
theorem kD_X3_readPeople : fx_md yX3_readPeople cX3_readPeople 3 none 1 := ⟨⟨by decide, by decide, by decide +kernel⟩, wCo_X3_readPeople, wI_X3⟩
theorem kI_X3_readPeople : fx_mi yX3_readPeople := ⟨wIn_X3_readPeople, wSel_X3_readPeople⟩
theorem kD_X3_number : fx_md yX3_number cX3_number 3 (some .int) 2 := ⟨⟨by decide, by decide, by decide +kernel⟩, wCo_X3_number, wI_X3⟩
theorem kI_X3_number : fx_mi yX3_number := ⟨wIn_X3_number, wSel_X3_number⟩
theorem kD_X3_stops : fx_md yX3_stops cX3_stops 1 (some .boolean) 0 := ⟨⟨by decide, by decide, by decide +kernel⟩, wCo_X3_stops, wI_X3⟩
theorem kI_X3_stops : fx_mi yX3_stops := ⟨wIn_X3_stops, wSel_X3_stops⟩
theorem kD_X3_readHours : fx_md yX3_readHours cX3_readHours 3 none 1 := ⟨⟨by decide, by decide, by decide +kernel⟩, wCo_X3_readHours, wI_X3⟩
theorem kI_X3_readHours : fx_mi yX3_readHours := ⟨wIn_X3_readHours, wSel_X3_readHours⟩
theorem kD_X3_readHour : fx_md yX3_readHour cX3_readHour 4 none 1 := ⟨⟨by decide, by decide, by decide +kernel⟩, wCo_X3_readHour, wI_X3⟩
theorem kI_X3_readHour : fx_mi yX3_readHour := ⟨wIn_X3_readHour, wSel_X3_readHour⟩
theorem kD_X3_readLine : fx_md yX3_readLine cX3_readLine 3 none 1 := ⟨⟨by decide, by decide, by decide +kernel⟩, wCo_X3_readLine, wI_X3⟩
theorem kI_X3_readLine : fx_mi yX3_readLine := ⟨wIn_X3_readLine, wSel_X3_readLine⟩
theorem kD_X3_readRich : fx_md yX3_readRich cX3_readRich 3 none 1 := ⟨⟨by decide, by decide, by decide +kernel⟩, wCo_X3_readRich, wI_X3⟩
theorem kI_X3_readRich : fx_mi yX3_readRich := ⟨wIn_X3_readRich, wSel_X3_readRich⟩
theorem kD_X3_readDoes : fx_md yX3_readDoes cX3_readDoes 5 none 1 := ⟨⟨by decide, by decide, by decide +kernel⟩, wCo_X3_readDoes, wI_X3⟩
theorem kI_X3_readDoes : fx_mi yX3_readDoes := ⟨wIn_X3_readDoes, wSel_X3_readDoes⟩
theorem kD_X3_readNeed : fx_md yX3_readNeed cX3_readNeed 5 none 1 := ⟨⟨by decide, by decide, by decide +kernel⟩, wCo_X3_readNeed, wI_X3⟩
theorem kI_X3_readNeed : fx_mi yX3_readNeed := ⟨wIn_X3_readNeed, wSel_X3_readNeed⟩
theorem kD_X4_takeOver : fx_md yX4_takeOver cX4_takeOver 3 none 1 := ⟨⟨by decide, by decide, by decide +kernel⟩, wCo_X4_takeOver, wI_X4⟩
theorem kI_X4_takeOver : fx_mi yX4_takeOver := ⟨wIn_X4_takeOver, wSel_X4_takeOver⟩
theorem kD_X5_at : fx_md yX5_at cX5_at 2 (some .int) 1 := ⟨⟨by decide, by decide, by decide +kernel⟩, wCo_X5_at, wI_X5⟩
theorem kI_X5_at : fx_mi yX5_at := ⟨wIn_X5_at, wSel_X5_at⟩
theorem kD_X0_sit : fx_md yX0_sit cX0_sit 7 none 3 := ⟨⟨by decide, by decide, by decide +kernel⟩, wCo_X0_sit, wI_X0⟩
theorem kI_X0_sit : fx_mi yX0_sit := ⟨wIn_X0_sit, wSel_X0_sit⟩
theorem kD_X5_pays : fx_md yX5_pays cX5_pays 3 (some .int) 2 := ⟨⟨by decide, by decide, by decide +kernel⟩, wCo_X5_pays, wI_X5⟩
theorem kI_X5_pays : fx_mi yX5_pays := ⟨wIn_X5_pays, wSel_X5_pays⟩
theorem kD_X0_fineIn : fx_md yX0_fineIn cX0_fineIn 5 (some .int) 4 := ⟨⟨by decide, by decide, by decide +kernel⟩, wCo_X0_fineIn, wI_X0⟩
theorem kI_X0_fineIn : fx_mi yX0_fineIn := ⟨wIn_X0_fineIn, wSel_X0_fineIn⟩
theorem kD_X4_kindOf : fx_md yX4_kindOf cX4_kindOf 2 (some .int) 1 := ⟨⟨by decide, by decide, by decide +kernel⟩, wCo_X4_kindOf, wI_X4⟩
theorem kI_X4_kindOf : fx_mi yX4_kindOf := ⟨wIn_X4_kindOf, wSel_X4_kindOf⟩
theorem kD_X0_aheadOf : fx_md yX0_aheadOf cX0_aheadOf 3 (some (.array .int)) 2 := ⟨⟨by decide, by decide, by decide +kernel⟩, wCo_X0_aheadOf, wI_X0⟩
theorem kI_X0_aheadOf : fx_mi yX0_aheadOf := ⟨wIn_X0_aheadOf, wSel_X0_aheadOf⟩
theorem kD_X0_fine : fx_md yX0_fine cX0_fine 10 (some .int) 5 := ⟨⟨by decide, by decide, by decide +kernel⟩, wCo_X0_fine, wI_X0⟩
theorem kI_X0_fine : fx_mi yX0_fine := ⟨wIn_X0_fine, wSel_X0_fine⟩
theorem kD_X0_isFined : fx_md yX0_isFined cX0_isFined 3 (some .boolean) 2 := ⟨⟨by decide, by decide, by decide +kernel⟩, wCo_X0_isFined, wI_X0⟩
theorem kI_X0_isFined : fx_mi yX0_isFined := ⟨wIn_X0_isFined, wSel_X0_isFined⟩
theorem kD_X0_boughtBy : fx_md yX0_boughtBy cX0_boughtBy 3 (some .int) 2 := ⟨⟨by decide, by decide, by decide +kernel⟩, wCo_X0_boughtBy, wI_X0⟩
theorem kI_X0_boughtBy : fx_mi yX0_boughtBy := ⟨wIn_X0_boughtBy, wSel_X0_boughtBy⟩
theorem kD_X0_wasDone : fx_md yX0_wasDone cX0_wasDone 5 (some .boolean) 3 := ⟨⟨by decide, by decide, by decide +kernel⟩, wCo_X0_wasDone, wI_X0⟩
theorem kI_X0_wasDone : fx_mi yX0_wasDone := ⟨wIn_X0_wasDone, wSel_X0_wasDone⟩
theorem kD_X5_all : fx_md yX5_all cX5_all 1 (some .int) 0 := ⟨⟨by decide, by decide, by decide +kernel⟩, wCo_X5_all, wI_X5⟩
theorem kI_X5_all : fx_mi yX5_all := ⟨wIn_X5_all, wSel_X5_all⟩
theorem kD_X5_allFines : fx_md yX5_allFines cX5_allFines 2 (some .int) 1 := ⟨⟨by decide, by decide, by decide +kernel⟩, wCo_X5_allFines, wI_X5⟩
theorem kI_X5_allFines : fx_mi yX5_allFines := ⟨wIn_X5_allFines, wSel_X5_allFines⟩
theorem kD_X0_finesOf : fx_md yX0_finesOf cX0_finesOf 6 (some .int) 3 := ⟨⟨by decide, by decide, by decide +kernel⟩, wCo_X0_finesOf, wI_X0⟩
theorem kI_X0_finesOf : fx_mi yX0_finesOf := ⟨wIn_X0_finesOf, wSel_X0_finesOf⟩
theorem kD_X0_finesOfHour : fx_md yX0_finesOfHour cX0_finesOfHour 6 (some .int) 3 := ⟨⟨by decide, by decide, by decide +kernel⟩, wCo_X0_finesOfHour, wI_X0⟩
theorem kI_X0_finesOfHour : fx_mi yX0_finesOfHour := ⟨wIn_X0_finesOfHour, wSel_X0_finesOfHour⟩
theorem kD_X5_least : fx_md yX5_least cX5_least 5 (some .int) 2 := ⟨⟨by decide, by decide, by decide +kernel⟩, wCo_X5_least, wI_X5⟩
theorem kI_X5_least : fx_mi yX5_least := ⟨wIn_X5_least, wSel_X5_least⟩
theorem kD_X1_findLeast : fx_md yX1_findLeast cX1_findLeast 4 (some .boolean) 3 := ⟨⟨by decide, by decide, by decide +kernel⟩, wCo_X1_findLeast, wI_X1⟩
theorem kI_X1_findLeast : fx_mi yX1_findLeast := ⟨wIn_X1_findLeast, wSel_X1_findLeast⟩
theorem kD_X1_writeRows : fx_md yX1_writeRows cX1_writeRows 4 none 2 := ⟨⟨by decide, by decide, by decide +kernel⟩, wCo_X1_writeRows, wI_X1⟩
theorem kI_X1_writeRows : fx_mi yX1_writeRows := ⟨wIn_X1_writeRows, wSel_X1_writeRows⟩
theorem kD_X1_writeRowsOf : fx_md yX1_writeRowsOf cX1_writeRowsOf 5 none 3 := ⟨⟨by decide, by decide, by decide +kernel⟩, wCo_X1_writeRowsOf, wI_X1⟩
theorem kI_X1_writeRowsOf : fx_mi yX1_writeRowsOf := ⟨wIn_X1_writeRowsOf, wSel_X1_writeRowsOf⟩
theorem kD_X1_writeFirstRow : fx_md yX1_writeFirstRow cX1_writeFirstRow 7 none 3 := ⟨⟨by decide, by decide, by decide +kernel⟩, wCo_X1_writeFirstRow, wI_X1⟩
theorem kI_X1_writeFirstRow : fx_mi yX1_writeFirstRow := ⟨wIn_X1_writeFirstRow, wSel_X1_writeFirstRow⟩
theorem kD_X5_nextOrder : fx_md yX5_nextOrder cX5_nextOrder 6 (some .boolean) 2 := ⟨⟨by decide, by decide, by decide +kernel⟩, wCo_X5_nextOrder, wI_X5⟩
theorem kD_X5_swap : fx_md yX5_swap cX5_swap 4 none 3 := ⟨⟨by decide, by decide, by decide +kernel⟩, wCo_X5_swap, wI_X5⟩
theorem kD_X1_waysTogether : fx_md yX1_waysTogether cX1_waysTogether 5 (some .long) 1 := ⟨⟨by decide, by decide, by decide +kernel⟩, wCo_X1_waysTogether, wI_X1⟩
theorem kI_X1_waysTogether : fx_mi yX1_waysTogether := ⟨wIn_X1_waysTogether, wSel_X1_waysTogether⟩
theorem kD_X1_search : fx_md yX1_search cX1_search 9 (some .int) 4 := ⟨⟨by decide, by decide, by decide +kernel⟩, wCo_X1_search, wI_X1⟩
theorem kI_X1_search : fx_mi yX1_search := ⟨wIn_X1_search, wSel_X1_search⟩
theorem kD_X1_clearDay : fx_md yX1_clearDay cX1_clearDay 2 none 0 := ⟨⟨by decide, by decide, by decide +kernel⟩, wCo_X1_clearDay, wI_X1⟩
theorem kI_X1_clearDay : fx_mi yX1_clearDay := ⟨wIn_X1_clearDay, wSel_X1_clearDay⟩
theorem kD_X1_liftRow : fx_md yX1_liftRow cX1_liftRow 3 none 1 := ⟨⟨by decide, by decide, by decide +kernel⟩, wCo_X1_liftRow, wI_X1⟩
theorem kI_X1_liftRow : fx_mi yX1_liftRow := ⟨wIn_X1_liftRow, wSel_X1_liftRow⟩
theorem kD_X1_startPerson : fx_md yX1_startPerson cX1_startPerson 6 none 5 := ⟨⟨by decide, by decide, by decide +kernel⟩, wCo_X1_startPerson, wI_X1⟩
theorem kI_X1_startPerson : fx_mi yX1_startPerson := ⟨wIn_X1_startPerson, wSel_X1_startPerson⟩
theorem kD_X1_setPricesToAll : fx_md yX1_setPricesToAll cX1_setPricesToAll 7 none 4 := ⟨⟨by decide, by decide, by decide +kernel⟩, wCo_X1_setPricesToAll, wI_X1⟩
theorem kI_X1_setPricesToAll : fx_mi yX1_setPricesToAll := ⟨wIn_X1_setPricesToAll, wSel_X1_setPricesToAll⟩
theorem kD_X0_added : fx_md yX0_added cX0_added 8 (some .int) 5 := ⟨⟨by decide, by decide, by decide +kernel⟩, wCo_X0_added, wI_X0⟩
theorem kI_X0_added : fx_mi yX0_added := ⟨wIn_X0_added, wSel_X0_added⟩
theorem kD_X0_othersWith : fx_md yX0_othersWith cX0_othersWith 7 (some .int) 4 := ⟨⟨by decide, by decide, by decide +kernel⟩, wCo_X0_othersWith, wI_X0⟩
theorem kI_X0_othersWith : fx_mi yX0_othersWith := ⟨wIn_X0_othersWith, wSel_X0_othersWith⟩
theorem kD_X0_addedToCopies : fx_md yX0_addedToCopies cX0_addedToCopies 7 (some .int) 4 := ⟨⟨by decide, by decide, by decide +kernel⟩, wCo_X0_addedToCopies, wI_X0⟩
theorem kI_X0_addedToCopies : fx_mi yX0_addedToCopies := ⟨wIn_X0_addedToCopies, wSel_X0_addedToCopies⟩
theorem kD_X1_priceOfRow : fx_md yX1_priceOfRow cX1_priceOfRow 6 (some .int) 3 := ⟨⟨by decide, by decide, by decide +kernel⟩, wCo_X1_priceOfRow, wI_X1⟩
theorem kI_X1_priceOfRow : fx_mi yX1_priceOfRow := ⟨wIn_X1_priceOfRow, wSel_X1_priceOfRow⟩
theorem kD_X1_layRow : fx_md yX1_layRow cX1_layRow 5 none 3 := ⟨⟨by decide, by decide, by decide +kernel⟩, wCo_X1_layRow, wI_X1⟩
theorem kI_X1_layRow : fx_mi yX1_layRow := ⟨wIn_X1_layRow, wSel_X1_layRow⟩
theorem kD_X1_copyDay : fx_md yX1_copyDay cX1_copyDay 3 none 2 := ⟨⟨by decide, by decide, by decide +kernel⟩, wCo_X1_copyDay, wI_X1⟩
theorem kD_X5_fewest : fx_md yX5_fewest cX5_fewest 2 (some .int) 0 := ⟨⟨by decide, by decide, by decide +kernel⟩, wCo_X5_fewest, wI_X5⟩
theorem kI_X5_fewest : fx_mi yX5_fewest := ⟨wIn_X5_fewest, wSel_X5_fewest⟩
theorem kD_X1_fewestHours : fx_md yX1_fewestHours cX1_fewestHours 4 (some .int) 2 := ⟨⟨by decide, by decide, by decide +kernel⟩, wCo_X1_fewestHours, wI_X1⟩
theorem kI_X1_fewestHours : fx_mi yX1_fewestHours := ⟨wIn_X1_fewestHours, wSel_X1_fewestHours⟩
theorem kD_X5_list : fx_md yX5_list cX5_list 2 (some .int) 1 := ⟨⟨by decide, by decide, by decide +kernel⟩, wCo_X5_list, wI_X5⟩
theorem kI_X5_list : fx_mi yX5_list := ⟨wIn_X5_list, wSel_X5_list⟩
theorem kD_X1_finesByNumber : fx_md yX1_finesByNumber cX1_finesByNumber 4 (some .int) 2 := ⟨⟨by decide, by decide, by decide +kernel⟩, wCo_X1_finesByNumber, wI_X1⟩
theorem kI_X1_finesByNumber : fx_mi yX1_finesByNumber := ⟨wIn_X1_finesByNumber, wSel_X1_finesByNumber⟩
theorem kD_X1_finesInOrder : fx_md yX1_finesInOrder cX1_finesInOrder 4 (some .int) 2 := ⟨⟨by decide, by decide, by decide +kernel⟩, wCo_X1_finesInOrder, wI_X1⟩
theorem kI_X1_finesInOrder : fx_mi yX1_finesInOrder := ⟨wIn_X1_finesInOrder, wSel_X1_finesInOrder⟩
theorem kD_X1_setPrices : fx_md yX1_setPrices cX1_setPrices 8 none 3 := ⟨⟨by decide, by decide, by decide +kernel⟩, wCo_X1_setPrices, wI_X1⟩
theorem kI_X1_setPrices : fx_mi yX1_setPrices := ⟨wIn_X1_setPrices, wSel_X1_setPrices⟩
theorem kD_X1_bestRow : fx_md yX1_bestRow cX1_bestRow 7 (some .int) 2 := ⟨⟨by decide, by decide, by decide +kernel⟩, wCo_X1_bestRow, wI_X1⟩
theorem kI_X1_bestRow : fx_mi yX1_bestRow := ⟨wIn_X1_bestRow, wSel_X1_bestRow⟩
theorem kD_X1_finesByWorstOrder : fx_md yX1_finesByWorstOrder cX1_finesByWorstOrder 5 (some .int) 2 := ⟨⟨by decide, by decide, by decide +kernel⟩, wCo_X1_finesByWorstOrder, wI_X1⟩
theorem kI_X1_finesByWorstOrder : fx_mi yX1_finesByWorstOrder := ⟨wIn_X1_finesByWorstOrder, wSel_X1_finesByWorstOrder⟩
theorem kD_X5_rests : fx_md yX5_rests cX5_rests 3 (some .int) 1 := ⟨⟨by decide, by decide, by decide +kernel⟩, wCo_X5_rests, wI_X5⟩
theorem kI_X5_rests : fx_mi yX5_rests := ⟨wIn_X5_rests, wSel_X5_rests⟩
theorem kD_X1_roundOfRest : fx_md yX1_roundOfRest cX1_roundOfRest 4 (some .int) 2 := ⟨⟨by decide, by decide, by decide +kernel⟩, wCo_X1_roundOfRest, wI_X1⟩
theorem kI_X1_roundOfRest : fx_mi yX1_roundOfRest := ⟨wIn_X1_roundOfRest, wSel_X1_roundOfRest⟩
theorem kD_X1_anyoneChanges : fx_md yX1_anyoneChanges cX1_anyoneChanges 6 (some .boolean) 2 := ⟨⟨by decide, by decide, by decide +kernel⟩, wCo_X1_anyoneChanges, wI_X1⟩
theorem kI_X1_anyoneChanges : fx_mi yX1_anyoneChanges := ⟨wIn_X1_anyoneChanges, wSel_X1_anyoneChanges⟩
theorem kD_X1_priceOfNow : fx_md yX1_priceOfNow cX1_priceOfNow 5 (some .int) 2 := ⟨⟨by decide, by decide, by decide +kernel⟩, wCo_X1_priceOfNow, wI_X1⟩
theorem kI_X1_priceOfNow : fx_mi yX1_priceOfNow := ⟨wIn_X1_priceOfNow, wSel_X1_priceOfNow⟩
theorem kD_X5_better : fx_md yX5_better cX5_better 7 (some .int) 2 := ⟨⟨by decide, by decide, by decide +kernel⟩, wCo_X5_better, wI_X5⟩
theorem kI_X5_better : fx_mi yX5_better := ⟨wIn_X5_better, wSel_X5_better⟩
theorem kD_X5_name : fx_md yX5_name cX5_name 2 (some .int) 1 := ⟨⟨by decide, by decide, by decide +kernel⟩, wCo_X5_name, wI_X5⟩
theorem kI_X5_name : fx_mi yX5_name := ⟨wIn_X5_name, wSel_X5_name⟩
theorem kD_X5_line : fx_md yX5_line cX5_line 6 (some .int) 1 := ⟨⟨by decide, by decide, by decide +kernel⟩, wCo_X5_line, wI_X5⟩
theorem kI_X5_line : fx_mi yX5_line := ⟨wIn_X5_line, wSel_X5_line⟩
theorem kD_X5_finesOfOne : fx_md yX5_finesOfOne cX5_finesOfOne 4 (some .int) 1 := ⟨⟨by decide, by decide, by decide +kernel⟩, wCo_X5_finesOfOne, wI_X5⟩
theorem kI_X5_finesOfOne : fx_mi yX5_finesOfOne := ⟨wIn_X5_finesOfOne, wSel_X5_finesOfOne⟩
theorem kD_X5_choir : fx_md yX5_choir cX5_choir 3 (some .int) 2 := ⟨⟨by decide, by decide, by decide +kernel⟩, wCo_X5_choir, wI_X5⟩
theorem kI_X5_choir : fx_mi yX5_choir := ⟨wIn_X5_choir, wSel_X5_choir⟩
theorem kD_X0_leastOfChoir : fx_md yX0_leastOfChoir cX0_leastOfChoir 6 (some .int) 3 := ⟨⟨by decide, by decide, by decide +kernel⟩, wCo_X0_leastOfChoir, wI_X0⟩
theorem kI_X0_leastOfChoir : fx_mi yX0_leastOfChoir := ⟨wIn_X0_leastOfChoir, wSel_X0_leastOfChoir⟩
theorem kD_X5_told : fx_md yX5_told cX5_told 4 (some .int) 2 := ⟨⟨by decide, by decide, by decide +kernel⟩, wCo_X5_told, wI_X5⟩
theorem kI_X5_told : fx_mi yX5_told := ⟨wIn_X5_told, wSel_X5_told⟩
theorem kD_X5_did : fx_md yX5_did cX5_did 3 (some .int) 2 := ⟨⟨by decide, by decide, by decide +kernel⟩, wCo_X5_did, wI_X5⟩
theorem kI_X5_did : fx_mi yX5_did := ⟨wIn_X5_did, wSel_X5_did⟩
theorem kD_X2_findWays : fx_md yX2_findWays cX2_findWays 7 none 4 := ⟨⟨by decide, by decide, by decide +kernel⟩, wCo_X2_findWays, wI_X2⟩
theorem kI_X2_findWays : fx_mi yX2_findWays := ⟨wIn_X2_findWays, wSel_X2_findWays⟩
theorem kD_X2_mayHavePaid : fx_md yX2_mayHavePaid cX2_mayHavePaid 12 (some .boolean) 4 := ⟨⟨by decide, by decide, by decide +kernel⟩, wCo_X2_mayHavePaid, wI_X2⟩
theorem kI_X2_mayHavePaid : fx_mi yX2_mayHavePaid := ⟨wIn_X2_mayHavePaid, wSel_X2_mayHavePaid⟩
theorem kD_X2_countWay : fx_md yX2_countWay cX2_countWay 1 none 0 := ⟨⟨by decide, by decide, by decide +kernel⟩, wCo_X2_countWay, wI_X2⟩
theorem kI_X2_countWay : fx_mi yX2_countWay := ⟨wIn_X2_countWay, wSel_X2_countWay⟩
theorem kD_X5_copied : fx_md yX5_copied cX5_copied 6 (some .int) 1 := ⟨⟨by decide, by decide, by decide +kernel⟩, wCo_X5_copied, wI_X5⟩
theorem kI_X5_copied : fx_mi yX5_copied := ⟨wIn_X5_copied, wSel_X5_copied⟩
theorem kD_X5_timesCopied : fx_md yX5_timesCopied cX5_timesCopied 6 (some .int) 2 := ⟨⟨by decide, by decide, by decide +kernel⟩, wCo_X5_timesCopied, wI_X5⟩
theorem kI_X5_timesCopied : fx_mi yX5_timesCopied := ⟨wIn_X5_timesCopied, wSel_X5_timesCopied⟩
theorem kD_X5_crowd : fx_md yX5_crowd cX5_crowd 10 (some .int) 3 := ⟨⟨by decide, by decide, by decide +kernel⟩, wCo_X5_crowd, wI_X5⟩
theorem kI_X5_crowd : fx_mi yX5_crowd := ⟨wIn_X5_crowd, wSel_X5_crowd⟩
theorem kD_X5_crowdsOfAtLeast : fx_md yX5_crowdsOfAtLeast cX5_crowdsOfAtLeast 10 (some .long) 3 := ⟨⟨by decide, by decide, by decide +kernel⟩, wCo_X5_crowdsOfAtLeast, wI_X5⟩
theorem kD_X5_commonDivisor : fx_md yX5_commonDivisor cX5_commonDivisor 11 (some .long) 2 := ⟨⟨by decide, by decide, by decide +kernel⟩, wCo_X5_commonDivisor, wI_X5⟩
theorem kD_J9_max_f86c9 : fx_md yJ9_max_f86c9 cJ9_max_f86c9 4 (some .long) 2 := ⟨⟨by decide, by decide, by decide +kernel⟩, wCo_J9_max_f86c9, wI_J9⟩
theorem kD_X5_part : fx_md yX5_part cX5_part 2 (some .long) 1 := ⟨⟨by decide, by decide, by decide +kernel⟩, wCo_X5_part, wI_X5⟩
theorem kI_X5_part : fx_mi yX5_part := ⟨wIn_X5_part, wSel_X5_part⟩
theorem kD_X5_image : fx_md yX5_image cX5_image 2 (some .int) 1 := ⟨⟨by decide, by decide, by decide +kernel⟩, wCo_X5_image, wI_X5⟩
theorem kI_X5_image : fx_mi yX5_image := ⟨wIn_X5_image, wSel_X5_image⟩
theorem kD_X5_from : fx_md yX5_from cX5_from 2 (some .int) 1 := ⟨⟨by decide, by decide, by decide +kernel⟩, wCo_X5_from, wI_X5⟩
theorem kI_X5_from : fx_mi yX5_from := ⟨wIn_X5_from, wSel_X5_from⟩
theorem kD_X5_status : fx_md yX5_status cX5_status 2 (some .int) 1 := ⟨⟨by decide, by decide, by decide +kernel⟩, wCo_X5_status, wI_X5⟩
theorem kI_X5_status : fx_mi yX5_status := ⟨wIn_X5_status, wSel_X5_status⟩
theorem kD_X5_count : fx_md yX5_count cX5_count 2 (some .int) 1 := ⟨⟨by decide, by decide, by decide +kernel⟩, wCo_X5_count, wI_X5⟩
theorem kI_X5_count : fx_mi yX5_count := ⟨wIn_X5_count, wSel_X5_count⟩
theorem kD_X5_amount : fx_md yX5_amount cX5_amount 2 (some .int) 1 := ⟨⟨by decide, by decide, by decide +kernel⟩, wCo_X5_amount, wI_X5⟩
theorem kI_X5_amount : fx_mi yX5_amount := ⟨wIn_X5_amount, wSel_X5_amount⟩
theorem kD_X5_digest : fx_md yX5_digest cX5_digest 4 (some .long) 0 := ⟨⟨by decide, by decide, by decide +kernel⟩, wCo_X5_digest, wI_X5⟩
theorem kI_X5_digest : fx_mi yX5_digest := ⟨wIn_X5_digest, wSel_X5_digest⟩
theorem kD_X5_digestWith : fx_md yX5_digestWith cX5_digestWith 7 (some .long) 2 := ⟨⟨by decide, by decide, by decide +kernel⟩, wCo_X5_digestWith, wI_X5⟩
theorem kI_X5_digestWith : fx_mi yX5_digestWith := ⟨wIn_X5_digestWith, wSel_X5_digestWith⟩
theorem kD_X6_init : fx_md yX6_init cX6_init 1 none 0 := ⟨⟨by decide, by decide, by decide +kernel⟩, wCo_X6_init, wI_X6⟩
theorem kD_X6_begin : fx_md yX6_begin cX6_begin 4 none 3 := ⟨⟨by decide, by decide, by decide +kernel⟩, wCo_X6_begin, wI_X6⟩
theorem kD_X6_thing : fx_md yX6_thing cX6_thing 3 (some .int) 1 := ⟨⟨by decide, by decide, by decide +kernel⟩, wCo_X6_thing, wI_X6⟩
theorem kI_X6_thing : fx_mi yX6_thing := ⟨wIn_X6_thing, wSel_X6_thing⟩
theorem kD_X6_isThing : fx_md yX6_isThing cX6_isThing 2 (some .boolean) 1 := ⟨⟨by decide, by decide, by decide +kernel⟩, wCo_X6_isThing, wI_X6⟩
theorem kI_X6_isThing : fx_mi yX6_isThing := ⟨wIn_X6_isThing, wSel_X6_isThing⟩
theorem kD_X6_things : fx_md yX6_things cX6_things 1 (some .int) 0 := ⟨⟨by decide, by decide, by decide +kernel⟩, wCo_X6_things, wI_X6⟩
theorem kI_X6_things : fx_mi yX6_things := ⟨wIn_X6_things, wSel_X6_things⟩
theorem kD_X6_in : fx_md yX6_in cX6_in 6 (some .boolean) 3 := ⟨⟨by decide, by decide, by decide +kernel⟩, wCo_X6_in, wI_X6⟩
theorem kD_X6_bad : fx_md yX6_bad cX6_bad 2 (some .int) 1 := ⟨⟨by decide, by decide, by decide +kernel⟩, wCo_X6_bad, wI_X6⟩
theorem kI_X6_bad : fx_mi yX6_bad := ⟨wIn_X6_bad, wSel_X6_bad⟩
theorem kD_X6_full : fx_md yX6_full cX6_full 1 (some .int) 0 := ⟨⟨by decide, by decide, by decide +kernel⟩, wCo_X6_full, wI_X6⟩
theorem kI_X6_full : fx_mi yX6_full := ⟨wIn_X6_full, wSel_X6_full⟩
theorem kD_X6_town : fx_md yX6_town cX6_town 3 (some .int) 2 := ⟨⟨by decide, by decide, by decide +kernel⟩, wCo_X6_town, wI_X6⟩
theorem kI_X6_town : fx_mi yX6_town := ⟨wIn_X6_town, wSel_X6_town⟩
theorem kD_X6_put : fx_md yX6_put cX6_put 7 (some .int) 3 := ⟨⟨by decide, by decide, by decide +kernel⟩, wCo_X6_put, wI_X6⟩
theorem kI_X6_put : fx_mi yX6_put := ⟨wIn_X6_put, wSel_X6_put⟩
theorem kD_X6_isHour : fx_md yX6_isHour cX6_isHour 2 (some .boolean) 1 := ⟨⟨by decide, by decide, by decide +kernel⟩, wCo_X6_isHour, wI_X6⟩
theorem kI_X6_isHour : fx_mi yX6_isHour := ⟨wIn_X6_isHour, wSel_X6_isHour⟩
theorem kD_X6_hours : fx_md yX6_hours cX6_hours 1 (some .int) 0 := ⟨⟨by decide, by decide, by decide +kernel⟩, wCo_X6_hours, wI_X6⟩
theorem kI_X6_hours : fx_mi yX6_hours := ⟨wIn_X6_hours, wSel_X6_hours⟩
theorem kD_X6_isOne : fx_md yX6_isOne cX6_isOne 2 (some .boolean) 1 := ⟨⟨by decide, by decide, by decide +kernel⟩, wCo_X6_isOne, wI_X6⟩
theorem kI_X6_isOne : fx_mi yX6_isOne := ⟨wIn_X6_isOne, wSel_X6_isOne⟩
theorem kD_X6_people : fx_md yX6_people cX6_people 1 (some .int) 0 := ⟨⟨by decide, by decide, by decide +kernel⟩, wCo_X6_people, wI_X6⟩
theorem kI_X6_people : fx_mi yX6_people := ⟨wIn_X6_people, wSel_X6_people⟩
theorem kD_X6_does : fx_md yX6_does cX6_does 6 (some .int) 3 := ⟨⟨by decide, by decide, by decide +kernel⟩, wCo_X6_does, wI_X6⟩
theorem kI_X6_does : fx_mi yX6_does := ⟨wIn_X6_does, wSel_X6_does⟩
theorem kD_X6_undo : fx_md yX6_undo cX6_undo 2 (some .int) 0 := ⟨⟨by decide, by decide, by decide +kernel⟩, wCo_X6_undo, wI_X6⟩
theorem kI_X6_undo : fx_mi yX6_undo := ⟨wIn_X6_undo, wSel_X6_undo⟩
theorem kD_X6_no : fx_md yX6_no cX6_no 1 (some .int) 0 := ⟨⟨by decide, by decide, by decide +kernel⟩, wCo_X6_no, wI_X6⟩
theorem kI_X6_no : fx_mi yX6_no := ⟨wIn_X6_no, wSel_X6_no⟩
theorem kD_X6_need : fx_md yX6_need cX6_need 6 (some .int) 3 := ⟨⟨by decide, by decide, by decide +kernel⟩, wCo_X6_need, wI_X6⟩
theorem kI_X6_need : fx_mi yX6_need := ⟨wIn_X6_need, wSel_X6_need⟩
theorem kD_X6_needsOf : fx_md yX6_needsOf cX6_needsOf 4 (some .int) 2 := ⟨⟨by decide, by decide, by decide +kernel⟩, wCo_X6_needsOf, wI_X6⟩
theorem kD_X6_at : fx_md yX6_at cX6_at 2 (some .int) 1 := ⟨⟨by decide, by decide, by decide +kernel⟩, wCo_X6_at, wI_X6⟩
theorem kI_X6_at : fx_mi yX6_at := ⟨wIn_X6_at, wSel_X6_at⟩
theorem kD_X6_layNow : fx_md yX6_layNow cX6_layNow 1 none 0 := ⟨⟨by decide, by decide, by decide +kernel⟩, wCo_X6_layNow, wI_X6⟩
theorem kI_X6_layNow : fx_mi yX6_layNow := ⟨wIn_X6_layNow, wSel_X6_layNow⟩
theorem kD_X6_layLine : fx_md yX6_layLine cX6_layLine 6 none 2 := ⟨⟨by decide, by decide, by decide +kernel⟩, wCo_X6_layLine, wI_X6⟩
theorem kI_X6_layLine : fx_mi yX6_layLine := ⟨wIn_X6_layLine, wSel_X6_layLine⟩
theorem kD_X6_depth : fx_md yX6_depth cX6_depth 4 (some .int) 1 := ⟨⟨by decide, by decide, by decide +kernel⟩, wCo_X6_depth, wI_X6⟩
theorem kI_X6_depth : fx_mi yX6_depth := ⟨wIn_X6_depth, wSel_X6_depth⟩
theorem kD_X6_pays : fx_md yX6_pays cX6_pays 3 (some .int) 2 := ⟨⟨by decide, by decide, by decide +kernel⟩, wCo_X6_pays, wI_X6⟩
theorem kI_X6_pays : fx_mi yX6_pays := ⟨wIn_X6_pays, wSel_X6_pays⟩
theorem kD_X6_takeDone : fx_md yX6_takeDone cX6_takeDone 2 none 0 := ⟨⟨by decide, by decide, by decide +kernel⟩, wCo_X6_takeDone, wI_X6⟩
theorem kI_X6_takeDone : fx_mi yX6_takeDone := ⟨wIn_X6_takeDone, wSel_X6_takeDone⟩
theorem kD_X6_paysOf : fx_md yX6_paysOf cX6_paysOf 10 (some .int) 2 := ⟨⟨by decide, by decide, by decide +kernel⟩, wCo_X6_paysOf, wI_X6⟩
theorem kI_X6_paysOf : fx_mi yX6_paysOf := ⟨wIn_X6_paysOf, wSel_X6_paysOf⟩
theorem kD_X6_doing : fx_md yX6_doing cX6_doing 3 (some .int) 2 := ⟨⟨by decide, by decide, by decide +kernel⟩, wCo_X6_doing, wI_X6⟩
theorem kI_X6_doing : fx_mi yX6_doing := ⟨wIn_X6_doing, wSel_X6_doing⟩
theorem kD_X6_isWith : fx_md yX6_isWith cX6_isWith 7 (some .boolean) 4 := ⟨⟨by decide, by decide, by decide +kernel⟩, wCo_X6_isWith, wI_X6⟩
theorem kI_X6_isWith : fx_mi yX6_isWith := ⟨wIn_X6_isWith, wSel_X6_isWith⟩
theorem kD_X6_wasDone : fx_md yX6_wasDone cX6_wasDone 6 (some .boolean) 2 := ⟨⟨by decide, by decide, by decide +kernel⟩, wCo_X6_wasDone, wI_X6⟩
theorem kI_X6_wasDone : fx_mi yX6_wasDone := ⟨wIn_X6_wasDone, wSel_X6_wasDone⟩
theorem kD_X6_all : fx_md yX6_all cX6_all 1 (some .int) 0 := ⟨⟨by decide, by decide, by decide +kernel⟩, wCo_X6_all, wI_X6⟩
theorem kI_X6_all : fx_mi yX6_all := ⟨wIn_X6_all, wSel_X6_all⟩
theorem kD_X6_allIn : fx_md yX6_allIn cX6_allIn 4 (some .int) 1 := ⟨⟨by decide, by decide, by decide +kernel⟩, wCo_X6_allIn, wI_X6⟩
theorem kI_X6_allIn : fx_mi yX6_allIn := ⟨wIn_X6_allIn, wSel_X6_allIn⟩
theorem kD_X6_paysIn : fx_md yX6_paysIn cX6_paysIn 5 (some .int) 2 := ⟨⟨by decide, by decide, by decide +kernel⟩, wCo_X6_paysIn, wI_X6⟩
theorem kI_X6_paysIn : fx_mi yX6_paysIn := ⟨wIn_X6_paysIn, wSel_X6_paysIn⟩
theorem kD_X6_least : fx_md yX6_least cX6_least 6 (some .int) 2 := ⟨⟨by decide, by decide, by decide +kernel⟩, wCo_X6_least, wI_X6⟩
theorem kI_X6_least : fx_mi yX6_least := ⟨wIn_X6_least, wSel_X6_least⟩
theorem kD_X6_findAllRows : fx_md yX6_findAllRows cX6_findAllRows 3 none 1 := ⟨⟨by decide, by decide, by decide +kernel⟩, wCo_X6_findAllRows, wI_X6⟩
theorem kI_X6_findAllRows : fx_mi yX6_findAllRows := ⟨wIn_X6_findAllRows, wSel_X6_findAllRows⟩
theorem kD_X6_findRows : fx_md yX6_findRows cX6_findRows 4 none 2 := ⟨⟨by decide, by decide, by decide +kernel⟩, wCo_X6_findRows, wI_X6⟩
theorem kI_X6_findRows : fx_mi yX6_findRows := ⟨wIn_X6_findRows, wSel_X6_findRows⟩
theorem kD_X6_takeNeeds : fx_md yX6_takeNeeds cX6_takeNeeds 5 none 2 := ⟨⟨by decide, by decide, by decide +kernel⟩, wCo_X6_takeNeeds, wI_X6⟩
theorem kI_X6_takeNeeds : fx_mi yX6_takeNeeds := ⟨wIn_X6_takeNeeds, wSel_X6_takeNeeds⟩
theorem kD_X6_keepRow : fx_md yX6_keepRow cX6_keepRow 5 none 2 := ⟨⟨by decide, by decide, by decide +kernel⟩, wCo_X6_keepRow, wI_X6⟩
theorem kI_X6_keepRow : fx_mi yX6_keepRow := ⟨wIn_X6_keepRow, wSel_X6_keepRow⟩
theorem kD_X6_ways : fx_md yX6_ways cX6_ways 4 (some .long) 0 := ⟨⟨by decide, by decide, by decide +kernel⟩, wCo_X6_ways, wI_X6⟩
theorem kI_X6_ways : fx_mi yX6_ways := ⟨wIn_X6_ways, wSel_X6_ways⟩
theorem kD_X6_findLeast : fx_md yX6_findLeast cX6_findLeast 11 (some .int) 1 := ⟨⟨by decide, by decide, by decide +kernel⟩, wCo_X6_findLeast, wI_X6⟩
theorem kI_X6_findLeast : fx_mi yX6_findLeast := ⟨wIn_X6_findLeast, wSel_X6_findLeast⟩
theorem kD_X6_takeNothing : fx_md yX6_takeNothing cX6_takeNothing 2 none 0 := ⟨⟨by decide, by decide, by decide +kernel⟩, wCo_X6_takeNothing, wI_X6⟩
theorem kI_X6_takeNothing : fx_mi yX6_takeNothing := ⟨wIn_X6_takeNothing, wSel_X6_takeNothing⟩
theorem kD_X6_takeRow : fx_md yX6_takeRow cX6_takeRow 5 none 3 := ⟨⟨by decide, by decide, by decide +kernel⟩, wCo_X6_takeRow, wI_X6⟩
theorem kI_X6_takeRow : fx_mi yX6_takeRow := ⟨wIn_X6_takeRow, wSel_X6_takeRow⟩
theorem kD_X6_fewest : fx_md yX6_fewest cX6_fewest 2 (some .int) 0 := ⟨⟨by decide, by decide, by decide +kernel⟩, wCo_X6_fewest, wI_X6⟩
theorem kI_X6_fewest : fx_mi yX6_fewest := ⟨wIn_X6_fewest, wSel_X6_fewest⟩
theorem kD_X6_list : fx_md yX6_list cX6_list 7 (some .int) 1 := ⟨⟨by decide, by decide, by decide +kernel⟩, wCo_X6_list, wI_X6⟩
theorem kI_X6_list : fx_mi yX6_list := ⟨wIn_X6_list, wSel_X6_list⟩
theorem kD_X6_layOrder : fx_md yX6_layOrder cX6_layOrder 6 (some .boolean) 1 := ⟨⟨by decide, by decide, by decide +kernel⟩, wCo_X6_layOrder, wI_X6⟩
theorem kI_X6_layOrder : fx_mi yX6_layOrder := ⟨wIn_X6_layOrder, wSel_X6_layOrder⟩
theorem kD_X6_listed : fx_md yX6_listed cX6_listed 3 (some .int) 0 := ⟨⟨by decide, by decide, by decide +kernel⟩, wCo_X6_listed, wI_X6⟩
theorem kI_X6_listed : fx_mi yX6_listed := ⟨wIn_X6_listed, wSel_X6_listed⟩
theorem kD_X6_takeBest : fx_md yX6_takeBest cX6_takeBest 6 (some .int) 1 := ⟨⟨by decide, by decide, by decide +kernel⟩, wCo_X6_takeBest, wI_X6⟩
theorem kI_X6_takeBest : fx_mi yX6_takeBest := ⟨wIn_X6_takeBest, wSel_X6_takeBest⟩
theorem kD_X6_rests : fx_md yX6_rests cX6_rests 6 (some .int) 1 := ⟨⟨by decide, by decide, by decide +kernel⟩, wCo_X6_rests, wI_X6⟩
theorem kI_X6_rests : fx_mi yX6_rests := ⟨wIn_X6_rests, wSel_X6_rests⟩
theorem kD_X6_changes : fx_md yX6_changes cX6_changes 4 (some .boolean) 1 := ⟨⟨by decide, by decide, by decide +kernel⟩, wCo_X6_changes, wI_X6⟩
theorem kI_X6_changes : fx_mi yX6_changes := ⟨wIn_X6_changes, wSel_X6_changes⟩
theorem kD_X6_better : fx_md yX6_better cX6_better 7 (some .int) 2 := ⟨⟨by decide, by decide, by decide +kernel⟩, wCo_X6_better, wI_X6⟩
theorem kI_X6_better : fx_mi yX6_better := ⟨wIn_X6_better, wSel_X6_better⟩
theorem kD_X6_name : fx_md yX6_name cX6_name 3 (some .int) 1 := ⟨⟨by decide, by decide, by decide +kernel⟩, wCo_X6_name, wI_X6⟩
theorem kI_X6_name : fx_mi yX6_name := ⟨wIn_X6_name, wSel_X6_name⟩
theorem kD_X6_line : fx_md yX6_line cX6_line 6 (some .int) 1 := ⟨⟨by decide, by decide, by decide +kernel⟩, wCo_X6_line, wI_X6⟩
theorem kI_X6_line : fx_mi yX6_line := ⟨wIn_X6_line, wSel_X6_line⟩
theorem kD_X6_choir : fx_md yX6_choir cX6_choir 7 (some .int) 2 := ⟨⟨by decide, by decide, by decide +kernel⟩, wCo_X6_choir, wI_X6⟩
theorem kI_X6_choir : fx_mi yX6_choir := ⟨wIn_X6_choir, wSel_X6_choir⟩
theorem kD_X6_told : fx_md yX6_told cX6_told 4 (some .int) 2 := ⟨⟨by decide, by decide, by decide +kernel⟩, wCo_X6_told, wI_X6⟩
theorem kI_X6_told : fx_mi yX6_told := ⟨wIn_X6_told, wSel_X6_told⟩
theorem kD_X6_did : fx_md yX6_did cX6_did 10 (some .int) 2 := ⟨⟨by decide, by decide, by decide +kernel⟩, wCo_X6_did, wI_X6⟩
theorem kI_X6_did : fx_mi yX6_did := ⟨wIn_X6_did, wSel_X6_did⟩
theorem kD_X6_pay : fx_md yX6_pay cX6_pay 4 (some .boolean) 1 := ⟨⟨by decide, by decide, by decide +kernel⟩, wCo_X6_pay, wI_X6⟩
theorem kI_X6_pay : fx_mi yX6_pay := ⟨wIn_X6_pay, wSel_X6_pay⟩
theorem kD_X6_copied : fx_md yX6_copied cX6_copied 8 (some .int) 1 := ⟨⟨by decide, by decide, by decide +kernel⟩, wCo_X6_copied, wI_X6⟩
theorem kI_X6_copied : fx_mi yX6_copied := ⟨wIn_X6_copied, wSel_X6_copied⟩
theorem kD_X6_crowd : fx_md yX6_crowd cX6_crowd 16 (some .int) 3 := ⟨⟨by decide, by decide, by decide +kernel⟩, wCo_X6_crowd, wI_X6⟩
theorem kI_X6_crowd : fx_mi yX6_crowd := ⟨wIn_X6_crowd, wSel_X6_crowd⟩
theorem kD_X6_type : fx_md yX6_type cX6_type 5 (some .int) 2 := ⟨⟨by decide, by decide, by decide +kernel⟩, wCo_X6_type, wI_X6⟩
theorem kI_X6_type : fx_mi yX6_type := ⟨wIn_X6_type, wSel_X6_type⟩
theorem kD_X6_clear : fx_md yX6_clear cX6_clear 2 (some .int) 0 := ⟨⟨by decide, by decide, by decide +kernel⟩, wCo_X6_clear, wI_X6⟩
theorem kI_X6_clear : fx_mi yX6_clear := ⟨wIn_X6_clear, wSel_X6_clear⟩
theorem kD_X6_read : fx_md yX6_read cX6_read 3 (some .int) 0 := ⟨⟨by decide, by decide, by decide +kernel⟩, wCo_X6_read, wI_X6⟩
theorem kI_X6_read : fx_mi yX6_read := ⟨wIn_X6_read, wSel_X6_read⟩
theorem kD_X6_look : fx_md yX6_look cX6_look 5 none 1 := ⟨⟨by decide, by decide, by decide +kernel⟩, wCo_X6_look, wI_X6⟩
theorem kI_X6_look : fx_mi yX6_look := ⟨wIn_X6_look, wSel_X6_look⟩
theorem kD_X6_isSmall : fx_md yX6_isSmall cX6_isSmall 1 (some .boolean) 1 := ⟨⟨by decide, by decide, by decide +kernel⟩, wCo_X6_isSmall, wI_X6⟩
theorem kD_X6_isFigure : fx_md yX6_isFigure cX6_isFigure 1 (some .boolean) 1 := ⟨⟨by decide, by decide, by decide +kernel⟩, wCo_X6_isFigure, wI_X6⟩
theorem kD_X6_readsItem : fx_md yX6_readsItem cX6_readsItem 3 (some .boolean) 0 := ⟨⟨by decide, by decide, by decide +kernel⟩, wCo_X6_readsItem, wI_X6⟩
theorem kI_X6_readsItem : fx_mi yX6_readsItem := ⟨wIn_X6_readsItem, wSel_X6_readsItem⟩
theorem kD_X6_isWord : fx_md yX6_isWord cX6_isWord 10 (some .boolean) 6 := ⟨⟨by decide, by decide, by decide +kernel⟩, wCo_X6_isWord, wI_X6⟩
theorem kI_X6_isWord : fx_mi yX6_isWord := ⟨wIn_X6_isWord, wSel_X6_isWord⟩
theorem kD_X6_readsThing : fx_md yX6_readsThing cX6_readsThing 2 (some .boolean) 0 := ⟨⟨by decide, by decide, by decide +kernel⟩, wCo_X6_readsThing, wI_X6⟩
theorem kI_X6_readsThing : fx_mi yX6_readsThing := ⟨wIn_X6_readsThing, wSel_X6_readsThing⟩
theorem kD_X6_goOn : fx_md yX6_goOn cX6_goOn 1 none 0 := ⟨⟨by decide, by decide, by decide +kernel⟩, wCo_X6_goOn, wI_X6⟩
theorem kI_X6_goOn : fx_mi yX6_goOn := ⟨wIn_X6_goOn, wSel_X6_goOn⟩
theorem kD_X6_takes : fx_md yX6_takes cX6_takes 4 (some .boolean) 3 := ⟨⟨by decide, by decide, by decide +kernel⟩, wCo_X6_takes, wI_X6⟩
theorem kI_X6_takes : fx_mi yX6_takes := ⟨wIn_X6_takes, wSel_X6_takes⟩
theorem kD_X6_readsSize : fx_md yX6_readsSize cX6_readsSize 3 (some .boolean) 1 := ⟨⟨by decide, by decide, by decide +kernel⟩, wCo_X6_readsSize, wI_X6⟩
theorem kI_X6_readsSize : fx_mi yX6_readsSize := ⟨wIn_X6_readsSize, wSel_X6_readsSize⟩
theorem kD_X6_readsHour : fx_md yX6_readsHour cX6_readsHour 1 (some .boolean) 0 := ⟨⟨by decide, by decide, by decide +kernel⟩, wCo_X6_readsHour, wI_X6⟩
theorem kI_X6_readsHour : fx_mi yX6_readsHour := ⟨wIn_X6_readsHour, wSel_X6_readsHour⟩
theorem kD_X6_readsDoes : fx_md yX6_readsDoes cX6_readsDoes 1 (some .boolean) 0 := ⟨⟨by decide, by decide, by decide +kernel⟩, wCo_X6_readsDoes, wI_X6⟩
theorem kI_X6_readsDoes : fx_mi yX6_readsDoes := ⟨wIn_X6_readsDoes, wSel_X6_readsDoes⟩
theorem kD_X6_readsNeed : fx_md yX6_readsNeed cX6_readsNeed 3 (some .boolean) 0 := ⟨⟨by decide, by decide, by decide +kernel⟩, wCo_X6_readsNeed, wI_X6⟩
theorem kI_X6_readsNeed : fx_mi yX6_readsNeed := ⟨wIn_X6_readsNeed, wSel_X6_readsNeed⟩
theorem kD_X6_part : fx_md yX6_part cX6_part 2 (some .long) 1 := ⟨⟨by decide, by decide, by decide +kernel⟩, wCo_X6_part, wI_X6⟩
theorem kI_X6_part : fx_mi yX6_part := ⟨wIn_X6_part, wSel_X6_part⟩
theorem kD_X6_image : fx_md yX6_image cX6_image 3 (some .int) 1 := ⟨⟨by decide, by decide, by decide +kernel⟩, wCo_X6_image, wI_X6⟩
theorem kI_X6_image : fx_mi yX6_image := ⟨wIn_X6_image, wSel_X6_image⟩
theorem kD_X6_from : fx_md yX6_from cX6_from 3 (some .int) 1 := ⟨⟨by decide, by decide, by decide +kernel⟩, wCo_X6_from, wI_X6⟩
theorem kI_X6_from : fx_mi yX6_from := ⟨wIn_X6_from, wSel_X6_from⟩
theorem kD_X6_status : fx_md yX6_status cX6_status 2 (some .int) 1 := ⟨⟨by decide, by decide, by decide +kernel⟩, wCo_X6_status, wI_X6⟩
theorem kI_X6_status : fx_mi yX6_status := ⟨wIn_X6_status, wSel_X6_status⟩
theorem kD_X6_count : fx_md yX6_count cX6_count 2 (some .int) 1 := ⟨⟨by decide, by decide, by decide +kernel⟩, wCo_X6_count, wI_X6⟩
theorem kI_X6_count : fx_mi yX6_count := ⟨wIn_X6_count, wSel_X6_count⟩
theorem kD_X6_counted : fx_md yX6_counted cX6_counted 2 (some .int) 1 := ⟨⟨by decide, by decide, by decide +kernel⟩, wCo_X6_counted, wI_X6⟩
theorem kI_X6_counted : fx_mi yX6_counted := ⟨wIn_X6_counted, wSel_X6_counted⟩
theorem kD_X6_digest : fx_md yX6_digest cX6_digest 4 (some .long) 0 := ⟨⟨by decide, by decide, by decide +kernel⟩, wCo_X6_digest, wI_X6⟩
theorem kI_X6_digest : fx_mi yX6_digest := ⟨wIn_X6_digest, wSel_X6_digest⟩
theorem kD_X6_sums : fx_md yX6_sums cX6_sums 8 (some .long) 3 := ⟨⟨by decide, by decide, by decide +kernel⟩, wCo_X6_sums, wI_X6⟩
theorem kI_X6_sums : fx_mi yX6_sums := ⟨wIn_X6_sums, wSel_X6_sums⟩
end
