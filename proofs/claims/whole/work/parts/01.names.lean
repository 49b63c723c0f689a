-- ===== PART A: goes FIRST, ahead of the names: the tables' words, and 'selects' of the private methods out of them =====
/-- a private method of a class that the tables say can be made, by its rows of tables_1 -/
def lw_okq (q : MethodName × Nat) : Prop := (q.1.cls ≠ "java/lang/invoke/MethodHandle" ∧ q.1.cls ≠ "java/lang/invoke/VarHandle") ∧ Cond.instantiable q.1.cls q.2 ∈ tables_1 ∧ Cond.privateMethod q.1 ∈ tables_1 ∧ Cond.instanceMethod q.1 ∈ tables_1
theorem lw_p0 : lw_okq (⟨"SpiteLine$Reader", "skipBlanks", "(LSpiteLine$Text;)V"⟩, 6) := ⟨⟨by decide +kernel, by decide +kernel⟩, List.mem_of_getElem? (i := 39) (by decide +kernel), List.mem_of_getElem? (i := 308) (by decide +kernel), List.mem_of_getElem? (i := 309) (by decide +kernel)⟩
theorem lw_p1 : lw_okq (⟨"SpiteLine$Reader", "readClause", "(LSpiteLine$Text;)V"⟩, 6) := ⟨⟨by decide +kernel, by decide +kernel⟩, List.mem_of_getElem? (i := 39) (by decide +kernel), List.mem_of_getElem? (i := 316) (by decide +kernel), List.mem_of_getElem? (i := 317) (by decide +kernel)⟩
theorem lw_p2 : lw_okq (⟨"SpiteLine$Reader", "blame", "(II)V"⟩, 6) := ⟨⟨by decide +kernel, by decide +kernel⟩, List.mem_of_getElem? (i := 39) (by decide +kernel), List.mem_of_getElem? (i := 324) (by decide +kernel), List.mem_of_getElem? (i := 325) (by decide +kernel)⟩
theorem lw_p3 : lw_okq (⟨"SpiteLine$Reader", "readStations", "(LSpiteLine$Text;)V"⟩, 6) := ⟨⟨by decide +kernel, by decide +kernel⟩, List.mem_of_getElem? (i := 39) (by decide +kernel), List.mem_of_getElem? (i := 328) (by decide +kernel), List.mem_of_getElem? (i := 329) (by decide +kernel)⟩
theorem lw_p4 : lw_okq (⟨"SpiteLine$Reader", "readNumber", "(LSpiteLine$Text;II)I"⟩, 6) := ⟨⟨by decide +kernel, by decide +kernel⟩, List.mem_of_getElem? (i := 39) (by decide +kernel), List.mem_of_getElem? (i := 332) (by decide +kernel), List.mem_of_getElem? (i := 333) (by decide +kernel)⟩
theorem lw_p5 : lw_okq (⟨"SpiteLine$Reader", "readEnd", "(LSpiteLine$Text;)V"⟩, 6) := ⟨⟨by decide +kernel, by decide +kernel⟩, List.mem_of_getElem? (i := 39) (by decide +kernel), List.mem_of_getElem? (i := 339) (by decide +kernel), List.mem_of_getElem? (i := 340) (by decide +kernel)⟩
theorem lw_p6 : lw_okq (⟨"SpiteLine$Reader", "readPerson", "(LSpiteLine$Text;)V"⟩, 6) := ⟨⟨by decide +kernel, by decide +kernel⟩, List.mem_of_getElem? (i := 39) (by decide +kernel), List.mem_of_getElem? (i := 343) (by decide +kernel), List.mem_of_getElem? (i := 344) (by decide +kernel)⟩
theorem lw_p7 : lw_okq (⟨"SpiteLine", "trainsRefused", "(I)I"⟩, 12) := ⟨⟨by decide +kernel, by decide +kernel⟩, List.mem_of_getElem? (i := 15) (by decide +kernel), List.mem_of_getElem? (i := 459) (by decide +kernel), List.mem_of_getElem? (i := 460) (by decide +kernel)⟩
theorem lw_p8 : lw_okq (⟨"SpiteLine$Scene", "letOut", "(LSpiteLine$Line;[II)V"⟩, 7) := ⟨⟨by decide +kernel, by decide +kernel⟩, List.mem_of_getElem? (i := 82) (by decide +kernel), List.mem_of_getElem? (i := 476) (by decide +kernel), List.mem_of_getElem? (i := 477) (by decide +kernel)⟩
theorem lw_p9 : lw_okq (⟨"SpiteLine$Scene", "takeIn", "(LSpiteLine$Line;I)V"⟩, 7) := ⟨⟨by decide +kernel, by decide +kernel⟩, List.mem_of_getElem? (i := 82) (by decide +kernel), List.mem_of_getElem? (i := 481) (by decide +kernel), List.mem_of_getElem? (i := 482) (by decide +kernel)⟩
theorem lw_p10 : lw_okq (⟨"SpiteLine$Scene", "emptyAtLast", "(LSpiteLine$Line;)V"⟩, 7) := ⟨⟨by decide +kernel, by decide +kernel⟩, List.mem_of_getElem? (i := 82) (by decide +kernel), List.mem_of_getElem? (i := 485) (by decide +kernel), List.mem_of_getElem? (i := 486) (by decide +kernel)⟩
theorem lw_p11 : lw_okq (⟨"SpiteLine", "drawDay", "()V"⟩, 12) := ⟨⟨by decide +kernel, by decide +kernel⟩, List.mem_of_getElem? (i := 15) (by decide +kernel), List.mem_of_getElem? (i := 493) (by decide +kernel), List.mem_of_getElem? (i := 494) (by decide +kernel)⟩
theorem lw_p12 : lw_okq (⟨"SpiteLine", "arrivesThough", "(II)Z"⟩, 12) := ⟨⟨by decide +kernel, by decide +kernel⟩, List.mem_of_getElem? (i := 15) (by decide +kernel), List.mem_of_getElem? (i := 538) (by decide +kernel), List.mem_of_getElem? (i := 539) (by decide +kernel)⟩
theorem lw_p13 : lw_okq (⟨"SpiteLine", "endsAt", "(II)I"⟩, 12) := ⟨⟨by decide +kernel, by decide +kernel⟩, List.mem_of_getElem? (i := 15) (by decide +kernel), List.mem_of_getElem? (i := 546) (by decide +kernel), List.mem_of_getElem? (i := 547) (by decide +kernel)⟩
theorem lw_p14 : lw_okq (⟨"SpiteLine$Witness", "tryHopeful", "(LSpiteLine$Line;LSpiteLine$Scene;I)V"⟩, 5) := ⟨⟨by decide +kernel, by decide +kernel⟩, List.mem_of_getElem? (i := 170) (by decide +kernel), List.mem_of_getElem? (i := 576) (by decide +kernel), List.mem_of_getElem? (i := 577) (by decide +kernel)⟩
theorem lw_p15 : lw_okq (⟨"SpiteLine$Witness", "fits", "(I)Z"⟩, 5) := ⟨⟨by decide +kernel, by decide +kernel⟩, List.mem_of_getElem? (i := 170) (by decide +kernel), List.mem_of_getElem? (i := 581) (by decide +kernel), List.mem_of_getElem? (i := 582) (by decide +kernel)⟩
def lw_privs_1 : List (MethodName × Nat) := [(⟨"SpiteLine$Reader", "skipBlanks", "(LSpiteLine$Text;)V"⟩, 6), (⟨"SpiteLine$Reader", "readClause", "(LSpiteLine$Text;)V"⟩, 6), (⟨"SpiteLine$Reader", "blame", "(II)V"⟩, 6), (⟨"SpiteLine$Reader", "readStations", "(LSpiteLine$Text;)V"⟩, 6), (⟨"SpiteLine$Reader", "readNumber", "(LSpiteLine$Text;II)I"⟩, 6), (⟨"SpiteLine$Reader", "readEnd", "(LSpiteLine$Text;)V"⟩, 6), (⟨"SpiteLine$Reader", "readPerson", "(LSpiteLine$Text;)V"⟩, 6), (⟨"SpiteLine", "trainsRefused", "(I)I"⟩, 12), (⟨"SpiteLine$Scene", "letOut", "(LSpiteLine$Line;[II)V"⟩, 7), (⟨"SpiteLine$Scene", "takeIn", "(LSpiteLine$Line;I)V"⟩, 7), (⟨"SpiteLine$Scene", "emptyAtLast", "(LSpiteLine$Line;)V"⟩, 7), (⟨"SpiteLine", "drawDay", "()V"⟩, 12), (⟨"SpiteLine", "arrivesThough", "(II)Z"⟩, 12), (⟨"SpiteLine", "endsAt", "(II)I"⟩, 12), (⟨"SpiteLine$Witness", "tryHopeful", "(LSpiteLine$Line;LSpiteLine$Scene;I)V"⟩, 5), (⟨"SpiteLine$Witness", "fits", "(I)Z"⟩, 5)]
theorem lw_r1 : ∀ q ∈ lw_privs_1, lw_okq q := List.forall_mem_cons.mpr ⟨lw_p0, List.forall_mem_cons.mpr ⟨lw_p1, List.forall_mem_cons.mpr ⟨lw_p2, List.forall_mem_cons.mpr ⟨lw_p3, List.forall_mem_cons.mpr ⟨lw_p4, List.forall_mem_cons.mpr ⟨lw_p5, List.forall_mem_cons.mpr ⟨lw_p6, List.forall_mem_cons.mpr ⟨lw_p7, List.forall_mem_cons.mpr ⟨lw_p8, List.forall_mem_cons.mpr ⟨lw_p9, List.forall_mem_cons.mpr ⟨lw_p10, List.forall_mem_cons.mpr ⟨lw_p11, List.forall_mem_cons.mpr ⟨lw_p12, List.forall_mem_cons.mpr ⟨lw_p13, List.forall_mem_cons.mpr ⟨lw_p14, List.forall_mem_cons.mpr ⟨lw_p15, fun _ h => absurd h List.not_mem_nil⟩⟩⟩⟩⟩⟩⟩⟩⟩⟩⟩⟩⟩⟩⟩⟩
theorem lw_p16 : lw_okq (⟨"SpiteLineModel", "skip", "()V"⟩, 35) := ⟨⟨by decide +kernel, by decide +kernel⟩, List.mem_of_getElem? (i := 635) (by decide +kernel), List.mem_of_getElem? (i := 761) (by decide +kernel), List.mem_of_getElem? (i := 762) (by decide +kernel)⟩
theorem lw_p17 : lw_okq (⟨"SpiteLineModel", "here", "()I"⟩, 35) := ⟨⟨by decide +kernel, by decide +kernel⟩, List.mem_of_getElem? (i := 635) (by decide +kernel), List.mem_of_getElem? (i := 765) (by decide +kernel), List.mem_of_getElem? (i := 766) (by decide +kernel)⟩
theorem lw_p18 : lw_okq (⟨"SpiteLineModel", "readsLine", "()Z"⟩, 35) := ⟨⟨by decide +kernel, by decide +kernel⟩, List.mem_of_getElem? (i := 635) (by decide +kernel), List.mem_of_getElem? (i := 769) (by decide +kernel), List.mem_of_getElem? (i := 770) (by decide +kernel)⟩
theorem lw_p19 : lw_okq (⟨"SpiteLineModel", "readsFirst", "()Z"⟩, 35) := ⟨⟨by decide +kernel, by decide +kernel⟩, List.mem_of_getElem? (i := 635) (by decide +kernel), List.mem_of_getElem? (i := 773) (by decide +kernel), List.mem_of_getElem? (i := 774) (by decide +kernel)⟩
theorem lw_p20 : lw_okq (⟨"SpiteLineModel", "sign", "(I)Z"⟩, 35) := ⟨⟨by decide +kernel, by decide +kernel⟩, List.mem_of_getElem? (i := 635) (by decide +kernel), List.mem_of_getElem? (i := 777) (by decide +kernel), List.mem_of_getElem? (i := 778) (by decide +kernel)⟩
theorem lw_p21 : lw_okq (⟨"SpiteLineModel", "fails", "(I)Z"⟩, 35) := ⟨⟨by decide +kernel, by decide +kernel⟩, List.mem_of_getElem? (i := 635) (by decide +kernel), List.mem_of_getElem? (i := 781) (by decide +kernel), List.mem_of_getElem? (i := 782) (by decide +kernel)⟩
theorem lw_p22 : lw_okq (⟨"SpiteLineModel", "number", "(II)Z"⟩, 35) := ⟨⟨by decide +kernel, by decide +kernel⟩, List.mem_of_getElem? (i := 635) (by decide +kernel), List.mem_of_getElem? (i := 785) (by decide +kernel), List.mem_of_getElem? (i := 786) (by decide +kernel)⟩
theorem lw_p23 : lw_okq (⟨"SpiteLineModel", "readsPerson", "()Z"⟩, 35) := ⟨⟨by decide +kernel, by decide +kernel⟩, List.mem_of_getElem? (i := 635) (by decide +kernel), List.mem_of_getElem? (i := 789) (by decide +kernel), List.mem_of_getElem? (i := 790) (by decide +kernel)⟩
theorem lw_p24 : lw_okq (⟨"SpiteLineModel", "readsMet", "(I)Z"⟩, 35) := ⟨⟨by decide +kernel, by decide +kernel⟩, List.mem_of_getElem? (i := 635) (by decide +kernel), List.mem_of_getElem? (i := 793) (by decide +kernel), List.mem_of_getElem? (i := 794) (by decide +kernel)⟩
theorem lw_p25 : lw_okq (⟨"SpiteLineModel", "awaitedSet", "()I"⟩, 35) := ⟨⟨by decide +kernel, by decide +kernel⟩, List.mem_of_getElem? (i := 635) (by decide +kernel), List.mem_of_getElem? (i := 805) (by decide +kernel), List.mem_of_getElem? (i := 806) (by decide +kernel)⟩
theorem lw_p26 : lw_okq (⟨"SpiteLineModel", "isAwaited", "(I)Z"⟩, 35) := ⟨⟨by decide +kernel, by decide +kernel⟩, List.mem_of_getElem? (i := 635) (by decide +kernel), List.mem_of_getElem? (i := 809) (by decide +kernel), List.mem_of_getElem? (i := 810) (by decide +kernel)⟩
theorem lw_p27 : lw_okq (⟨"SpiteLineModel", "shows", "(I)I"⟩, 35) := ⟨⟨by decide +kernel, by decide +kernel⟩, List.mem_of_getElem? (i := 635) (by decide +kernel), List.mem_of_getElem? (i := 813) (by decide +kernel), List.mem_of_getElem? (i := 814) (by decide +kernel)⟩
theorem lw_p28 : lw_okq (⟨"SpiteLineModel", "arrivedSet", "()I"⟩, 35) := ⟨⟨by decide +kernel, by decide +kernel⟩, List.mem_of_getElem? (i := 635) (by decide +kernel), List.mem_of_getElem? (i := 817) (by decide +kernel), List.mem_of_getElem? (i := 818) (by decide +kernel)⟩
theorem lw_p29 : lw_okq (⟨"SpiteLineModel", "isPerson", "(I)Z"⟩, 35) := ⟨⟨by decide +kernel, by decide +kernel⟩, List.mem_of_getElem? (i := 635) (by decide +kernel), List.mem_of_getElem? (i := 825) (by decide +kernel), List.mem_of_getElem? (i := 826) (by decide +kernel)⟩
theorem lw_p30 : lw_okq (⟨"SpiteLineModel", "isStation", "(I)Z"⟩, 35) := ⟨⟨by decide +kernel, by decide +kernel⟩, List.mem_of_getElem? (i := 635) (by decide +kernel), List.mem_of_getElem? (i := 834) (by decide +kernel), List.mem_of_getElem? (i := 835) (by decide +kernel)⟩
theorem lw_p31 : lw_okq (⟨"SpiteLineModel", "notes", "()V"⟩, 35) := ⟨⟨by decide +kernel, by decide +kernel⟩, List.mem_of_getElem? (i := 635) (by decide +kernel), List.mem_of_getElem? (i := 842) (by decide +kernel), List.mem_of_getElem? (i := 843) (by decide +kernel)⟩
def lw_privs_2 : List (MethodName × Nat) := [(⟨"SpiteLineModel", "skip", "()V"⟩, 35), (⟨"SpiteLineModel", "here", "()I"⟩, 35), (⟨"SpiteLineModel", "readsLine", "()Z"⟩, 35), (⟨"SpiteLineModel", "readsFirst", "()Z"⟩, 35), (⟨"SpiteLineModel", "sign", "(I)Z"⟩, 35), (⟨"SpiteLineModel", "fails", "(I)Z"⟩, 35), (⟨"SpiteLineModel", "number", "(II)Z"⟩, 35), (⟨"SpiteLineModel", "readsPerson", "()Z"⟩, 35), (⟨"SpiteLineModel", "readsMet", "(I)Z"⟩, 35), (⟨"SpiteLineModel", "awaitedSet", "()I"⟩, 35), (⟨"SpiteLineModel", "isAwaited", "(I)Z"⟩, 35), (⟨"SpiteLineModel", "shows", "(I)I"⟩, 35), (⟨"SpiteLineModel", "arrivedSet", "()I"⟩, 35), (⟨"SpiteLineModel", "isPerson", "(I)Z"⟩, 35), (⟨"SpiteLineModel", "isStation", "(I)Z"⟩, 35), (⟨"SpiteLineModel", "notes", "()V"⟩, 35)]
theorem lw_r2 : ∀ q ∈ lw_privs_2, lw_okq q := List.forall_mem_cons.mpr ⟨lw_p16, List.forall_mem_cons.mpr ⟨lw_p17, List.forall_mem_cons.mpr ⟨lw_p18, List.forall_mem_cons.mpr ⟨lw_p19, List.forall_mem_cons.mpr ⟨lw_p20, List.forall_mem_cons.mpr ⟨lw_p21, List.forall_mem_cons.mpr ⟨lw_p22, List.forall_mem_cons.mpr ⟨lw_p23, List.forall_mem_cons.mpr ⟨lw_p24, List.forall_mem_cons.mpr ⟨lw_p25, List.forall_mem_cons.mpr ⟨lw_p26, List.forall_mem_cons.mpr ⟨lw_p27, List.forall_mem_cons.mpr ⟨lw_p28, List.forall_mem_cons.mpr ⟨lw_p29, List.forall_mem_cons.mpr ⟨lw_p30, List.forall_mem_cons.mpr ⟨lw_p31, fun _ h => absurd h List.not_mem_nil⟩⟩⟩⟩⟩⟩⟩⟩⟩⟩⟩⟩⟩⟩⟩⟩
theorem lw_p32 : lw_okq (⟨"SpiteLineModel", "laysBy", "([II)V"⟩, 35) := ⟨⟨by decide +kernel, by decide +kernel⟩, List.mem_of_getElem? (i := 635) (by decide +kernel), List.mem_of_getElem? (i := 846) (by decide +kernel), List.mem_of_getElem? (i := 847) (by decide +kernel)⟩
theorem lw_p33 : lw_okq (⟨"SpiteLineModel", "run", "(I)V"⟩, 35) := ⟨⟨by decide +kernel, by decide +kernel⟩, List.mem_of_getElem? (i := 635) (by decide +kernel), List.mem_of_getElem? (i := 871) (by decide +kernel), List.mem_of_getElem? (i := 872) (by decide +kernel)⟩
theorem lw_p34 : lw_okq (⟨"SpiteLineModel", "getOut", "(IZ)V"⟩, 35) := ⟨⟨by decide +kernel, by decide +kernel⟩, List.mem_of_getElem? (i := 635) (by decide +kernel), List.mem_of_getElem? (i := 878) (by decide +kernel), List.mem_of_getElem? (i := 879) (by decide +kernel)⟩
theorem lw_p35 : lw_okq (⟨"SpiteLineModel", "drawn", "(I)I"⟩, 35) := ⟨⟨by decide +kernel, by decide +kernel⟩, List.mem_of_getElem? (i := 635) (by decide +kernel), List.mem_of_getElem? (i := 886) (by decide +kernel), List.mem_of_getElem? (i := 887) (by decide +kernel)⟩
theorem lw_p36 : lw_okq (⟨"SpiteLineModel", "read", "([II)V"⟩, 35) := ⟨⟨by decide +kernel, by decide +kernel⟩, List.mem_of_getElem? (i := 635) (by decide +kernel), List.mem_of_getElem? (i := 898) (by decide +kernel), List.mem_of_getElem? (i := 899) (by decide +kernel)⟩
theorem lw_p37 : lw_okq (⟨"SpiteLineModel", "nextStops", "()I"⟩, 35) := ⟨⟨by decide +kernel, by decide +kernel⟩, List.mem_of_getElem? (i := 635) (by decide +kernel), List.mem_of_getElem? (i := 906) (by decide +kernel), List.mem_of_getElem? (i := 907) (by decide +kernel)⟩
theorem lw_p38 : lw_okq (⟨"SpiteLineModel", "begin", "()V"⟩, 35) := ⟨⟨by decide +kernel, by decide +kernel⟩, List.mem_of_getElem? (i := 635) (by decide +kernel), List.mem_of_getElem? (i := 910) (by decide +kernel), List.mem_of_getElem? (i := 911) (by decide +kernel)⟩
theorem lw_p39 : lw_okq (⟨"SpiteLineModel", "back", "()V"⟩, 35) := ⟨⟨by decide +kernel, by decide +kernel⟩, List.mem_of_getElem? (i := 635) (by decide +kernel), List.mem_of_getElem? (i := 914) (by decide +kernel), List.mem_of_getElem? (i := 915) (by decide +kernel)⟩
theorem lw_p40 : lw_okq (⟨"SpiteLineModel", "setHopes", "()V"⟩, 35) := ⟨⟨by decide +kernel, by decide +kernel⟩, List.mem_of_getElem? (i := 635) (by decide +kernel), List.mem_of_getElem? (i := 955) (by decide +kernel), List.mem_of_getElem? (i := 956) (by decide +kernel)⟩
theorem lw_p41 : lw_okq (⟨"SpiteLineModel", "goesSo", "(I)Z"⟩, 35) := ⟨⟨by decide +kernel, by decide +kernel⟩, List.mem_of_getElem? (i := 635) (by decide +kernel), List.mem_of_getElem? (i := 959) (by decide +kernel), List.mem_of_getElem? (i := 960) (by decide +kernel)⟩
def lw_privs_3 : List (MethodName × Nat) := [(⟨"SpiteLineModel", "laysBy", "([II)V"⟩, 35), (⟨"SpiteLineModel", "run", "(I)V"⟩, 35), (⟨"SpiteLineModel", "getOut", "(IZ)V"⟩, 35), (⟨"SpiteLineModel", "drawn", "(I)I"⟩, 35), (⟨"SpiteLineModel", "read", "([II)V"⟩, 35), (⟨"SpiteLineModel", "nextStops", "()I"⟩, 35), (⟨"SpiteLineModel", "begin", "()V"⟩, 35), (⟨"SpiteLineModel", "back", "()V"⟩, 35), (⟨"SpiteLineModel", "setHopes", "()V"⟩, 35), (⟨"SpiteLineModel", "goesSo", "(I)Z"⟩, 35)]
theorem lw_r3 : ∀ q ∈ lw_privs_3, lw_okq q := List.forall_mem_cons.mpr ⟨lw_p32, List.forall_mem_cons.mpr ⟨lw_p33, List.forall_mem_cons.mpr ⟨lw_p34, List.forall_mem_cons.mpr ⟨lw_p35, List.forall_mem_cons.mpr ⟨lw_p36, List.forall_mem_cons.mpr ⟨lw_p37, List.forall_mem_cons.mpr ⟨lw_p38, List.forall_mem_cons.mpr ⟨lw_p39, List.forall_mem_cons.mpr ⟨lw_p40, List.forall_mem_cons.mpr ⟨lw_p41, fun _ h => absurd h List.not_mem_nil⟩⟩⟩⟩⟩⟩⟩⟩⟩⟩
def lw_privs : List (MethodName × Nat) := lw_privs_1 ++ (lw_privs_2 ++ (lw_privs_3))
def lw_tbl : List Cond := k2_sels lw_privs ++ tables_1
theorem lw_privs_ok : ∀ q ∈ lw_privs, lw_okq q := by
  show ∀ q ∈ lw_privs_1 ++ (lw_privs_2 ++ (lw_privs_3)), lw_okq q
  exact List.forall_mem_append.mpr ⟨lw_r1, List.forall_mem_append.mpr ⟨lw_r2, lw_r3⟩⟩
/-! the classes: names, fields, types (out of the claim's printed names) -/
def RX0 : String := "SpiteLine$Book"
def TX0 : u_T := fun k => match k with
  | 0 => ("SpiteLine$Book", "who", "[I", true)
  | 1 => ("SpiteLine$Book", "stands", "[I", true)
  | _ => ("SpiteLine$Book", "count", "I", false)
def tyX0 : Nat → FieldType := fun k => match k with
  | 0 => .array .int
  | 1 => .array .int
  | _ => .int
abbrev wsX00 : List Cond := u_ws RX0 TX0 3
theorem nmX0 : ∀ a, a < 3 → ∀ b, b < 3 → a ≠ b → (TX0 a).2.1 ≠ (TX0 b).2.1 := by decide +kernel
theorem tyX0_ok : ∀ k, k < 3 → parseFieldDescriptor (TX0 k).2.2.1 = some (tyX0 k) := by decide +kernel
def RX1 : String := "SpiteLine$Deeds"
def TX1 : u_T := fun k => match k with
  | 0 => ("SpiteLine$Deeds", "scenes", "[LSpiteLine$Scene;", true)
  | 1 => ("SpiteLine$Deeds", "first", "I", false)
  | _ => ("SpiteLine$Deeds", "count", "I", false)
def tyX1 : Nat → FieldType := fun k => match k with
  | 0 => .array (.object "SpiteLine$Scene")
  | 1 => .int
  | _ => .int
abbrev wsX10 : List Cond := u_ws RX1 TX1 3
theorem nmX1 : ∀ a, a < 3 → ∀ b, b < 3 → a ≠ b → (TX1 a).2.1 ≠ (TX1 b).2.1 := by decide +kernel
theorem tyX1_ok : ∀ k, k < 3 → parseFieldDescriptor (TX1 k).2.2.1 = some (tyX1 k) := by decide +kernel
def RX2 : String := "SpiteLine$Draws"
def TX2 : u_T := fun k => match k with
  | _ => ("SpiteLine$Draws", "state", "I", false)
def tyX2 : Nat → FieldType := fun k => match k with
  | _ => .int
abbrev wsX20 : List Cond := u_ws RX2 TX2 1
theorem nmX2 : ∀ a, a < 1 → ∀ b, b < 1 → a ≠ b → (TX2 a).2.1 ≠ (TX2 b).2.1 := by decide +kernel
theorem tyX2_ok : ∀ k, k < 1 → parseFieldDescriptor (TX2 k).2.2.1 = some (tyX2 k) := by decide +kernel
def RX3 : String := "SpiteLine$Image"
def TX3 : u_T := fun k => match k with
  | 0 => ("SpiteLine$Image", "scene", "LSpiteLine$Scene;", true)
  | 1 => ("SpiteLine$Image", "seedThen", "I", false)
  | _ => ("SpiteLine$Image", "kept", "Z", false)
def tyX3 : Nat → FieldType := fun k => match k with
  | 0 => .object "SpiteLine$Scene"
  | 1 => .int
  | _ => .boolean
abbrev wsX30 : List Cond := u_ws RX3 TX3 3
theorem nmX3 : ∀ a, a < 3 → ∀ b, b < 3 → a ≠ b → (TX3 a).2.1 ≠ (TX3 b).2.1 := by decide +kernel
theorem tyX3_ok : ∀ k, k < 3 → parseFieldDescriptor (TX3 k).2.2.1 = some (tyX3 k) := by decide +kernel
def RX4 : String := "SpiteLine$Line"
def TX4 : u_T := fun k => match k with
  | 0 => ("SpiteLine$Line", "stations", "I", false)
  | 1 => ("SpiteLine$Line", "limit", "I", false)
  | 2 => ("SpiteLine$Line", "persons", "I", false)
  | 3 => ("SpiteLine$Line", "wants", "[I", true)
  | _ => ("SpiteLine$Line", "met", "[I", true)
def tyX4 : Nat → FieldType := fun k => match k with
  | 0 => .int
  | 1 => .int
  | 2 => .int
  | 3 => .array .int
  | _ => .array .int
abbrev wsX40 : List Cond := u_ws RX4 TX4 5
theorem nmX4 : ∀ a, a < 5 → ∀ b, b < 5 → a ≠ b → (TX4 a).2.1 ≠ (TX4 b).2.1 := by decide +kernel
theorem tyX4_ok : ∀ k, k < 5 → parseFieldDescriptor (TX4 k).2.2.1 = some (tyX4 k) := by decide +kernel
def RX5 : String := "SpiteLine$Reader"
def TX5 : u_T := fun k => match k with
  | 0 => ("SpiteLine$Reader", "line", "LSpiteLine$Line;", true)
  | 1 => ("SpiteLine$Reader", "scene", "LSpiteLine$Scene;", true)
  | 2 => ("SpiteLine$Reader", "kind", "I", false)
  | 3 => ("SpiteLine$Reader", "place", "I", false)
  | 4 => ("SpiteLine$Reader", "at", "I", false)
  | _ => ("SpiteLine$Reader", "numberAt", "I", false)
def tyX5 : Nat → FieldType := fun k => match k with
  | 0 => .object "SpiteLine$Line"
  | 1 => .object "SpiteLine$Scene"
  | 2 => .int
  | 3 => .int
  | 4 => .int
  | _ => .int
abbrev wsX50 : List Cond := u_ws RX5 TX5 6
theorem nmX5 : ∀ a, a < 6 → ∀ b, b < 6 → a ≠ b → (TX5 a).2.1 ≠ (TX5 b).2.1 := by decide +kernel
theorem tyX5_ok : ∀ k, k < 6 → parseFieldDescriptor (TX5 k).2.2.1 = some (tyX5 k) := by decide +kernel
def RX6 : String := "SpiteLine$Scene"
def TX6 : u_T := fun k => match k with
  | 0 => ("SpiteLine$Scene", "where", "[I", true)
  | 1 => ("SpiteLine$Scene", "mien", "[I", true)
  | 2 => ("SpiteLine$Scene", "feet", "I", false)
  | 3 => ("SpiteLine$Scene", "flowers", "I", false)
  | 4 => ("SpiteLine$Scene", "fog", "I", false)
  | 5 => ("SpiteLine$Scene", "trains", "I", false)
  | _ => ("SpiteLine$Scene", "stopped", "I", false)
def tyX6 : Nat → FieldType := fun k => match k with
  | 0 => .array .int
  | 1 => .array .int
  | 2 => .int
  | 3 => .int
  | 4 => .int
  | 5 => .int
  | _ => .int
abbrev wsX60 : List Cond := u_ws RX6 TX6 7
theorem nmX6 : ∀ a, a < 7 → ∀ b, b < 7 → a ≠ b → (TX6 a).2.1 ≠ (TX6 b).2.1 := by decide +kernel
theorem tyX6_ok : ∀ k, k < 7 → parseFieldDescriptor (TX6 k).2.2.1 = some (tyX6 k) := by decide +kernel
def RX7 : String := "SpiteLine$Text"
def TX7 : u_T := fun k => match k with
  | 0 => ("SpiteLine$Text", "letters", "[I", true)
  | _ => ("SpiteLine$Text", "length", "I", false)
def tyX7 : Nat → FieldType := fun k => match k with
  | 0 => .array .int
  | _ => .int
abbrev wsX70 : List Cond := u_ws RX7 TX7 2
theorem nmX7 : ∀ a, a < 2 → ∀ b, b < 2 → a ≠ b → (TX7 a).2.1 ≠ (TX7 b).2.1 := by decide +kernel
theorem tyX7_ok : ∀ k, k < 2 → parseFieldDescriptor (TX7 k).2.2.1 = some (tyX7 k) := by decide +kernel
def RX8 : String := "SpiteLine$Witness"
def TX8 : u_T := fun k => match k with
  | 0 => ("SpiteLine$Witness", "stations", "[I", true)
  | 1 => ("SpiteLine$Witness", "halts", "[Z", true)
  | 2 => ("SpiteLine$Witness", "count", "I", false)
  | 3 => ("SpiteLine$Witness", "sets", "[I", true)
  | _ => ("SpiteLine$Witness", "found", "I", false)
def tyX8 : Nat → FieldType := fun k => match k with
  | 0 => .array .int
  | 1 => .array .boolean
  | 2 => .int
  | 3 => .array .int
  | _ => .int
abbrev wsX80 : List Cond := u_ws RX8 TX8 5
theorem nmX8 : ∀ a, a < 5 → ∀ b, b < 5 → a ≠ b → (TX8 a).2.1 ≠ (TX8 b).2.1 := by decide +kernel
theorem tyX8_ok : ∀ k, k < 5 → parseFieldDescriptor (TX8 k).2.2.1 = some (tyX8 k) := by decide +kernel
def RX9 : String := "SpiteLine"
def TX9 : u_T := fun k => match k with
  | 0 => ("SpiteLine", "text", "LSpiteLine$Text;", true)
  | 1 => ("SpiteLine", "reader", "LSpiteLine$Reader;", true)
  | 2 => ("SpiteLine", "line", "LSpiteLine$Line;", true)
  | 3 => ("SpiteLine", "now", "LSpiteLine$Scene;", true)
  | 4 => ("SpiteLine", "trial", "LSpiteLine$Scene;", true)
  | 5 => ("SpiteLine", "trialMet", "[I", true)
  | 6 => ("SpiteLine", "deeds", "LSpiteLine$Deeds;", true)
  | 7 => ("SpiteLine", "witness", "LSpiteLine$Witness;", true)
  | 8 => ("SpiteLine", "book", "LSpiteLine$Book;", true)
  | 9 => ("SpiteLine", "draws", "LSpiteLine$Draws;", true)
  | 10 => ("SpiteLine", "images", "[LSpiteLine$Image;", true)
  | _ => ("SpiteLine", "faultAt", "I", false)
def tyX9 : Nat → FieldType := fun k => match k with
  | 0 => .object "SpiteLine$Text"
  | 1 => .object "SpiteLine$Reader"
  | 2 => .object "SpiteLine$Line"
  | 3 => .object "SpiteLine$Scene"
  | 4 => .object "SpiteLine$Scene"
  | 5 => .array .int
  | 6 => .object "SpiteLine$Deeds"
  | 7 => .object "SpiteLine$Witness"
  | 8 => .object "SpiteLine$Book"
  | 9 => .object "SpiteLine$Draws"
  | 10 => .array (.object "SpiteLine$Image")
  | _ => .int
abbrev wsX90 : List Cond := u_ws RX9 TX9 12
theorem nmX9 : ∀ a, a < 12 → ∀ b, b < 12 → a ≠ b → (TX9 a).2.1 ≠ (TX9 b).2.1 := by decide +kernel
theorem tyX9_ok : ∀ k, k < 12 → parseFieldDescriptor (TX9 k).2.2.1 = some (tyX9 k) := by decide +kernel
def RX10 : String := "SpiteLineModel"
def TX10 : u_T := fun k => match k with
  | 0 => ("SpiteLineModel", "text", "[I", true)
  | 1 => ("SpiteLineModel", "fed", "I", false)
  | 2 => ("SpiteLineModel", "faultAt", "I", false)
  | 3 => ("SpiteLineModel", "readAt", "I", false)
  | 4 => ("SpiteLineModel", "readFault", "I", false)
  | 5 => ("SpiteLineModel", "readNumber", "I", false)
  | 6 => ("SpiteLineModel", "readMany", "I", false)
  | 7 => ("SpiteLineModel", "readLine", "[I", true)
  | 8 => ("SpiteLineModel", "readPersons", "[I", true)
  | 9 => ("SpiteLineModel", "stations", "I", false)
  | 10 => ("SpiteLineModel", "limit", "I", false)
  | 11 => ("SpiteLineModel", "fog", "I", false)
  | 12 => ("SpiteLineModel", "many", "I", false)
  | 13 => ("SpiteLineModel", "trains", "I", false)
  | 14 => ("SpiteLineModel", "stopped", "I", false)
  | 15 => ("SpiteLineModel", "at", "[I", true)
  | 16 => ("SpiteLineModel", "wants", "[I", true)
  | 17 => ("SpiteLineModel", "met", "[I", true)
  | 18 => ("SpiteLineModel", "miens", "[I", true)
  | 19 => ("SpiteLineModel", "feets", "[I", true)
  | 20 => ("SpiteLineModel", "flowerOf", "[I", true)
  | 21 => ("SpiteLineModel", "deeds", "[I", true)
  | 22 => ("SpiteLineModel", "deedMany", "I", false)
  | 23 => ("SpiteLineModel", "aside", "[I", true)
  | 24 => ("SpiteLineModel", "seed", "J", false)
  | 25 => ("SpiteLineModel", "runAt", "[I", true)
  | 26 => ("SpiteLineModel", "runStops", "[I", true)
  | 27 => ("SpiteLineModel", "runMany", "I", false)
  | 28 => ("SpiteLineModel", "sets", "[I", true)
  | 29 => ("SpiteLineModel", "setMany", "I", false)
  | 30 => ("SpiteLineModel", "entries", "[I", true)
  | 31 => ("SpiteLineModel", "entryMany", "I", false)
  | 32 => ("SpiteLineModel", "images", "[I", true)
  | 33 => ("SpiteLineModel", "seeds", "[J", true)
  | _ => ("SpiteLineModel", "isKept", "[I", true)
def tyX10 : Nat → FieldType := fun k => match k with
  | 0 => .array .int
  | 1 => .int
  | 2 => .int
  | 3 => .int
  | 4 => .int
  | 5 => .int
  | 6 => .int
  | 7 => .array .int
  | 8 => .array .int
  | 9 => .int
  | 10 => .int
  | 11 => .int
  | 12 => .int
  | 13 => .int
  | 14 => .int
  | 15 => .array .int
  | 16 => .array .int
  | 17 => .array .int
  | 18 => .array .int
  | 19 => .array .int
  | 20 => .array .int
  | 21 => .array .int
  | 22 => .int
  | 23 => .array .int
  | 24 => .long
  | 25 => .array .int
  | 26 => .array .int
  | 27 => .int
  | 28 => .array .int
  | 29 => .int
  | 30 => .array .int
  | 31 => .int
  | 32 => .array .int
  | 33 => .array .long
  | _ => .array .int
abbrev wsX100 : List Cond := u_ws RX10 TX10 35
theorem nmX10 : ∀ a, a < 35 → ∀ b, b < 35 → a ≠ b → (TX10 a).2.1 ≠ (TX10 b).2.1 := by decide +kernel
theorem tyX10_ok : ∀ k, k < 35 → parseFieldDescriptor (TX10 k).2.2.1 = some (tyX10 k) := by decide +kernel
def am_cl : List vw_C := [(RX0, TX0, 3), (RX1, TX1, 3), (RX2, TX2, 1), (RX3, TX3, 3), (RX4, TX4, 5), (RX5, TX5, 6), (RX6, TX6, 7), (RX7, TX7, 2), (RX8, TX8, 5), (RX9, TX9, 12), (RX10, TX10, 35)]
def am_own (o : Nat) : String := match o with
  | 0 => "SpiteLine$Book"
  | 1 => "SpiteLine$Deeds"
  | 2 => "SpiteLine$Draws"
  | 3 => "SpiteLine$Image"
  | 4 => "SpiteLine$Line"
  | 5 => "SpiteLine$Reader"
  | 6 => "SpiteLine$Scene"
  | 7 => "SpiteLine$Text"
  | 8 => "SpiteLine$Witness"
  | 9 => "SpiteLine"
  | 10 => "SpiteLineModel"
  | 11 => "SpiteLineLaw"
  | _ => "java/lang/Math"
def am_fty (ci : Nat) : Nat → FieldType := match ci with
  | 0 => tyX0
  | 1 => tyX1
  | 2 => tyX2
  | 3 => tyX3
  | 4 => tyX4
  | 5 => tyX5
  | 6 => tyX6
  | 7 => tyX7
  | 8 => tyX8
  | 9 => tyX9
  | 10 => tyX10
  | _ => fun _ => .int
def am_ft (ci : Nat) : u_T := match ci with
  | 0 => TX0
  | 1 => TX1
  | 2 => TX2
  | 3 => TX3
  | 4 => TX4
  | 5 => TX5
  | 6 => TX6
  | 7 => TX7
  | 8 => TX8
  | 9 => TX9
  | 10 => TX10
  | _ => fun _ => ("", "", "", false)
